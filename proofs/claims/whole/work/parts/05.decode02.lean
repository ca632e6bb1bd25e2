theorem dX11_step_318 : decode cX11_step 318 = .ok (.putfield 173, 3) := by decide +kernel
theorem dX11_step_321 : decode cX11_step 321 = .ok (.iload_n 2, 1) := by decide +kernel
theorem dX11_step_322 : decode cX11_step 322 = .ok (.ifCond .ne 8, 3) := by decide +kernel
theorem dX11_step_325 : decode cX11_step 325 = .ok (.aload_n 0, 1) := by decide +kernel
theorem dX11_step_326 : decode cX11_step 326 = .ok (.iconst 0, 1) := by decide +kernel
theorem dX11_step_327 : decode cX11_step 327 = .ok (.putfield 176, 3) := by decide +kernel
theorem dX11_step_330 : decode cX11_step 330 = .ok (.iload_n 2, 1) := by decide +kernel
theorem dX11_step_331 : decode cX11_step 331 = .ok (.ireturn, 1) := by decide +kernel
theorem dX11_sets_0 : decode cX11_sets 0 = .ok (.iconst 0, 1) := by decide +kernel
theorem dX11_sets_1 : decode cX11_sets 1 = .ok (.istore_n 2, 1) := by decide +kernel
theorem dX11_sets_2 : decode cX11_sets 2 = .ok (.aload_n 0, 1) := by decide +kernel
theorem dX11_sets_3 : decode cX11_sets 3 = .ok (.getfield 144, 3) := by decide +kernel
theorem dX11_sets_6 : decode cX11_sets 6 = .ok (.ifCond .lt 18, 3) := by decide +kernel
theorem dX11_sets_9 : decode cX11_sets 9 = .ok (.aload_n 0, 1) := by decide +kernel
theorem dX11_sets_10 : decode cX11_sets 10 = .ok (.getfield 144, 3) := by decide +kernel
theorem dX11_sets_13 : decode cX11_sets 13 = .ok (.bipush 20, 2) := by decide +kernel
theorem dX11_sets_15 : decode cX11_sets 15 = .ok (.ishr, 1) := by decide +kernel
theorem dX11_sets_16 : decode cX11_sets 16 = .ok (.sipush 2047, 3) := by decide +kernel
theorem dX11_sets_19 : decode cX11_sets 19 = .ok (.iand, 1) := by decide +kernel
theorem dX11_sets_20 : decode cX11_sets 20 = .ok (.istore_n 1, 1) := by decide +kernel
theorem dX11_sets_21 : decode cX11_sets 21 = .ok (.goto 58, 3) := by decide +kernel
theorem dX11_sets_24 : decode cX11_sets 24 = .ok (.aload_n 0, 1) := by decide +kernel
theorem dX11_sets_25 : decode cX11_sets 25 = .ok (.getfield 144, 3) := by decide +kernel
theorem dX11_sets_28 : decode cX11_sets 28 = .ok (.bipush 30, 2) := by decide +kernel
theorem dX11_sets_30 : decode cX11_sets 30 = .ok (.iushr, 1) := by decide +kernel
theorem dX11_sets_31 : decode cX11_sets 31 = .ok (.iconst 3, 1) := by decide +kernel
theorem dX11_sets_32 : decode cX11_sets 32 = .ok (.if_icmp .ne 20, 3) := by decide +kernel
theorem dX11_sets_35 : decode cX11_sets 35 = .ok (.aload_n 0, 1) := by decide +kernel
theorem dX11_sets_36 : decode cX11_sets 36 = .ok (.getfield 144, 3) := by decide +kernel
theorem dX11_sets_39 : decode cX11_sets 39 = .ok (.bipush 20, 2) := by decide +kernel
theorem dX11_sets_41 : decode cX11_sets 41 = .ok (.ishr, 1) := by decide +kernel
theorem dX11_sets_42 : decode cX11_sets 42 = .ok (.sipush 1023, 3) := by decide +kernel
theorem dX11_sets_45 : decode cX11_sets 45 = .ok (.iand, 1) := by decide +kernel
theorem dX11_sets_46 : decode cX11_sets 46 = .ok (.istore_n 1, 1) := by decide +kernel
theorem dX11_sets_47 : decode cX11_sets 47 = .ok (.iconst 1, 1) := by decide +kernel
theorem dX11_sets_48 : decode cX11_sets 48 = .ok (.istore_n 2, 1) := by decide +kernel
theorem dX11_sets_49 : decode cX11_sets 49 = .ok (.goto 30, 3) := by decide +kernel
theorem dX11_sets_52 : decode cX11_sets 52 = .ok (.aload_n 0, 1) := by decide +kernel
theorem dX11_sets_53 : decode cX11_sets 53 = .ok (.getfield 144, 3) := by decide +kernel
theorem dX11_sets_56 : decode cX11_sets 56 = .ok (.bipush 25, 2) := by decide +kernel
theorem dX11_sets_58 : decode cX11_sets 58 = .ok (.iushr, 1) := by decide +kernel
theorem dX11_sets_59 : decode cX11_sets 59 = .ok (.bipush 64, 2) := by decide +kernel
theorem dX11_sets_61 : decode cX11_sets 61 = .ok (.if_icmp .ne 16, 3) := by decide +kernel
theorem dX11_sets_64 : decode cX11_sets 64 = .ok (.aload_n 0, 1) := by decide +kernel
theorem dX11_sets_65 : decode cX11_sets 65 = .ok (.getfield 7, 3) := by decide +kernel
theorem dX11_sets_68 : decode cX11_sets 68 = .ok (.aload_n 0, 1) := by decide +kernel
theorem dX11_sets_69 : decode cX11_sets 69 = .ok (.getfield 147, 3) := by decide +kernel
theorem dX11_sets_72 : decode cX11_sets 72 = .ok (.iaload, 1) := by decide +kernel
theorem dX11_sets_73 : decode cX11_sets 73 = .ok (.istore_n 1, 1) := by decide +kernel
theorem dX11_sets_74 : decode cX11_sets 74 = .ok (.goto 5, 3) := by decide +kernel
theorem dX11_sets_77 : decode cX11_sets 77 = .ok (.iconst 1, 1) := by decide +kernel
theorem dX11_sets_78 : decode cX11_sets 78 = .ok (.ireturn, 1) := by decide +kernel
theorem dX11_sets_79 : decode cX11_sets 79 = .ok (.aload_n 0, 1) := by decide +kernel
theorem dX11_sets_80 : decode cX11_sets 80 = .ok (.getfield 29, 3) := by decide +kernel
theorem dX11_sets_83 : decode cX11_sets 83 = .ok (.istore_n 3, 1) := by decide +kernel
theorem dX11_sets_84 : decode cX11_sets 84 = .ok (.aload_n 0, 1) := by decide +kernel
theorem dX11_sets_85 : decode cX11_sets 85 = .ok (.iload_n 1, 1) := by decide +kernel
theorem dX11_sets_86 : decode cX11_sets 86 = .ok (.invokestatic 179, 3) := by decide +kernel
theorem dX11_sets_89 : decode cX11_sets 89 = .ok (.putfield 29, 3) := by decide +kernel
theorem dX11_sets_92 : decode cX11_sets 92 = .ok (.iload_n 2, 1) := by decide +kernel
theorem dX11_sets_93 : decode cX11_sets 93 = .ok (.ifCond .ne 10, 3) := by decide +kernel
theorem dX11_sets_96 : decode cX11_sets 96 = .ok (.aload_n 0, 1) := by decide +kernel
theorem dX11_sets_97 : decode cX11_sets 97 = .ok (.getfield 130, 3) := by decide +kernel
theorem dX11_sets_100 : decode cX11_sets 100 = .ok (.ifCond .le 32, 3) := by decide +kernel
theorem dX11_sets_103 : decode cX11_sets 103 = .ok (.iload_n 2, 1) := by decide +kernel
theorem dX11_sets_104 : decode cX11_sets 104 = .ok (.ifCond .eq 11, 3) := by decide +kernel
theorem dX11_sets_107 : decode cX11_sets 107 = .ok (.aload_n 0, 1) := by decide +kernel
theorem dX11_sets_108 : decode cX11_sets 108 = .ok (.getfield 130, 3) := by decide +kernel
theorem dX11_sets_111 : decode cX11_sets 111 = .ok (.i2l, 1) := by decide +kernel
theorem dX11_sets_112 : decode cX11_sets 112 = .ok (.goto 23, 3) := by decide +kernel
theorem dX11_sets_115 : decode cX11_sets 115 = .ok (.aload_n 0, 1) := by decide +kernel
theorem dX11_sets_116 : decode cX11_sets 116 = .ok (.getfield 7, 3) := by decide +kernel
theorem dX11_sets_119 : decode cX11_sets 119 = .ok (.aload_n 0, 1) := by decide +kernel
theorem dX11_sets_120 : decode cX11_sets 120 = .ok (.getfield 130, 3) := by decide +kernel
theorem dX11_sets_123 : decode cX11_sets 123 = .ok (.iaload, 1) := by decide +kernel
theorem dX11_sets_124 : decode cX11_sets 124 = .ok (.i2l, 1) := by decide +kernel
theorem dX11_sets_125 : decode cX11_sets 125 = .ok (.ldc2_w 182, 3) := by decide +kernel
theorem dX11_sets_128 : decode cX11_sets 128 = .ok (.land, 1) := by decide +kernel
theorem dX11_sets_129 : decode cX11_sets 129 = .ok (.goto 6, 3) := by decide +kernel
theorem dX11_sets_132 : decode cX11_sets 132 = .ok (.ldc2_w 186, 3) := by decide +kernel
theorem dX11_sets_135 : decode cX11_sets 135 = .ok (.lstore 4, 2) := by decide +kernel
theorem dX11_sets_137 : decode cX11_sets 137 = .ok (.iload_n 2, 1) := by decide +kernel
theorem dX11_sets_138 : decode cX11_sets 138 = .ok (.ifCond .ne 21, 3) := by decide +kernel
theorem dX11_sets_141 : decode cX11_sets 141 = .ok (.aload_n 0, 1) := by decide +kernel
theorem dX11_sets_142 : decode cX11_sets 142 = .ok (.getfield 130, 3) := by decide +kernel
theorem dX11_sets_145 : decode cX11_sets 145 = .ok (.ifCond .ne 14, 3) := by decide +kernel
theorem dX11_sets_148 : decode cX11_sets 148 = .ok (.aload_n 0, 1) := by decide +kernel
theorem dX11_sets_149 : decode cX11_sets 149 = .ok (.getfield 111, 3) := by decide +kernel
theorem dX11_sets_152 : decode cX11_sets 152 = .ok (.ifCond .ne 7, 3) := by decide +kernel
theorem dX11_sets_155 : decode cX11_sets 155 = .ok (.iconst 1, 1) := by decide +kernel
theorem dX11_sets_156 : decode cX11_sets 156 = .ok (.goto 4, 3) := by decide +kernel
theorem dX11_sets_159 : decode cX11_sets 159 = .ok (.iconst 0, 1) := by decide +kernel
theorem dX11_sets_160 : decode cX11_sets 160 = .ok (.istore 6, 2) := by decide +kernel
theorem dX11_sets_162 : decode cX11_sets 162 = .ok (.iload 6, 2) := by decide +kernel
theorem dX11_sets_164 : decode cX11_sets 164 = .ok (.ifCond .eq 34, 3) := by decide +kernel
theorem dX11_sets_167 : decode cX11_sets 167 = .ok (.iload_n 3, 1) := by decide +kernel
theorem dX11_sets_168 : decode cX11_sets 168 = .ok (.ifCond .lt 24, 3) := by decide +kernel
theorem dX11_sets_171 : decode cX11_sets 171 = .ok (.aload_n 0, 1) := by decide +kernel
theorem dX11_sets_172 : decode cX11_sets 172 = .ok (.getfield 29, 3) := by decide +kernel
theorem dX11_sets_175 : decode cX11_sets 175 = .ok (.ifCond .lt 17, 3) := by decide +kernel
theorem dX11_sets_178 : decode cX11_sets 178 = .ok (.iload_n 3, 1) := by decide +kernel
theorem dX11_sets_179 : decode cX11_sets 179 = .ok (.invokestatic 188, 3) := by decide +kernel
theorem dX11_sets_182 : decode cX11_sets 182 = .ok (.aload_n 0, 1) := by decide +kernel
theorem dX11_sets_183 : decode cX11_sets 183 = .ok (.getfield 29, 3) := by decide +kernel
theorem dX11_sets_186 : decode cX11_sets 186 = .ok (.invokestatic 188, 3) := by decide +kernel
theorem dX11_sets_189 : decode cX11_sets 189 = .ok (.if_icmp .eq 9, 3) := by decide +kernel
theorem dX11_sets_192 : decode cX11_sets 192 = .ok (.aload_n 0, 1) := by decide +kernel
theorem dX11_sets_193 : decode cX11_sets 193 = .ok (.ldc 28, 2) := by decide +kernel
theorem dX11_sets_195 : decode cX11_sets 195 = .ok (.putfield 29, 3) := by decide +kernel
theorem dX11_sets_198 : decode cX11_sets 198 = .ok (.aload_n 0, 1) := by decide +kernel
theorem dX11_sets_199 : decode cX11_sets 199 = .ok (.getfield 29, 3) := by decide +kernel
theorem dX11_sets_202 : decode cX11_sets 202 = .ok (.invokestatic 188, 3) := by decide +kernel
theorem dX11_sets_205 : decode cX11_sets 205 = .ok (.istore 7, 2) := by decide +kernel
theorem dX11_sets_207 : decode cX11_sets 207 = .ok (.aload_n 0, 1) := by decide +kernel
theorem dX11_sets_208 : decode cX11_sets 208 = .ok (.getfield 29, 3) := by decide +kernel
theorem dX11_sets_211 : decode cX11_sets 211 = .ok (.ifCond .ge 11, 3) := by decide +kernel
theorem dX11_sets_214 : decode cX11_sets 214 = .ok (.aload_n 0, 1) := by decide +kernel
theorem dX11_sets_215 : decode cX11_sets 215 = .ok (.iconst 0, 1) := by decide +kernel
theorem dX11_sets_216 : decode cX11_sets 216 = .ok (.putfield 88, 3) := by decide +kernel
theorem dX11_sets_219 : decode cX11_sets 219 = .ok (.goto 82, 3) := by decide +kernel
theorem dX11_sets_222 : decode cX11_sets 222 = .ok (.iload 6, 2) := by decide +kernel
theorem dX11_sets_224 : decode cX11_sets 224 = .ok (.ifCond .ne 77, 3) := by decide +kernel
theorem dX11_sets_227 : decode cX11_sets 227 = .ok (.lload 4, 2) := by decide +kernel
theorem dX11_sets_229 : decode cX11_sets 229 = .ok (.iload 7, 2) := by decide +kernel
theorem dX11_sets_231 : decode cX11_sets 231 = .ok (.i2l, 1) := by decide +kernel
theorem dX11_sets_232 : decode cX11_sets 232 = .ok (.lcmp, 1) := by decide +kernel
theorem dX11_sets_233 : decode cX11_sets 233 = .ok (.ifCond .gt 13, 3) := by decide +kernel
theorem dX11_sets_236 : decode cX11_sets 236 = .ok (.aload_n 0, 1) := by decide +kernel
theorem dX11_sets_237 : decode cX11_sets 237 = .ok (.lload 4, 2) := by decide +kernel
theorem dX11_sets_239 : decode cX11_sets 239 = .ok (.l2i, 1) := by decide +kernel
theorem dX11_sets_240 : decode cX11_sets 240 = .ok (.putfield 88, 3) := by decide +kernel
theorem dX11_sets_243 : decode cX11_sets 243 = .ok (.goto 58, 3) := by decide +kernel
theorem dX11_sets_246 : decode cX11_sets 246 = .ok (.lload 4, 2) := by decide +kernel
theorem dX11_sets_248 : decode cX11_sets 248 = .ok (.ldc2_w 191, 3) := by decide +kernel
theorem dX11_sets_251 : decode cX11_sets 251 = .ok (.iload 7, 2) := by decide +kernel
theorem dX11_sets_253 : decode cX11_sets 253 = .ok (.i2l, 1) := by decide +kernel
theorem dX11_sets_254 : decode cX11_sets 254 = .ok (.lmul, 1) := by decide +kernel
theorem dX11_sets_255 : decode cX11_sets 255 = .ok (.lcmp, 1) := by decide +kernel
theorem dX11_sets_256 : decode cX11_sets 256 = .ok (.ifCond .lt 12, 3) := by decide +kernel
theorem dX11_sets_259 : decode cX11_sets 259 = .ok (.aload_n 0, 1) := by decide +kernel
theorem dX11_sets_260 : decode cX11_sets 260 = .ok (.iload 7, 2) := by decide +kernel
theorem dX11_sets_262 : decode cX11_sets 262 = .ok (.putfield 88, 3) := by decide +kernel
theorem dX11_sets_265 : decode cX11_sets 265 = .ok (.goto 36, 3) := by decide +kernel
theorem dX11_sets_268 : decode cX11_sets 268 = .ok (.lload 4, 2) := by decide +kernel
theorem dX11_sets_270 : decode cX11_sets 270 = .ok (.lconst 1, 1) := by decide +kernel
theorem dX11_sets_271 : decode cX11_sets 271 = .ok (.ladd, 1) := by decide +kernel
theorem dX11_sets_272 : decode cX11_sets 272 = .ok (.ldc2_w 191, 3) := by decide +kernel
theorem dX11_sets_275 : decode cX11_sets 275 = .ok (.ldiv, 1) := by decide +kernel
theorem dX11_sets_276 : decode cX11_sets 276 = .ok (.lstore 8, 2) := by decide +kernel
theorem dX11_sets_278 : decode cX11_sets 278 = .ok (.aload_n 0, 1) := by decide +kernel
theorem dX11_sets_279 : decode cX11_sets 279 = .ok (.lload 8, 2) := by decide +kernel
theorem dX11_sets_281 : decode cX11_sets 281 = .ok (.aload_n 0, 1) := by decide +kernel
theorem dX11_sets_282 : decode cX11_sets 282 = .ok (.getfield 43, 3) := by decide +kernel
theorem dX11_sets_285 : decode cX11_sets 285 = .ok (.iload 7, 2) := by decide +kernel
theorem dX11_sets_287 : decode cX11_sets 287 = .ok (.i2l, 1) := by decide +kernel
theorem dX11_sets_288 : decode cX11_sets 288 = .ok (.lload 8, 2) := by decide +kernel
theorem dX11_sets_290 : decode cX11_sets 290 = .ok (.lsub, 1) := by decide +kernel
theorem dX11_sets_291 : decode cX11_sets 291 = .ok (.lconst 1, 1) := by decide +kernel
theorem dX11_sets_292 : decode cX11_sets 292 = .ok (.ladd, 1) := by decide +kernel
theorem dX11_sets_293 : decode cX11_sets 293 = .ok (.invokestatic 193, 3) := by decide +kernel
theorem dX11_sets_296 : decode cX11_sets 296 = .ok (.ladd, 1) := by decide +kernel
theorem dX11_sets_297 : decode cX11_sets 297 = .ok (.l2i, 1) := by decide +kernel
theorem dX11_sets_298 : decode cX11_sets 298 = .ok (.putfield 88, 3) := by decide +kernel
theorem dX11_sets_301 : decode cX11_sets 301 = .ok (.aload_n 0, 1) := by decide +kernel
theorem dX11_sets_302 : decode cX11_sets 302 = .ok (.getfield 111, 3) := by decide +kernel
theorem dX11_sets_305 : decode cX11_sets 305 = .ok (.ifCond .le 16, 3) := by decide +kernel
theorem dX11_sets_308 : decode cX11_sets 308 = .ok (.aload_n 0, 1) := by decide +kernel
theorem dX11_sets_309 : decode cX11_sets 309 = .ok (.getfield 7, 3) := by decide +kernel
theorem dX11_sets_312 : decode cX11_sets 312 = .ok (.aload_n 0, 1) := by decide +kernel
theorem dX11_sets_313 : decode cX11_sets 313 = .ok (.getfield 111, 3) := by decide +kernel
theorem dX11_sets_316 : decode cX11_sets 316 = .ok (.aload_n 0, 1) := by decide +kernel
theorem dX11_sets_317 : decode cX11_sets 317 = .ok (.getfield 88, 3) := by decide +kernel
theorem dX11_sets_320 : decode cX11_sets 320 = .ok (.iastore, 1) := by decide +kernel
theorem dX11_sets_321 : decode cX11_sets 321 = .ok (.iconst 0, 1) := by decide +kernel
theorem dX11_sets_322 : decode cX11_sets 322 = .ok (.ireturn, 1) := by decide +kernel
theorem dX11_goes_0 : decode cX11_goes 0 = .ok (.aload_n 0, 1) := by decide +kernel
theorem dX11_goes_1 : decode cX11_goes 1 = .ok (.getfield 176, 3) := by decide +kernel
theorem dX11_goes_4 : decode cX11_goes 4 = .ok (.aload_n 0, 1) := by decide +kernel
theorem dX11_goes_5 : decode cX11_goes 5 = .ok (.getfield 88, 3) := by decide +kernel
theorem dX11_goes_8 : decode cX11_goes 8 = .ok (.if_icmp .ge 7, 3) := by decide +kernel
theorem dX11_goes_11 : decode cX11_goes 11 = .ok (.iconst 1, 1) := by decide +kernel
theorem dX11_goes_12 : decode cX11_goes 12 = .ok (.goto 4, 3) := by decide +kernel
theorem dX11_goes_15 : decode cX11_goes 15 = .ok (.iconst 0, 1) := by decide +kernel
theorem dX11_goes_16 : decode cX11_goes 16 = .ok (.ireturn, 1) := by decide +kernel
theorem dX11_works_0 : decode cX11_works 0 = .ok (.aload_n 0, 1) := by decide +kernel
theorem dX11_works_1 : decode cX11_works 1 = .ok (.getfield 124, 3) := by decide +kernel
theorem dX11_works_4 : decode cX11_works 4 = .ok (.ifCond .eq 19, 3) := by decide +kernel
theorem dX11_works_7 : decode cX11_works 7 = .ok (.aload_n 0, 1) := by decide +kernel
theorem dX11_works_8 : decode cX11_works 8 = .ok (.getfield 124, 3) := by decide +kernel
theorem dX11_works_11 : decode cX11_works 11 = .ok (.iconst 3, 1) := by decide +kernel
theorem dX11_works_12 : decode cX11_works 12 = .ok (.if_icmp .eq 11, 3) := by decide +kernel
theorem dX11_works_15 : decode cX11_works 15 = .ok (.aload_n 0, 1) := by decide +kernel
theorem dX11_works_16 : decode cX11_works 16 = .ok (.getfield 124, 3) := by decide +kernel
theorem dX11_works_19 : decode cX11_works 19 = .ok (.iconst 4, 1) := by decide +kernel
theorem dX11_works_20 : decode cX11_works 20 = .ok (.if_icmp .ne 8, 3) := by decide +kernel
theorem dX11_works_23 : decode cX11_works 23 = .ok (.aload_n 0, 1) := by decide +kernel
theorem dX11_works_24 : decode cX11_works 24 = .ok (.invokevirtual 197, 3) := by decide +kernel
theorem dX11_works_27 : decode cX11_works 27 = .ok (.ireturn, 1) := by decide +kernel
theorem dX11_works_28 : decode cX11_works 28 = .ok (.aload_n 0, 1) := by decide +kernel
theorem dX11_works_29 : decode cX11_works 29 = .ok (.getfield 124, 3) := by decide +kernel
theorem dX11_works_32 : decode cX11_works 32 = .ok (.iconst 2, 1) := by decide +kernel
theorem dX11_works_33 : decode cX11_works 33 = .ok (.if_icmp .eq 12, 3) := by decide +kernel
theorem dX11_works_36 : decode cX11_works 36 = .ok (.aload_n 0, 1) := by decide +kernel
theorem dX11_works_37 : decode cX11_works 37 = .ok (.getfield 124, 3) := by decide +kernel
theorem dX11_works_40 : decode cX11_works 40 = .ok (.bipush 6, 2) := by decide +kernel
theorem dX11_works_42 : decode cX11_works 42 = .ok (.if_icmp .ne 8, 3) := by decide +kernel
theorem dX11_works_45 : decode cX11_works 45 = .ok (.aload_n 0, 1) := by decide +kernel
theorem dX11_works_46 : decode cX11_works 46 = .ok (.invokevirtual 200, 3) := by decide +kernel
theorem dX11_works_49 : decode cX11_works 49 = .ok (.ireturn, 1) := by decide +kernel
theorem dX11_works_50 : decode cX11_works 50 = .ok (.iconst 0, 1) := by decide +kernel
theorem dX11_works_51 : decode cX11_works 51 = .ok (.ireturn, 1) := by decide +kernel
theorem dX11_rounded_0 : decode cX11_rounded 0 = .ok (.iload_n 2, 1) := by decide +kernel
theorem dX11_rounded_1 : decode cX11_rounded 1 = .ok (.ifCond .ne 5, 3) := by decide +kernel
theorem dX11_rounded_4 : decode cX11_rounded 4 = .ok (.lload_n 0, 1) := by decide +kernel
theorem dX11_rounded_5 : decode cX11_rounded 5 = .ok (.lreturn, 1) := by decide +kernel
theorem dX11_rounded_6 : decode cX11_rounded 6 = .ok (.lload_n 0, 1) := by decide +kernel
theorem dX11_rounded_7 : decode cX11_rounded 7 = .ok (.iload_n 2, 1) := by decide +kernel
theorem dX11_rounded_8 : decode cX11_rounded 8 = .ok (.iconst 1, 1) := by decide +kernel
theorem dX11_rounded_9 : decode cX11_rounded 9 = .ok (.isub, 1) := by decide +kernel
theorem dX11_rounded_10 : decode cX11_rounded 10 = .ok (.lshr, 1) := by decide +kernel
theorem dX11_rounded_11 : decode cX11_rounded 11 = .ok (.lconst 1, 1) := by decide +kernel
theorem dX11_rounded_12 : decode cX11_rounded 12 = .ok (.land, 1) := by decide +kernel
theorem dX11_rounded_13 : decode cX11_rounded 13 = .ok (.lstore 4, 2) := by decide +kernel
theorem dX11_rounded_15 : decode cX11_rounded 15 = .ok (.iload_n 2, 1) := by decide +kernel
theorem dX11_rounded_16 : decode cX11_rounded 16 = .ok (.iconst 1, 1) := by decide +kernel
theorem dX11_rounded_17 : decode cX11_rounded 17 = .ok (.if_icmp .le 21, 3) := by decide +kernel
theorem dX11_rounded_20 : decode cX11_rounded 20 = .ok (.lload_n 0, 1) := by decide +kernel
theorem dX11_rounded_21 : decode cX11_rounded 21 = .ok (.lconst 1, 1) := by decide +kernel
theorem dX11_rounded_22 : decode cX11_rounded 22 = .ok (.iload_n 2, 1) := by decide +kernel
theorem dX11_rounded_23 : decode cX11_rounded 23 = .ok (.iconst 1, 1) := by decide +kernel
theorem dX11_rounded_24 : decode cX11_rounded 24 = .ok (.isub, 1) := by decide +kernel
theorem dX11_rounded_25 : decode cX11_rounded 25 = .ok (.lshl, 1) := by decide +kernel
theorem dX11_rounded_26 : decode cX11_rounded 26 = .ok (.lconst 1, 1) := by decide +kernel
theorem dX11_rounded_27 : decode cX11_rounded 27 = .ok (.lsub, 1) := by decide +kernel
theorem dX11_rounded_28 : decode cX11_rounded 28 = .ok (.land, 1) := by decide +kernel
theorem dX11_rounded_29 : decode cX11_rounded 29 = .ok (.lconst 0, 1) := by decide +kernel
theorem dX11_rounded_30 : decode cX11_rounded 30 = .ok (.lcmp, 1) := by decide +kernel
theorem dX11_rounded_31 : decode cX11_rounded 31 = .ok (.ifCond .eq 7, 3) := by decide +kernel
theorem dX11_rounded_34 : decode cX11_rounded 34 = .ok (.iconst 1, 1) := by decide +kernel
theorem dX11_rounded_35 : decode cX11_rounded 35 = .ok (.goto 4, 3) := by decide +kernel
theorem dX11_rounded_38 : decode cX11_rounded 38 = .ok (.iconst 0, 1) := by decide +kernel
theorem dX11_rounded_39 : decode cX11_rounded 39 = .ok (.istore 6, 2) := by decide +kernel
theorem dX11_rounded_41 : decode cX11_rounded 41 = .ok (.lload 4, 2) := by decide +kernel
theorem dX11_rounded_43 : decode cX11_rounded 43 = .ok (.lconst 1, 1) := by decide +kernel
theorem dX11_rounded_44 : decode cX11_rounded 44 = .ok (.lcmp, 1) := by decide +kernel
theorem dX11_rounded_45 : decode cX11_rounded 45 = .ok (.ifCond .eq 8, 3) := by decide +kernel
theorem dX11_rounded_48 : decode cX11_rounded 48 = .ok (.iload 6, 2) := by decide +kernel
theorem dX11_rounded_50 : decode cX11_rounded 50 = .ok (.ifCond .eq 7, 3) := by decide +kernel
theorem dX11_rounded_53 : decode cX11_rounded 53 = .ok (.iconst 1, 1) := by decide +kernel
theorem dX11_rounded_54 : decode cX11_rounded 54 = .ok (.goto 4, 3) := by decide +kernel
theorem dX11_rounded_57 : decode cX11_rounded 57 = .ok (.iconst 0, 1) := by decide +kernel
theorem dX11_rounded_58 : decode cX11_rounded 58 = .ok (.istore 7, 2) := by decide +kernel
theorem dX11_rounded_60 : decode cX11_rounded 60 = .ok (.lload_n 0, 1) := by decide +kernel
theorem dX11_rounded_61 : decode cX11_rounded 61 = .ok (.iload_n 2, 1) := by decide +kernel
theorem dX11_rounded_62 : decode cX11_rounded 62 = .ok (.lshr, 1) := by decide +kernel
theorem dX11_rounded_63 : decode cX11_rounded 63 = .ok (.lconst 1, 1) := by decide +kernel
theorem dX11_rounded_64 : decode cX11_rounded 64 = .ok (.land, 1) := by decide +kernel
theorem dX11_rounded_65 : decode cX11_rounded 65 = .ok (.lstore 8, 2) := by decide +kernel
theorem dX11_rounded_67 : decode cX11_rounded 67 = .ok (.iload_n 3, 1) := by decide +kernel
theorem dX11_rounded_68 : decode cX11_rounded 68 = .ok (.ifCond .ne 8, 3) := by decide +kernel
theorem dX11_rounded_71 : decode cX11_rounded 71 = .ok (.lload 4, 2) := by decide +kernel
theorem dX11_rounded_73 : decode cX11_rounded 73 = .ok (.goto 61, 3) := by decide +kernel
theorem dX11_rounded_76 : decode cX11_rounded 76 = .ok (.iload_n 3, 1) := by decide +kernel
theorem dX11_rounded_77 : decode cX11_rounded 77 = .ok (.iconst 1, 1) := by decide +kernel
theorem dX11_rounded_78 : decode cX11_rounded 78 = .ok (.if_icmp .ne 30, 3) := by decide +kernel
theorem dX11_rounded_81 : decode cX11_rounded 81 = .ok (.lload 4, 2) := by decide +kernel
theorem dX11_rounded_83 : decode cX11_rounded 83 = .ok (.lconst 1, 1) := by decide +kernel
theorem dX11_rounded_84 : decode cX11_rounded 84 = .ok (.lcmp, 1) := by decide +kernel
theorem dX11_rounded_85 : decode cX11_rounded 85 = .ok (.ifCond .ne 19, 3) := by decide +kernel
theorem dX11_rounded_88 : decode cX11_rounded 88 = .ok (.iload 6, 2) := by decide +kernel
theorem dX11_rounded_90 : decode cX11_rounded 90 = .ok (.ifCond .ne 10, 3) := by decide +kernel
theorem dX11_rounded_93 : decode cX11_rounded 93 = .ok (.lload 8, 2) := by decide +kernel
theorem dX11_rounded_95 : decode cX11_rounded 95 = .ok (.lconst 1, 1) := by decide +kernel
theorem dX11_rounded_96 : decode cX11_rounded 96 = .ok (.lcmp, 1) := by decide +kernel
theorem dX11_rounded_97 : decode cX11_rounded 97 = .ok (.ifCond .ne 7, 3) := by decide +kernel
theorem dX11_rounded_100 : decode cX11_rounded 100 = .ok (.lconst 1, 1) := by decide +kernel
theorem dX11_rounded_101 : decode cX11_rounded 101 = .ok (.goto 33, 3) := by decide +kernel
theorem dX11_rounded_104 : decode cX11_rounded 104 = .ok (.lconst 0, 1) := by decide +kernel
theorem dX11_rounded_105 : decode cX11_rounded 105 = .ok (.goto 29, 3) := by decide +kernel
theorem dX11_rounded_108 : decode cX11_rounded 108 = .ok (.iload_n 3, 1) := by decide +kernel
theorem dX11_rounded_109 : decode cX11_rounded 109 = .ok (.iconst 2, 1) := by decide +kernel
theorem dX11_rounded_110 : decode cX11_rounded 110 = .ok (.if_icmp .ne 7, 3) := by decide +kernel
theorem dX11_rounded_113 : decode cX11_rounded 113 = .ok (.lconst 0, 1) := by decide +kernel
theorem dX11_rounded_114 : decode cX11_rounded 114 = .ok (.goto 20, 3) := by decide +kernel
theorem dX11_rounded_117 : decode cX11_rounded 117 = .ok (.lload 8, 2) := by decide +kernel
theorem dX11_rounded_119 : decode cX11_rounded 119 = .ok (.lconst 0, 1) := by decide +kernel
theorem dX11_rounded_120 : decode cX11_rounded 120 = .ok (.lcmp, 1) := by decide +kernel
theorem dX11_rounded_121 : decode cX11_rounded 121 = .ok (.ifCond .ne 12, 3) := by decide +kernel
theorem dX11_rounded_124 : decode cX11_rounded 124 = .ok (.iload 7, 2) := by decide +kernel
theorem dX11_rounded_126 : decode cX11_rounded 126 = .ok (.ifCond .eq 7, 3) := by decide +kernel
theorem dX11_rounded_129 : decode cX11_rounded 129 = .ok (.lconst 1, 1) := by decide +kernel
theorem dX11_rounded_130 : decode cX11_rounded 130 = .ok (.goto 4, 3) := by decide +kernel
theorem dX11_rounded_133 : decode cX11_rounded 133 = .ok (.lconst 0, 1) := by decide +kernel
theorem dX11_rounded_134 : decode cX11_rounded 134 = .ok (.lstore 10, 2) := by decide +kernel
theorem dX11_rounded_136 : decode cX11_rounded 136 = .ok (.lload_n 0, 1) := by decide +kernel
theorem dX11_rounded_137 : decode cX11_rounded 137 = .ok (.iload_n 2, 1) := by decide +kernel
theorem dX11_rounded_138 : decode cX11_rounded 138 = .ok (.lshr, 1) := by decide +kernel
theorem dX11_rounded_139 : decode cX11_rounded 139 = .ok (.lload 10, 2) := by decide +kernel
theorem dX11_rounded_141 : decode cX11_rounded 141 = .ok (.ladd, 1) := by decide +kernel
theorem dX11_rounded_142 : decode cX11_rounded 142 = .ok (.lreturn, 1) := by decide +kernel
theorem dX11_within_0 : decode cX11_within 0 = .ok (.lload_n 1, 1) := by decide +kernel
theorem dX11_within_1 : decode cX11_within 1 = .ok (.lload_n 3, 1) := by decide +kernel
theorem dX11_within_2 : decode cX11_within 2 = .ok (.lcmp, 1) := by decide +kernel
theorem dX11_within_3 : decode cX11_within 3 = .ok (.ifCond .lt 12, 3) := by decide +kernel
theorem dX11_within_6 : decode cX11_within 6 = .ok (.lload_n 1, 1) := by decide +kernel
theorem dX11_within_7 : decode cX11_within 7 = .ok (.lload 5, 2) := by decide +kernel
theorem dX11_within_9 : decode cX11_within 9 = .ok (.lcmp, 1) := by decide +kernel
theorem dX11_within_10 : decode cX11_within 10 = .ok (.ifCond .gt 5, 3) := by decide +kernel
theorem dX11_within_13 : decode cX11_within 13 = .ok (.lload_n 1, 1) := by decide +kernel
theorem dX11_within_14 : decode cX11_within 14 = .ok (.lreturn, 1) := by decide +kernel
theorem dX11_within_15 : decode cX11_within 15 = .ok (.aload_n 0, 1) := by decide +kernel
theorem dX11_within_16 : decode cX11_within 16 = .ok (.iconst 1, 1) := by decide +kernel
theorem dX11_within_17 : decode cX11_within 17 = .ok (.putfield 203, 3) := by decide +kernel
theorem dX11_within_20 : decode cX11_within 20 = .ok (.lload_n 1, 1) := by decide +kernel
theorem dX11_within_21 : decode cX11_within 21 = .ok (.lload_n 3, 1) := by decide +kernel
theorem dX11_within_22 : decode cX11_within 22 = .ok (.lcmp, 1) := by decide +kernel
theorem dX11_within_23 : decode cX11_within 23 = .ok (.ifCond .ge 7, 3) := by decide +kernel
theorem dX11_within_26 : decode cX11_within 26 = .ok (.lload_n 3, 1) := by decide +kernel
theorem dX11_within_27 : decode cX11_within 27 = .ok (.goto 5, 3) := by decide +kernel
theorem dX11_within_30 : decode cX11_within 30 = .ok (.lload 5, 2) := by decide +kernel
theorem dX11_within_32 : decode cX11_within 32 = .ok (.lreturn, 1) := by decide +kernel
theorem dX11_least_0 : decode cX11_least 0 = .ok (.ldc2_w 55, 3) := by decide +kernel
theorem dX11_least_3 : decode cX11_least 3 = .ok (.iload_n 1, 1) := by decide +kernel
theorem dX11_least_4 : decode cX11_least 4 = .ok (.iconst 1, 1) := by decide +kernel
theorem dX11_least_5 : decode cX11_least 5 = .ok (.isub, 1) := by decide +kernel
theorem dX11_least_6 : decode cX11_least 6 = .ok (.lshl, 1) := by decide +kernel
theorem dX11_least_7 : decode cX11_least 7 = .ok (.lreturn, 1) := by decide +kernel
theorem dX11_made_0 : decode cX11_made 0 = .ok (.lload_n 2, 1) := by decide +kernel
theorem dX11_made_1 : decode cX11_made 1 = .ok (.iload 8, 2) := by decide +kernel
theorem dX11_made_3 : decode cX11_made 3 = .ok (.invokestatic 206, 3) := by decide +kernel
theorem dX11_made_6 : decode cX11_made 6 = .ok (.lstore 9, 2) := by decide +kernel
theorem dX11_made_8 : decode cX11_made 8 = .ok (.lload 4, 2) := by decide +kernel
theorem dX11_made_10 : decode cX11_made 10 = .ok (.iload 8, 2) := by decide +kernel
theorem dX11_made_12 : decode cX11_made 12 = .ok (.invokestatic 206, 3) := by decide +kernel
theorem dX11_made_15 : decode cX11_made 15 = .ok (.lstore 11, 2) := by decide +kernel
theorem dX11_made_17 : decode cX11_made 17 = .ok (.iload 8, 2) := by decide +kernel
theorem dX11_made_19 : decode cX11_made 19 = .ok (.invokestatic 65, 3) := by decide +kernel
theorem dX11_made_22 : decode cX11_made 22 = .ok (.lstore 13, 2) := by decide +kernel
theorem dX11_made_24 : decode cX11_made 24 = .ok (.lload 13, 2) := by decide +kernel
theorem dX11_made_26 : decode cX11_made 26 = .ok (.iconst 1, 1) := by decide +kernel
theorem dX11_made_27 : decode cX11_made 27 = .ok (.lshr, 1) := by decide +kernel
theorem dX11_made_28 : decode cX11_made 28 = .ok (.lstore 15, 2) := by decide +kernel
theorem dX11_made_30 : decode cX11_made 30 = .ok (.lload 4, 2) := by decide +kernel
theorem dX11_made_32 : decode cX11_made 32 = .ok (.iload 8, 2) := by decide +kernel
theorem dX11_made_34 : decode cX11_made 34 = .ok (.iconst 1, 1) := by decide +kernel
theorem dX11_made_35 : decode cX11_made 35 = .ok (.isub, 1) := by decide +kernel
theorem dX11_made_36 : decode cX11_made 36 = .ok (.i2l, 1) := by decide +kernel
theorem dX11_made_37 : decode cX11_made 37 = .ok (.land, 1) := by decide +kernel
theorem dX11_made_38 : decode cX11_made 38 = .ok (.l2i, 1) := by decide +kernel
theorem dX11_made_39 : decode cX11_made 39 = .ok (.istore 17, 2) := by decide +kernel
theorem dX11_made_41 : decode cX11_made 41 = .ok (.iload_n 1, 1) := by decide +kernel
theorem dX11_made_42 : decode cX11_made 42 = .ok (.tableswitch 520 0 34 #[154, 159, 164, 169, 174, 179, 184, 191, 199, 206, 214, 219, 224, 230, 242, 260, 272, 290, 301, 313, 342, 355, 369, 382, 396, 401, 410, 418, 427, 444, 463, 479, 496, 504, 512], 154) := by decide +kernel
theorem dX11_made_196 : decode cX11_made 196 = .ok (.lload_n 2, 1) := by decide +kernel
theorem dX11_made_197 : decode cX11_made 197 = .ok (.lload 4, 2) := by decide +kernel
theorem dX11_made_199 : decode cX11_made 199 = .ok (.ladd, 1) := by decide +kernel
theorem dX11_made_200 : decode cX11_made 200 = .ok (.lreturn, 1) := by decide +kernel
theorem dX11_made_201 : decode cX11_made 201 = .ok (.lload_n 2, 1) := by decide +kernel
theorem dX11_made_202 : decode cX11_made 202 = .ok (.lload 4, 2) := by decide +kernel
theorem dX11_made_204 : decode cX11_made 204 = .ok (.lsub, 1) := by decide +kernel
theorem dX11_made_205 : decode cX11_made 205 = .ok (.lreturn, 1) := by decide +kernel
theorem dX11_made_206 : decode cX11_made 206 = .ok (.lload 4, 2) := by decide +kernel
theorem dX11_made_208 : decode cX11_made 208 = .ok (.lload_n 2, 1) := by decide +kernel
theorem dX11_made_209 : decode cX11_made 209 = .ok (.lsub, 1) := by decide +kernel
theorem dX11_made_210 : decode cX11_made 210 = .ok (.lreturn, 1) := by decide +kernel
theorem dX11_made_211 : decode cX11_made 211 = .ok (.lload_n 2, 1) := by decide +kernel
theorem dX11_made_212 : decode cX11_made 212 = .ok (.lload 4, 2) := by decide +kernel
theorem dX11_made_214 : decode cX11_made 214 = .ok (.land, 1) := by decide +kernel
theorem dX11_made_215 : decode cX11_made 215 = .ok (.lreturn, 1) := by decide +kernel
theorem dX11_made_216 : decode cX11_made 216 = .ok (.lload_n 2, 1) := by decide +kernel
theorem dX11_made_217 : decode cX11_made 217 = .ok (.lload 4, 2) := by decide +kernel
theorem dX11_made_219 : decode cX11_made 219 = .ok (.lor, 1) := by decide +kernel
theorem dX11_made_220 : decode cX11_made 220 = .ok (.lreturn, 1) := by decide +kernel
theorem dX11_made_221 : decode cX11_made 221 = .ok (.lload_n 2, 1) := by decide +kernel
theorem dX11_made_222 : decode cX11_made 222 = .ok (.lload 4, 2) := by decide +kernel
theorem dX11_made_224 : decode cX11_made 224 = .ok (.lxor, 1) := by decide +kernel
theorem dX11_made_225 : decode cX11_made 225 = .ok (.lreturn, 1) := by decide +kernel
theorem dX11_made_226 : decode cX11_made 226 = .ok (.lload_n 2, 1) := by decide +kernel
theorem dX11_made_227 : decode cX11_made 227 = .ok (.lload 4, 2) := by decide +kernel
theorem dX11_made_229 : decode cX11_made 229 = .ok (.invokestatic 209, 3) := by decide +kernel
theorem dX11_made_232 : decode cX11_made 232 = .ok (.lreturn, 1) := by decide +kernel
theorem dX11_made_233 : decode cX11_made 233 = .ok (.lload 9, 2) := by decide +kernel
theorem dX11_made_235 : decode cX11_made 235 = .ok (.lload 11, 2) := by decide +kernel
theorem dX11_made_237 : decode cX11_made 237 = .ok (.invokestatic 209, 3) := by decide +kernel
theorem dX11_made_240 : decode cX11_made 240 = .ok (.lreturn, 1) := by decide +kernel
theorem dX11_made_241 : decode cX11_made 241 = .ok (.lload_n 2, 1) := by decide +kernel
theorem dX11_made_242 : decode cX11_made 242 = .ok (.lload 4, 2) := by decide +kernel
theorem dX11_made_244 : decode cX11_made 244 = .ok (.invokestatic 214, 3) := by decide +kernel
theorem dX11_made_247 : decode cX11_made 247 = .ok (.lreturn, 1) := by decide +kernel
theorem dX11_made_248 : decode cX11_made 248 = .ok (.lload 9, 2) := by decide +kernel
theorem dX11_made_250 : decode cX11_made 250 = .ok (.lload 11, 2) := by decide +kernel
theorem dX11_made_252 : decode cX11_made 252 = .ok (.invokestatic 214, 3) := by decide +kernel
theorem dX11_made_255 : decode cX11_made 255 = .ok (.lreturn, 1) := by decide +kernel
theorem dX11_made_256 : decode cX11_made 256 = .ok (.lload_n 2, 1) := by decide +kernel
theorem dX11_made_257 : decode cX11_made 257 = .ok (.iload 17, 2) := by decide +kernel
theorem dX11_made_259 : decode cX11_made 259 = .ok (.lshl, 1) := by decide +kernel
theorem dX11_made_260 : decode cX11_made 260 = .ok (.lreturn, 1) := by decide +kernel
theorem dX11_made_261 : decode cX11_made 261 = .ok (.lload_n 2, 1) := by decide +kernel
theorem dX11_made_262 : decode cX11_made 262 = .ok (.iload 17, 2) := by decide +kernel
theorem dX11_made_264 : decode cX11_made 264 = .ok (.lshr, 1) := by decide +kernel
theorem dX11_made_265 : decode cX11_made 265 = .ok (.lreturn, 1) := by decide +kernel
theorem dX11_made_266 : decode cX11_made 266 = .ok (.lload 9, 2) := by decide +kernel
theorem dX11_made_268 : decode cX11_made 268 = .ok (.iload 17, 2) := by decide +kernel
theorem dX11_made_270 : decode cX11_made 270 = .ok (.lshr, 1) := by decide +kernel
theorem dX11_made_271 : decode cX11_made 271 = .ok (.lreturn, 1) := by decide +kernel
theorem dX11_made_272 : decode cX11_made 272 = .ok (.aload_n 0, 1) := by decide +kernel
theorem dX11_made_273 : decode cX11_made 273 = .ok (.lload_n 2, 1) := by decide +kernel
theorem dX11_made_274 : decode cX11_made 274 = .ok (.lload 4, 2) := by decide +kernel
theorem dX11_made_276 : decode cX11_made 276 = .ok (.ladd, 1) := by decide +kernel
theorem dX11_made_277 : decode cX11_made 277 = .ok (.lconst 0, 1) := by decide +kernel
theorem dX11_made_278 : decode cX11_made 278 = .ok (.lload 13, 2) := by decide +kernel
theorem dX11_made_280 : decode cX11_made 280 = .ok (.invokevirtual 217, 3) := by decide +kernel
theorem dX11_made_283 : decode cX11_made 283 = .ok (.lreturn, 1) := by decide +kernel
theorem dX11_made_284 : decode cX11_made 284 = .ok (.aload_n 0, 1) := by decide +kernel
theorem dX11_made_285 : decode cX11_made 285 = .ok (.lload 9, 2) := by decide +kernel
theorem dX11_made_287 : decode cX11_made 287 = .ok (.lload 11, 2) := by decide +kernel
theorem dX11_made_289 : decode cX11_made 289 = .ok (.ladd, 1) := by decide +kernel
theorem dX11_made_290 : decode cX11_made 290 = .ok (.aload_n 0, 1) := by decide +kernel
theorem dX11_made_291 : decode cX11_made 291 = .ok (.iload 8, 2) := by decide +kernel
theorem dX11_made_293 : decode cX11_made 293 = .ok (.invokevirtual 221, 3) := by decide +kernel
theorem dX11_made_296 : decode cX11_made 296 = .ok (.lload 15, 2) := by decide +kernel
theorem dX11_made_298 : decode cX11_made 298 = .ok (.invokevirtual 217, 3) := by decide +kernel
theorem dX11_made_301 : decode cX11_made 301 = .ok (.lreturn, 1) := by decide +kernel
theorem dX11_made_302 : decode cX11_made 302 = .ok (.aload_n 0, 1) := by decide +kernel
theorem dX11_made_303 : decode cX11_made 303 = .ok (.lload_n 2, 1) := by decide +kernel
theorem dX11_made_304 : decode cX11_made 304 = .ok (.lload 4, 2) := by decide +kernel
theorem dX11_made_306 : decode cX11_made 306 = .ok (.lsub, 1) := by decide +kernel
theorem dX11_made_307 : decode cX11_made 307 = .ok (.lconst 0, 1) := by decide +kernel
theorem dX11_made_308 : decode cX11_made 308 = .ok (.lload 13, 2) := by decide +kernel
theorem dX11_made_310 : decode cX11_made 310 = .ok (.invokevirtual 217, 3) := by decide +kernel
theorem dX11_made_313 : decode cX11_made 313 = .ok (.lreturn, 1) := by decide +kernel
theorem dX11_made_314 : decode cX11_made 314 = .ok (.aload_n 0, 1) := by decide +kernel
theorem dX11_made_315 : decode cX11_made 315 = .ok (.lload 9, 2) := by decide +kernel
theorem dX11_made_317 : decode cX11_made 317 = .ok (.lload 11, 2) := by decide +kernel
theorem dX11_made_319 : decode cX11_made 319 = .ok (.lsub, 1) := by decide +kernel
theorem dX11_made_320 : decode cX11_made 320 = .ok (.aload_n 0, 1) := by decide +kernel
theorem dX11_made_321 : decode cX11_made 321 = .ok (.iload 8, 2) := by decide +kernel
theorem dX11_made_323 : decode cX11_made 323 = .ok (.invokevirtual 221, 3) := by decide +kernel
theorem dX11_made_326 : decode cX11_made 326 = .ok (.lload 15, 2) := by decide +kernel
theorem dX11_made_328 : decode cX11_made 328 = .ok (.invokevirtual 217, 3) := by decide +kernel
theorem dX11_made_331 : decode cX11_made 331 = .ok (.lreturn, 1) := by decide +kernel
theorem dX11_made_332 : decode cX11_made 332 = .ok (.lload_n 2, 1) := by decide +kernel
theorem dX11_made_333 : decode cX11_made 333 = .ok (.iload 17, 2) := by decide +kernel
theorem dX11_made_335 : decode cX11_made 335 = .ok (.aload_n 0, 1) := by decide +kernel
theorem dX11_made_336 : decode cX11_made 336 = .ok (.getfield 224, 3) := by decide +kernel
theorem dX11_made_339 : decode cX11_made 339 = .ok (.invokestatic 227, 3) := by decide +kernel
theorem dX11_made_342 : decode cX11_made 342 = .ok (.lreturn, 1) := by decide +kernel
theorem dX11_made_343 : decode cX11_made 343 = .ok (.lload 9, 2) := by decide +kernel
theorem dX11_made_345 : decode cX11_made 345 = .ok (.iload 17, 2) := by decide +kernel
theorem dX11_made_347 : decode cX11_made 347 = .ok (.aload_n 0, 1) := by decide +kernel
theorem dX11_made_348 : decode cX11_made 348 = .ok (.getfield 224, 3) := by decide +kernel
theorem dX11_made_351 : decode cX11_made 351 = .ok (.invokestatic 227, 3) := by decide +kernel
theorem dX11_made_354 : decode cX11_made 354 = .ok (.lreturn, 1) := by decide +kernel
theorem dX11_made_355 : decode cX11_made 355 = .ok (.aload_n 0, 1) := by decide +kernel
theorem dX11_made_356 : decode cX11_made 356 = .ok (.lload 9, 2) := by decide +kernel
theorem dX11_made_358 : decode cX11_made 358 = .ok (.lload 11, 2) := by decide +kernel
theorem dX11_made_360 : decode cX11_made 360 = .ok (.lmul, 1) := by decide +kernel
theorem dX11_made_361 : decode cX11_made 361 = .ok (.iload 8, 2) := by decide +kernel
theorem dX11_made_363 : decode cX11_made 363 = .ok (.iconst 1, 1) := by decide +kernel
theorem dX11_made_364 : decode cX11_made 364 = .ok (.isub, 1) := by decide +kernel
theorem dX11_made_365 : decode cX11_made 365 = .ok (.aload_n 0, 1) := by decide +kernel
theorem dX11_made_366 : decode cX11_made 366 = .ok (.getfield 224, 3) := by decide +kernel
theorem dX11_made_369 : decode cX11_made 369 = .ok (.invokestatic 227, 3) := by decide +kernel
theorem dX11_made_372 : decode cX11_made 372 = .ok (.aload_n 0, 1) := by decide +kernel
theorem dX11_made_373 : decode cX11_made 373 = .ok (.iload 8, 2) := by decide +kernel
theorem dX11_made_375 : decode cX11_made 375 = .ok (.invokevirtual 221, 3) := by decide +kernel
theorem dX11_made_378 : decode cX11_made 378 = .ok (.lload 15, 2) := by decide +kernel
theorem dX11_made_380 : decode cX11_made 380 = .ok (.invokevirtual 217, 3) := by decide +kernel
theorem dX11_made_383 : decode cX11_made 383 = .ok (.lreturn, 1) := by decide +kernel
theorem dX11_made_384 : decode cX11_made 384 = .ok (.lload_n 2, 1) := by decide +kernel
theorem dX11_made_385 : decode cX11_made 385 = .ok (.lload 4, 2) := by decide +kernel
theorem dX11_made_387 : decode cX11_made 387 = .ok (.ladd, 1) := by decide +kernel
theorem dX11_made_388 : decode cX11_made 388 = .ok (.iconst 1, 1) := by decide +kernel
theorem dX11_made_389 : decode cX11_made 389 = .ok (.aload_n 0, 1) := by decide +kernel
theorem dX11_made_390 : decode cX11_made 390 = .ok (.getfield 224, 3) := by decide +kernel
theorem dX11_made_393 : decode cX11_made 393 = .ok (.invokestatic 227, 3) := by decide +kernel
theorem dX11_made_396 : decode cX11_made 396 = .ok (.lreturn, 1) := by decide +kernel
theorem dX11_made_397 : decode cX11_made 397 = .ok (.lload 9, 2) := by decide +kernel
theorem dX11_made_399 : decode cX11_made 399 = .ok (.lload 11, 2) := by decide +kernel
theorem dX11_made_401 : decode cX11_made 401 = .ok (.ladd, 1) := by decide +kernel
theorem dX11_made_402 : decode cX11_made 402 = .ok (.iconst 1, 1) := by decide +kernel
theorem dX11_made_403 : decode cX11_made 403 = .ok (.aload_n 0, 1) := by decide +kernel
theorem dX11_made_404 : decode cX11_made 404 = .ok (.getfield 224, 3) := by decide +kernel
theorem dX11_made_407 : decode cX11_made 407 = .ok (.invokestatic 227, 3) := by decide +kernel
theorem dX11_made_410 : decode cX11_made 410 = .ok (.lreturn, 1) := by decide +kernel
theorem dX11_made_411 : decode cX11_made 411 = .ok (.lload_n 2, 1) := by decide +kernel
theorem dX11_made_412 : decode cX11_made 412 = .ok (.lload 4, 2) := by decide +kernel
theorem dX11_made_414 : decode cX11_made 414 = .ok (.lsub, 1) := by decide +kernel
theorem dX11_made_415 : decode cX11_made 415 = .ok (.iconst 1, 1) := by decide +kernel
theorem dX11_made_416 : decode cX11_made 416 = .ok (.aload_n 0, 1) := by decide +kernel
theorem dX11_made_417 : decode cX11_made 417 = .ok (.getfield 224, 3) := by decide +kernel
theorem dX11_made_420 : decode cX11_made 420 = .ok (.invokestatic 227, 3) := by decide +kernel
theorem dX11_made_423 : decode cX11_made 423 = .ok (.lreturn, 1) := by decide +kernel
theorem dX11_made_424 : decode cX11_made 424 = .ok (.lload 9, 2) := by decide +kernel
theorem dX11_made_426 : decode cX11_made 426 = .ok (.lload 11, 2) := by decide +kernel
theorem dX11_made_428 : decode cX11_made 428 = .ok (.lsub, 1) := by decide +kernel
theorem dX11_made_429 : decode cX11_made 429 = .ok (.iconst 1, 1) := by decide +kernel
theorem dX11_made_430 : decode cX11_made 430 = .ok (.aload_n 0, 1) := by decide +kernel
theorem dX11_made_431 : decode cX11_made 431 = .ok (.getfield 224, 3) := by decide +kernel
theorem dX11_made_434 : decode cX11_made 434 = .ok (.invokestatic 227, 3) := by decide +kernel
theorem dX11_made_437 : decode cX11_made 437 = .ok (.lreturn, 1) := by decide +kernel
theorem dX11_made_438 : decode cX11_made 438 = .ok (.lload_n 2, 1) := by decide +kernel
theorem dX11_made_439 : decode cX11_made 439 = .ok (.lload 4, 2) := by decide +kernel
theorem dX11_made_441 : decode cX11_made 441 = .ok (.lmul, 1) := by decide +kernel
theorem dX11_made_442 : decode cX11_made 442 = .ok (.lreturn, 1) := by decide +kernel
theorem dX11_made_443 : decode cX11_made 443 = .ok (.lload 9, 2) := by decide +kernel
theorem dX11_made_445 : decode cX11_made 445 = .ok (.lload 11, 2) := by decide +kernel
theorem dX11_made_447 : decode cX11_made 447 = .ok (.lmul, 1) := by decide +kernel
theorem dX11_made_448 : decode cX11_made 448 = .ok (.iload 8, 2) := by decide +kernel
theorem dX11_made_450 : decode cX11_made 450 = .ok (.lshr, 1) := by decide +kernel
theorem dX11_made_451 : decode cX11_made 451 = .ok (.lreturn, 1) := by decide +kernel
theorem dX11_made_452 : decode cX11_made 452 = .ok (.lload_n 2, 1) := by decide +kernel
theorem dX11_made_453 : decode cX11_made 453 = .ok (.lload 4, 2) := by decide +kernel
theorem dX11_made_455 : decode cX11_made 455 = .ok (.lmul, 1) := by decide +kernel
theorem dX11_made_456 : decode cX11_made 456 = .ok (.iload 8, 2) := by decide +kernel
theorem dX11_made_458 : decode cX11_made 458 = .ok (.lushr, 1) := by decide +kernel
theorem dX11_made_459 : decode cX11_made 459 = .ok (.lreturn, 1) := by decide +kernel
theorem dX11_made_460 : decode cX11_made 460 = .ok (.lload 9, 2) := by decide +kernel
theorem dX11_made_462 : decode cX11_made 462 = .ok (.lload 4, 2) := by decide +kernel
theorem dX11_made_464 : decode cX11_made 464 = .ok (.lmul, 1) := by decide +kernel
theorem dX11_made_465 : decode cX11_made 465 = .ok (.iload 8, 2) := by decide +kernel
theorem dX11_made_467 : decode cX11_made 467 = .ok (.lshr, 1) := by decide +kernel
theorem dX11_made_468 : decode cX11_made 468 = .ok (.lreturn, 1) := by decide +kernel
theorem dX11_made_469 : decode cX11_made 469 = .ok (.lload 4, 2) := by decide +kernel
theorem dX11_made_471 : decode cX11_made 471 = .ok (.lconst 0, 1) := by decide +kernel
theorem dX11_made_472 : decode cX11_made 472 = .ok (.lcmp, 1) := by decide +kernel
theorem dX11_made_473 : decode cX11_made 473 = .ok (.ifCond .ne 8, 3) := by decide +kernel
theorem dX11_made_476 : decode cX11_made 476 = .ok (.lload 13, 2) := by decide +kernel
theorem dX11_made_478 : decode cX11_made 478 = .ok (.goto 7, 3) := by decide +kernel
theorem dX11_made_481 : decode cX11_made 481 = .ok (.lload_n 2, 1) := by decide +kernel
theorem dX11_made_482 : decode cX11_made 482 = .ok (.lload 4, 2) := by decide +kernel
theorem dX11_made_484 : decode cX11_made 484 = .ok (.ldiv, 1) := by decide +kernel
theorem dX11_made_485 : decode cX11_made 485 = .ok (.lreturn, 1) := by decide +kernel
theorem dX11_made_486 : decode cX11_made 486 = .ok (.lload 4, 2) := by decide +kernel
theorem dX11_made_488 : decode cX11_made 488 = .ok (.lconst 0, 1) := by decide +kernel
theorem dX11_made_489 : decode cX11_made 489 = .ok (.lcmp, 1) := by decide +kernel
theorem dX11_made_490 : decode cX11_made 490 = .ok (.ifCond .ne 9, 3) := by decide +kernel
theorem dX11_made_493 : decode cX11_made 493 = .ok (.ldc2_w 55, 3) := by decide +kernel
theorem dX11_made_496 : decode cX11_made 496 = .ok (.goto 8, 3) := by decide +kernel
theorem dX11_made_499 : decode cX11_made 499 = .ok (.lload 9, 2) := by decide +kernel
theorem dX11_made_501 : decode cX11_made 501 = .ok (.lload 11, 2) := by decide +kernel
theorem dX11_made_503 : decode cX11_made 503 = .ok (.ldiv, 1) := by decide +kernel
theorem dX11_made_504 : decode cX11_made 504 = .ok (.lreturn, 1) := by decide +kernel
theorem dX11_made_505 : decode cX11_made 505 = .ok (.lload 4, 2) := by decide +kernel
theorem dX11_made_507 : decode cX11_made 507 = .ok (.lconst 0, 1) := by decide +kernel
theorem dX11_made_508 : decode cX11_made 508 = .ok (.lcmp, 1) := by decide +kernel
theorem dX11_made_509 : decode cX11_made 509 = .ok (.ifCond .ne 7, 3) := by decide +kernel
theorem dX11_made_512 : decode cX11_made 512 = .ok (.lload_n 2, 1) := by decide +kernel
theorem dX11_made_513 : decode cX11_made 513 = .ok (.goto 7, 3) := by decide +kernel
theorem dX11_made_516 : decode cX11_made 516 = .ok (.lload_n 2, 1) := by decide +kernel
theorem dX11_made_517 : decode cX11_made 517 = .ok (.lload 4, 2) := by decide +kernel
theorem dX11_made_519 : decode cX11_made 519 = .ok (.lrem, 1) := by decide +kernel
theorem dX11_made_520 : decode cX11_made 520 = .ok (.lreturn, 1) := by decide +kernel
theorem dX11_made_521 : decode cX11_made 521 = .ok (.lload 4, 2) := by decide +kernel
theorem dX11_made_523 : decode cX11_made 523 = .ok (.lconst 0, 1) := by decide +kernel
theorem dX11_made_524 : decode cX11_made 524 = .ok (.lcmp, 1) := by decide +kernel
theorem dX11_made_525 : decode cX11_made 525 = .ok (.ifCond .ne 7, 3) := by decide +kernel
theorem dX11_made_528 : decode cX11_made 528 = .ok (.lload_n 2, 1) := by decide +kernel
theorem dX11_made_529 : decode cX11_made 529 = .ok (.goto 8, 3) := by decide +kernel
theorem dX11_made_532 : decode cX11_made 532 = .ok (.lload 9, 2) := by decide +kernel
theorem dX11_made_534 : decode cX11_made 534 = .ok (.lload 11, 2) := by decide +kernel
theorem dX11_made_536 : decode cX11_made 536 = .ok (.lrem, 1) := by decide +kernel
theorem dX11_made_537 : decode cX11_made 537 = .ok (.lreturn, 1) := by decide +kernel
theorem dX11_made_538 : decode cX11_made 538 = .ok (.lload 6, 2) := by decide +kernel
theorem dX11_made_540 : decode cX11_made 540 = .ok (.lload_n 2, 1) := by decide +kernel
theorem dX11_made_541 : decode cX11_made 541 = .ok (.lload 4, 2) := by decide +kernel
theorem dX11_made_543 : decode cX11_made 543 = .ok (.lmul, 1) := by decide +kernel
theorem dX11_made_544 : decode cX11_made 544 = .ok (.ladd, 1) := by decide +kernel
theorem dX11_made_545 : decode cX11_made 545 = .ok (.lreturn, 1) := by decide +kernel
theorem dX11_made_546 : decode cX11_made 546 = .ok (.lload 6, 2) := by decide +kernel
theorem dX11_made_548 : decode cX11_made 548 = .ok (.lload_n 2, 1) := by decide +kernel
theorem dX11_made_549 : decode cX11_made 549 = .ok (.lload 4, 2) := by decide +kernel
theorem dX11_made_551 : decode cX11_made 551 = .ok (.lmul, 1) := by decide +kernel
theorem dX11_made_552 : decode cX11_made 552 = .ok (.lsub, 1) := by decide +kernel
theorem dX11_made_553 : decode cX11_made 553 = .ok (.lreturn, 1) := by decide +kernel
theorem dX11_made_554 : decode cX11_made 554 = .ok (.lload 4, 2) := by decide +kernel
theorem dX11_made_556 : decode cX11_made 556 = .ok (.lload 6, 2) := by decide +kernel
theorem dX11_made_558 : decode cX11_made 558 = .ok (.lmul, 1) := by decide +kernel
theorem dX11_made_559 : decode cX11_made 559 = .ok (.lload_n 2, 1) := by decide +kernel
theorem dX11_made_560 : decode cX11_made 560 = .ok (.ladd, 1) := by decide +kernel
theorem dX11_made_561 : decode cX11_made 561 = .ok (.lreturn, 1) := by decide +kernel
theorem dX11_made_562 : decode cX11_made 562 = .ok (.lload_n 2, 1) := by decide +kernel
theorem dX11_made_563 : decode cX11_made 563 = .ok (.lload 4, 2) := by decide +kernel
theorem dX11_made_565 : decode cX11_made 565 = .ok (.lload 6, 2) := by decide +kernel
theorem dX11_made_567 : decode cX11_made 567 = .ok (.lmul, 1) := by decide +kernel
theorem dX11_made_568 : decode cX11_made 568 = .ok (.lsub, 1) := by decide +kernel
theorem dX11_made_569 : decode cX11_made 569 = .ok (.lreturn, 1) := by decide +kernel
theorem dX11_masked_0 : decode cX11_masked 0 = .ok (.aload_n 0, 1) := by decide +kernel
theorem dX11_masked_1 : decode cX11_masked 1 = .ok (.invokevirtual 231, 3) := by decide +kernel
theorem dX11_masked_4 : decode cX11_masked 4 = .ok (.ifCond .eq 10, 3) := by decide +kernel
theorem dX11_masked_7 : decode cX11_masked 7 = .ok (.aload_n 0, 1) := by decide +kernel
theorem dX11_masked_8 : decode cX11_masked 8 = .ok (.iload_n 1, 1) := by decide +kernel
theorem dX11_masked_9 : decode cX11_masked 9 = .ok (.iload_n 2, 1) := by decide +kernel
theorem dX11_masked_10 : decode cX11_masked 10 = .ok (.iload_n 3, 1) := by decide +kernel
theorem dX11_masked_11 : decode cX11_masked 11 = .ok (.invokevirtual 84, 3) := by decide +kernel
theorem dX11_masked_14 : decode cX11_masked 14 = .ok (.return_, 1) := by decide +kernel
theorem dX11_alike_0 : decode cX11_alike 0 = .ok (.aload_n 0, 1) := by decide +kernel
theorem dX11_alike_1 : decode cX11_alike 1 = .ok (.aload_n 0, 1) := by decide +kernel
theorem dX11_alike_2 : decode cX11_alike 2 = .ok (.getfield 98, 3) := by decide +kernel
theorem dX11_alike_5 : decode cX11_alike 5 = .ok (.aload_n 0, 1) := by decide +kernel
theorem dX11_alike_6 : decode cX11_alike 6 = .ok (.getfield 147, 3) := by decide +kernel
theorem dX11_alike_9 : decode cX11_alike 9 = .ok (.aload_n 0, 1) := by decide +kernel
theorem dX11_alike_10 : decode cX11_alike 10 = .ok (.getfield 98, 3) := by decide +kernel
theorem dX11_alike_13 : decode cX11_alike 13 = .ok (.aload_n 0, 1) := by decide +kernel
theorem dX11_alike_14 : decode cX11_alike 14 = .ok (.invokevirtual 234, 3) := by decide +kernel
theorem dX11_alike_17 : decode cX11_alike 17 = .ok (.aload_n 0, 1) := by decide +kernel
theorem dX11_alike_18 : decode cX11_alike 18 = .ok (.getfield 98, 3) := by decide +kernel
theorem dX11_alike_21 : decode cX11_alike 21 = .ok (.invokevirtual 237, 3) := by decide +kernel
theorem dX11_alike_24 : decode cX11_alike 24 = .ok (.ifCond .ne 5, 3) := by decide +kernel
theorem dX11_alike_27 : decode cX11_alike 27 = .ok (.iconst 0, 1) := by decide +kernel
theorem dX11_alike_28 : decode cX11_alike 28 = .ok (.ireturn, 1) := by decide +kernel
theorem dX11_alike_29 : decode cX11_alike 29 = .ok (.aload_n 0, 1) := by decide +kernel
theorem dX11_alike_30 : decode cX11_alike 30 = .ok (.invokevirtual 241, 3) := by decide +kernel
theorem dX11_alike_33 : decode cX11_alike 33 = .ok (.ifCond .ne 5, 3) := by decide +kernel
theorem dX11_alike_36 : decode cX11_alike 36 = .ok (.iconst 1, 1) := by decide +kernel
theorem dX11_alike_37 : decode cX11_alike 37 = .ok (.ireturn, 1) := by decide +kernel
theorem dX11_alike_38 : decode cX11_alike 38 = .ok (.iload_n 1, 1) := by decide +kernel
theorem dX11_alike_39 : decode cX11_alike 39 = .ok (.bipush 10, 2) := by decide +kernel
theorem dX11_alike_41 : decode cX11_alike 41 = .ok (.if_icmp .eq 27, 3) := by decide +kernel
theorem dX11_alike_44 : decode cX11_alike 44 = .ok (.iload_n 1, 1) := by decide +kernel
theorem dX11_alike_45 : decode cX11_alike 45 = .ok (.bipush 11, 2) := by decide +kernel
theorem dX11_alike_47 : decode cX11_alike 47 = .ok (.if_icmp .eq 21, 3) := by decide +kernel
theorem dX11_alike_50 : decode cX11_alike 50 = .ok (.iload_n 1, 1) := by decide +kernel
theorem dX11_alike_51 : decode cX11_alike 51 = .ok (.bipush 12, 2) := by decide +kernel
theorem dX11_alike_53 : decode cX11_alike 53 = .ok (.if_icmp .eq 15, 3) := by decide +kernel
theorem dX11_alike_56 : decode cX11_alike 56 = .ok (.iload_n 1, 1) := by decide +kernel
theorem dX11_alike_57 : decode cX11_alike 57 = .ok (.bipush 17, 2) := by decide +kernel
theorem dX11_alike_59 : decode cX11_alike 59 = .ok (.if_icmp .eq 9, 3) := by decide +kernel
theorem dX11_alike_62 : decode cX11_alike 62 = .ok (.iload_n 1, 1) := by decide +kernel
theorem dX11_alike_63 : decode cX11_alike 63 = .ok (.bipush 18, 2) := by decide +kernel
theorem dX11_alike_65 : decode cX11_alike 65 = .ok (.if_icmp .ne 7, 3) := by decide +kernel
theorem dX11_alike_68 : decode cX11_alike 68 = .ok (.iconst 1, 1) := by decide +kernel
theorem dX11_alike_69 : decode cX11_alike 69 = .ok (.goto 4, 3) := by decide +kernel
theorem dX11_alike_72 : decode cX11_alike 72 = .ok (.iconst 0, 1) := by decide +kernel
theorem dX11_alike_73 : decode cX11_alike 73 = .ok (.istore_n 2, 1) := by decide +kernel
theorem dX11_alike_74 : decode cX11_alike 74 = .ok (.aload_n 0, 1) := by decide +kernel
theorem dX11_alike_75 : decode cX11_alike 75 = .ok (.getfield 176, 3) := by decide +kernel
theorem dX11_alike_78 : decode cX11_alike 78 = .ok (.istore_n 3, 1) := by decide +kernel
theorem dX11_alike_79 : decode cX11_alike 79 = .ok (.iload_n 3, 1) := by decide +kernel
theorem dX11_alike_80 : decode cX11_alike 80 = .ok (.aload_n 0, 1) := by decide +kernel
theorem dX11_alike_81 : decode cX11_alike 81 = .ok (.getfield 88, 3) := by decide +kernel
theorem dX11_alike_84 : decode cX11_alike 84 = .ok (.if_icmp .ge 115, 3) := by decide +kernel
theorem dX11_alike_87 : decode cX11_alike 87 = .ok (.aload_n 0, 1) := by decide +kernel
theorem dX11_alike_88 : decode cX11_alike 88 = .ok (.iload_n 3, 1) := by decide +kernel
theorem dX11_alike_89 : decode cX11_alike 89 = .ok (.invokevirtual 244, 3) := by decide +kernel
theorem dX11_alike_92 : decode cX11_alike 92 = .ok (.ifCond .ne 19, 3) := by decide +kernel
theorem dX11_alike_95 : decode cX11_alike 95 = .ok (.aload_n 0, 1) := by decide +kernel
theorem dX11_alike_96 : decode cX11_alike 96 = .ok (.aload_n 0, 1) := by decide +kernel
theorem dX11_alike_97 : decode cX11_alike 97 = .ok (.getfield 111, 3) := by decide +kernel
theorem dX11_alike_100 : decode cX11_alike 100 = .ok (.aload_n 0, 1) := by decide +kernel
theorem dX11_alike_101 : decode cX11_alike 101 = .ok (.getfield 98, 3) := by decide +kernel
theorem dX11_alike_104 : decode cX11_alike 104 = .ok (.iload_n 3, 1) := by decide +kernel
theorem dX11_alike_105 : decode cX11_alike 105 = .ok (.invokevirtual 247, 3) := by decide +kernel
theorem dX11_alike_108 : decode cX11_alike 108 = .ok (.goto 85, 3) := by decide +kernel
theorem dX11_alike_111 : decode cX11_alike 111 = .ok (.iload_n 2, 1) := by decide +kernel
theorem dX11_alike_112 : decode cX11_alike 112 = .ok (.ifCond .eq 20, 3) := by decide +kernel
theorem dX11_alike_115 : decode cX11_alike 115 = .ok (.aload_n 0, 1) := by decide +kernel
theorem dX11_alike_116 : decode cX11_alike 116 = .ok (.aload_n 0, 1) := by decide +kernel
theorem dX11_alike_117 : decode cX11_alike 117 = .ok (.getfield 98, 3) := by decide +kernel
theorem dX11_alike_120 : decode cX11_alike 120 = .ok (.aload_n 0, 1) := by decide +kernel
theorem dX11_alike_121 : decode cX11_alike 121 = .ok (.getfield 98, 3) := by decide +kernel
theorem dX11_alike_124 : decode cX11_alike 124 = .ok (.iload_n 3, 1) := by decide +kernel
theorem dX11_alike_125 : decode cX11_alike 125 = .ok (.invokevirtual 250, 3) := by decide +kernel
theorem dX11_alike_128 : decode cX11_alike 128 = .ok (.i2l, 1) := by decide +kernel
theorem dX11_alike_129 : decode cX11_alike 129 = .ok (.goto 12, 3) := by decide +kernel
theorem dX11_alike_132 : decode cX11_alike 132 = .ok (.aload_n 0, 1) := by decide +kernel
theorem dX11_alike_133 : decode cX11_alike 133 = .ok (.aload_n 0, 1) := by decide +kernel
theorem dX11_alike_134 : decode cX11_alike 134 = .ok (.getfield 98, 3) := by decide +kernel
theorem dX11_alike_137 : decode cX11_alike 137 = .ok (.iload_n 3, 1) := by decide +kernel
theorem dX11_alike_138 : decode cX11_alike 138 = .ok (.invokevirtual 254, 3) := by decide +kernel
theorem dX11_alike_141 : decode cX11_alike 141 = .ok (.lstore 4, 2) := by decide +kernel
theorem dX11_alike_143 : decode cX11_alike 143 = .ok (.aload_n 0, 1) := by decide +kernel
theorem dX11_alike_144 : decode cX11_alike 144 = .ok (.aload_n 0, 1) := by decide +kernel
theorem dX11_alike_145 : decode cX11_alike 145 = .ok (.getfield 111, 3) := by decide +kernel
theorem dX11_alike_148 : decode cX11_alike 148 = .ok (.aload_n 0, 1) := by decide +kernel
theorem dX11_alike_149 : decode cX11_alike 149 = .ok (.getfield 98, 3) := by decide +kernel
theorem dX11_alike_152 : decode cX11_alike 152 = .ok (.iload_n 3, 1) := by decide +kernel
theorem dX11_alike_153 : decode cX11_alike 153 = .ok (.aload_n 0, 1) := by decide +kernel
theorem dX11_alike_154 : decode cX11_alike 154 = .ok (.iload_n 1, 1) := by decide +kernel
theorem dX11_alike_155 : decode cX11_alike 155 = .ok (.aload_n 0, 1) := by decide +kernel
theorem dX11_alike_156 : decode cX11_alike 156 = .ok (.aload_n 0, 1) := by decide +kernel
theorem dX11_alike_157 : decode cX11_alike 157 = .ok (.getfield 147, 3) := by decide +kernel
theorem dX11_alike_160 : decode cX11_alike 160 = .ok (.aload_n 0, 1) := by decide +kernel
theorem dX11_alike_161 : decode cX11_alike 161 = .ok (.getfield 98, 3) := by decide +kernel
theorem dX11_alike_164 : decode cX11_alike 164 = .ok (.iload_n 3, 1) := by decide +kernel
theorem dX11_alike_165 : decode cX11_alike 165 = .ok (.invokevirtual 133, 3) := by decide +kernel
theorem dX11_alike_168 : decode cX11_alike 168 = .ok (.lload 4, 2) := by decide +kernel
theorem dX11_alike_170 : decode cX11_alike 170 = .ok (.aload_n 0, 1) := by decide +kernel
theorem dX11_alike_171 : decode cX11_alike 171 = .ok (.aload_n 0, 1) := by decide +kernel
theorem dX11_alike_172 : decode cX11_alike 172 = .ok (.getfield 111, 3) := by decide +kernel
theorem dX11_alike_175 : decode cX11_alike 175 = .ok (.aload_n 0, 1) := by decide +kernel
theorem dX11_alike_176 : decode cX11_alike 176 = .ok (.getfield 98, 3) := by decide +kernel
theorem dX11_alike_179 : decode cX11_alike 179 = .ok (.iload_n 3, 1) := by decide +kernel
theorem dX11_alike_180 : decode cX11_alike 180 = .ok (.invokevirtual 133, 3) := by decide +kernel
theorem dX11_alike_183 : decode cX11_alike 183 = .ok (.aload_n 0, 1) := by decide +kernel
theorem dX11_alike_184 : decode cX11_alike 184 = .ok (.getfield 98, 3) := by decide +kernel
theorem dX11_alike_187 : decode cX11_alike 187 = .ok (.invokevirtual 257, 3) := by decide +kernel
theorem dX11_alike_190 : decode cX11_alike 190 = .ok (.invokevirtual 69, 3) := by decide +kernel
theorem dX11_alike_193 : decode cX11_alike 193 = .ok (.iinc 3 1, 3) := by decide +kernel
theorem dX11_alike_196 : decode cX11_alike 196 = .ok (.goto (-117), 3) := by decide +kernel
theorem dX11_alike_199 : decode cX11_alike 199 = .ok (.aload_n 0, 1) := by decide +kernel
theorem dX11_alike_200 : decode cX11_alike 200 = .ok (.aload_n 0, 1) := by decide +kernel
theorem dX11_alike_201 : decode cX11_alike 201 = .ok (.getfield 111, 3) := by decide +kernel
theorem dX11_alike_204 : decode cX11_alike 204 = .ok (.aload_n 0, 1) := by decide +kernel
theorem dX11_alike_205 : decode cX11_alike 205 = .ok (.getfield 98, 3) := by decide +kernel
theorem dX11_alike_208 : decode cX11_alike 208 = .ok (.aload_n 0, 1) := by decide +kernel
theorem dX11_alike_209 : decode cX11_alike 209 = .ok (.getfield 95, 3) := by decide +kernel
theorem dX11_alike_212 : decode cX11_alike 212 = .ok (.aload_n 0, 1) := by decide +kernel
theorem dX11_alike_213 : decode cX11_alike 213 = .ok (.getfield 88, 3) := by decide +kernel
theorem dX11_alike_216 : decode cX11_alike 216 = .ok (.invokevirtual 261, 3) := by decide +kernel
theorem dX11_alike_219 : decode cX11_alike 219 = .ok (.iconst 1, 1) := by decide +kernel
theorem dX11_alike_220 : decode cX11_alike 220 = .ok (.ireturn, 1) := by decide +kernel
theorem dX11_compares_0 : decode cX11_compares 0 = .ok (.aload_n 0, 1) := by decide +kernel
theorem dX11_compares_1 : decode cX11_compares 1 = .ok (.aload_n 0, 1) := by decide +kernel
theorem dX11_compares_2 : decode cX11_compares 2 = .ok (.getfield 147, 3) := by decide +kernel
theorem dX11_compares_5 : decode cX11_compares 5 = .ok (.aload_n 0, 1) := by decide +kernel
theorem dX11_compares_6 : decode cX11_compares 6 = .ok (.getfield 98, 3) := by decide +kernel
theorem dX11_compares_9 : decode cX11_compares 9 = .ok (.aload_n 0, 1) := by decide +kernel
theorem dX11_compares_10 : decode cX11_compares 10 = .ok (.invokevirtual 234, 3) := by decide +kernel
theorem dX11_compares_13 : decode cX11_compares 13 = .ok (.aload_n 0, 1) := by decide +kernel
theorem dX11_compares_14 : decode cX11_compares 14 = .ok (.getfield 98, 3) := by decide +kernel
theorem dX11_compares_17 : decode cX11_compares 17 = .ok (.invokevirtual 265, 3) := by decide +kernel
theorem dX11_compares_20 : decode cX11_compares 20 = .ok (.ifCond .ne 5, 3) := by decide +kernel
theorem dX11_compares_23 : decode cX11_compares 23 = .ok (.iconst 0, 1) := by decide +kernel
theorem dX11_compares_24 : decode cX11_compares 24 = .ok (.ireturn, 1) := by decide +kernel
theorem dX11_compares_25 : decode cX11_compares 25 = .ok (.aload_n 0, 1) := by decide +kernel
theorem dX11_compares_26 : decode cX11_compares 26 = .ok (.invokevirtual 241, 3) := by decide +kernel
theorem dX11_compares_29 : decode cX11_compares 29 = .ok (.ifCond .ne 5, 3) := by decide +kernel
theorem dX11_compares_32 : decode cX11_compares 32 = .ok (.iconst 1, 1) := by decide +kernel
theorem dX11_compares_33 : decode cX11_compares 33 = .ok (.ireturn, 1) := by decide +kernel
theorem dX11_compares_34 : decode cX11_compares 34 = .ok (.aload_n 0, 1) := by decide +kernel
theorem dX11_compares_35 : decode cX11_compares 35 = .ok (.getfield 176, 3) := by decide +kernel
theorem dX11_compares_38 : decode cX11_compares 38 = .ok (.istore_n 2, 1) := by decide +kernel
theorem dX11_compares_39 : decode cX11_compares 39 = .ok (.iload_n 2, 1) := by decide +kernel
theorem dX11_compares_40 : decode cX11_compares 40 = .ok (.aload_n 0, 1) := by decide +kernel
theorem dX11_compares_41 : decode cX11_compares 41 = .ok (.getfield 88, 3) := by decide +kernel
theorem dX11_compares_44 : decode cX11_compares 44 = .ok (.if_icmp .ge 250, 3) := by decide +kernel
theorem dX11_compares_47 : decode cX11_compares 47 = .ok (.aload_n 0, 1) := by decide +kernel
theorem dX11_compares_48 : decode cX11_compares 48 = .ok (.iload_n 2, 1) := by decide +kernel
theorem dX11_compares_49 : decode cX11_compares 49 = .ok (.invokevirtual 244, 3) := by decide +kernel
theorem dX11_compares_52 : decode cX11_compares 52 = .ok (.ifCond .ne 22, 3) := by decide +kernel
theorem dX11_compares_55 : decode cX11_compares 55 = .ok (.aload_n 0, 1) := by decide +kernel
theorem dX11_compares_56 : decode cX11_compares 56 = .ok (.invokevirtual 231, 3) := by decide +kernel
theorem dX11_compares_59 : decode cX11_compares 59 = .ok (.ifCond .eq 229, 3) := by decide +kernel
theorem dX11_compares_62 : decode cX11_compares 62 = .ok (.aload_n 0, 1) := by decide +kernel
theorem dX11_compares_63 : decode cX11_compares 63 = .ok (.aload_n 0, 1) := by decide +kernel
theorem dX11_compares_64 : decode cX11_compares 64 = .ok (.getfield 111, 3) := by decide +kernel
theorem dX11_compares_67 : decode cX11_compares 67 = .ok (.iload_n 2, 1) := by decide +kernel
theorem dX11_compares_68 : decode cX11_compares 68 = .ok (.invokevirtual 91, 3) := by decide +kernel
theorem dX11_compares_71 : decode cX11_compares 71 = .ok (.goto 217, 3) := by decide +kernel
theorem dX11_compares_74 : decode cX11_compares 74 = .ok (.aload_n 0, 1) := by decide +kernel
theorem dX11_compares_75 : decode cX11_compares 75 = .ok (.aload_n 0, 1) := by decide +kernel
theorem dX11_compares_76 : decode cX11_compares 76 = .ok (.getfield 147, 3) := by decide +kernel
theorem dX11_compares_79 : decode cX11_compares 79 = .ok (.aload_n 0, 1) := by decide +kernel
theorem dX11_compares_80 : decode cX11_compares 80 = .ok (.getfield 98, 3) := by decide +kernel
theorem dX11_compares_83 : decode cX11_compares 83 = .ok (.iload_n 2, 1) := by decide +kernel
theorem dX11_compares_84 : decode cX11_compares 84 = .ok (.invokevirtual 133, 3) := by decide +kernel
theorem dX11_compares_87 : decode cX11_compares 87 = .ok (.lstore_n 3, 1) := by decide +kernel
theorem dX11_compares_88 : decode cX11_compares 88 = .ok (.aload_n 0, 1) := by decide +kernel
theorem dX11_compares_89 : decode cX11_compares 89 = .ok (.aload_n 0, 1) := by decide +kernel
theorem dX11_compares_90 : decode cX11_compares 90 = .ok (.getfield 98, 3) := by decide +kernel
theorem dX11_compares_93 : decode cX11_compares 93 = .ok (.iload_n 2, 1) := by decide +kernel
theorem dX11_compares_94 : decode cX11_compares 94 = .ok (.invokevirtual 254, 3) := by decide +kernel
theorem dX11_compares_97 : decode cX11_compares 97 = .ok (.lstore 5, 2) := by decide +kernel
theorem dX11_compares_99 : decode cX11_compares 99 = .ok (.lload_n 3, 1) := by decide +kernel
theorem dX11_compares_100 : decode cX11_compares 100 = .ok (.aload_n 0, 1) := by decide +kernel
theorem dX11_compares_101 : decode cX11_compares 101 = .ok (.getfield 98, 3) := by decide +kernel
theorem dX11_compares_104 : decode cX11_compares 104 = .ok (.invokestatic 206, 3) := by decide +kernel
theorem dX11_compares_107 : decode cX11_compares 107 = .ok (.lstore 7, 2) := by decide +kernel
theorem dX11_compares_109 : decode cX11_compares 109 = .ok (.lload 5, 2) := by decide +kernel
theorem dX11_compares_111 : decode cX11_compares 111 = .ok (.aload_n 0, 1) := by decide +kernel
theorem dX11_compares_112 : decode cX11_compares 112 = .ok (.getfield 98, 3) := by decide +kernel
theorem dX11_compares_115 : decode cX11_compares 115 = .ok (.invokestatic 206, 3) := by decide +kernel
theorem dX11_compares_118 : decode cX11_compares 118 = .ok (.lstore 9, 2) := by decide +kernel
theorem dX11_compares_120 : decode cX11_compares 120 = .ok (.iload_n 1, 1) := by decide +kernel
theorem dX11_compares_121 : decode cX11_compares 121 = .ok (.ifCond .ne 18, 3) := by decide +kernel
theorem dX11_compares_124 : decode cX11_compares 124 = .ok (.lload_n 3, 1) := by decide +kernel
theorem dX11_compares_125 : decode cX11_compares 125 = .ok (.lload 5, 2) := by decide +kernel
theorem dX11_compares_127 : decode cX11_compares 127 = .ok (.lcmp, 1) := by decide +kernel
theorem dX11_compares_128 : decode cX11_compares 128 = .ok (.ifCond .ne 7, 3) := by decide +kernel
theorem dX11_compares_131 : decode cX11_compares 131 = .ok (.iconst 1, 1) := by decide +kernel
theorem dX11_compares_132 : decode cX11_compares 132 = .ok (.goto 143, 3) := by decide +kernel
theorem dX11_compares_135 : decode cX11_compares 135 = .ok (.iconst 0, 1) := by decide +kernel
theorem dX11_compares_136 : decode cX11_compares 136 = .ok (.goto 139, 3) := by decide +kernel
theorem dX11_compares_139 : decode cX11_compares 139 = .ok (.iload_n 1, 1) := by decide +kernel
theorem dX11_compares_140 : decode cX11_compares 140 = .ok (.iconst 1, 1) := by decide +kernel
theorem dX11_compares_141 : decode cX11_compares 141 = .ok (.if_icmp .ne 18, 3) := by decide +kernel
theorem dX11_compares_144 : decode cX11_compares 144 = .ok (.lload_n 3, 1) := by decide +kernel
theorem dX11_compares_145 : decode cX11_compares 145 = .ok (.lload 5, 2) := by decide +kernel
theorem dX11_compares_147 : decode cX11_compares 147 = .ok (.lcmp, 1) := by decide +kernel
theorem dX11_compares_148 : decode cX11_compares 148 = .ok (.ifCond .eq 7, 3) := by decide +kernel
theorem dX11_compares_151 : decode cX11_compares 151 = .ok (.iconst 1, 1) := by decide +kernel
theorem dX11_compares_152 : decode cX11_compares 152 = .ok (.goto 123, 3) := by decide +kernel
theorem dX11_compares_155 : decode cX11_compares 155 = .ok (.iconst 0, 1) := by decide +kernel
theorem dX11_compares_156 : decode cX11_compares 156 = .ok (.goto 119, 3) := by decide +kernel
theorem dX11_compares_159 : decode cX11_compares 159 = .ok (.iload_n 1, 1) := by decide +kernel
theorem dX11_compares_160 : decode cX11_compares 160 = .ok (.iconst 2, 1) := by decide +kernel
theorem dX11_compares_161 : decode cX11_compares 161 = .ok (.if_icmp .ne 18, 3) := by decide +kernel
theorem dX11_compares_164 : decode cX11_compares 164 = .ok (.lload_n 3, 1) := by decide +kernel
theorem dX11_compares_165 : decode cX11_compares 165 = .ok (.lload 5, 2) := by decide +kernel
theorem dX11_compares_167 : decode cX11_compares 167 = .ok (.lcmp, 1) := by decide +kernel
theorem dX11_compares_168 : decode cX11_compares 168 = .ok (.ifCond .ge 7, 3) := by decide +kernel
theorem dX11_compares_171 : decode cX11_compares 171 = .ok (.iconst 1, 1) := by decide +kernel
theorem dX11_compares_172 : decode cX11_compares 172 = .ok (.goto 103, 3) := by decide +kernel
theorem dX11_compares_175 : decode cX11_compares 175 = .ok (.iconst 0, 1) := by decide +kernel
theorem dX11_compares_176 : decode cX11_compares 176 = .ok (.goto 99, 3) := by decide +kernel
theorem dX11_compares_179 : decode cX11_compares 179 = .ok (.iload_n 1, 1) := by decide +kernel
theorem dX11_compares_180 : decode cX11_compares 180 = .ok (.iconst 3, 1) := by decide +kernel
theorem dX11_compares_181 : decode cX11_compares 181 = .ok (.if_icmp .ne 19, 3) := by decide +kernel
theorem dX11_compares_184 : decode cX11_compares 184 = .ok (.lload 7, 2) := by decide +kernel
theorem dX11_compares_186 : decode cX11_compares 186 = .ok (.lload 9, 2) := by decide +kernel
theorem dX11_compares_188 : decode cX11_compares 188 = .ok (.lcmp, 1) := by decide +kernel
theorem dX11_compares_189 : decode cX11_compares 189 = .ok (.ifCond .ge 7, 3) := by decide +kernel
theorem dX11_compares_192 : decode cX11_compares 192 = .ok (.iconst 1, 1) := by decide +kernel
theorem dX11_compares_193 : decode cX11_compares 193 = .ok (.goto 82, 3) := by decide +kernel
theorem dX11_compares_196 : decode cX11_compares 196 = .ok (.iconst 0, 1) := by decide +kernel
theorem dX11_compares_197 : decode cX11_compares 197 = .ok (.goto 78, 3) := by decide +kernel
theorem dX11_compares_200 : decode cX11_compares 200 = .ok (.iload_n 1, 1) := by decide +kernel
theorem dX11_compares_201 : decode cX11_compares 201 = .ok (.iconst 4, 1) := by decide +kernel
theorem dX11_compares_202 : decode cX11_compares 202 = .ok (.if_icmp .ne 18, 3) := by decide +kernel
theorem dX11_compares_205 : decode cX11_compares 205 = .ok (.lload_n 3, 1) := by decide +kernel
theorem dX11_compares_206 : decode cX11_compares 206 = .ok (.lload 5, 2) := by decide +kernel
theorem dX11_compares_208 : decode cX11_compares 208 = .ok (.lcmp, 1) := by decide +kernel
theorem dX11_compares_209 : decode cX11_compares 209 = .ok (.ifCond .gt 7, 3) := by decide +kernel
theorem dX11_compares_212 : decode cX11_compares 212 = .ok (.iconst 1, 1) := by decide +kernel
theorem dX11_compares_213 : decode cX11_compares 213 = .ok (.goto 62, 3) := by decide +kernel
theorem dX11_compares_216 : decode cX11_compares 216 = .ok (.iconst 0, 1) := by decide +kernel
theorem dX11_compares_217 : decode cX11_compares 217 = .ok (.goto 58, 3) := by decide +kernel
theorem dX11_compares_220 : decode cX11_compares 220 = .ok (.iload_n 1, 1) := by decide +kernel
theorem dX11_compares_221 : decode cX11_compares 221 = .ok (.iconst 5, 1) := by decide +kernel
theorem dX11_compares_222 : decode cX11_compares 222 = .ok (.if_icmp .ne 19, 3) := by decide +kernel
theorem dX11_compares_225 : decode cX11_compares 225 = .ok (.lload 7, 2) := by decide +kernel
theorem dX11_compares_227 : decode cX11_compares 227 = .ok (.lload 9, 2) := by decide +kernel
theorem dX11_compares_229 : decode cX11_compares 229 = .ok (.lcmp, 1) := by decide +kernel
theorem dX11_compares_230 : decode cX11_compares 230 = .ok (.ifCond .gt 7, 3) := by decide +kernel
theorem dX11_compares_233 : decode cX11_compares 233 = .ok (.iconst 1, 1) := by decide +kernel
theorem dX11_compares_234 : decode cX11_compares 234 = .ok (.goto 41, 3) := by decide +kernel
theorem dX11_compares_237 : decode cX11_compares 237 = .ok (.iconst 0, 1) := by decide +kernel
theorem dX11_compares_238 : decode cX11_compares 238 = .ok (.goto 37, 3) := by decide +kernel
theorem dX11_compares_241 : decode cX11_compares 241 = .ok (.iload_n 1, 1) := by decide +kernel
theorem dX11_compares_242 : decode cX11_compares 242 = .ok (.bipush 6, 2) := by decide +kernel
theorem dX11_compares_244 : decode cX11_compares 244 = .ok (.if_icmp .ne 18, 3) := by decide +kernel
theorem dX11_compares_247 : decode cX11_compares 247 = .ok (.lload_n 3, 1) := by decide +kernel
theorem dX11_compares_248 : decode cX11_compares 248 = .ok (.lload 5, 2) := by decide +kernel
theorem dX11_compares_250 : decode cX11_compares 250 = .ok (.lcmp, 1) := by decide +kernel
theorem dX11_compares_251 : decode cX11_compares 251 = .ok (.ifCond .le 7, 3) := by decide +kernel
theorem dX11_compares_254 : decode cX11_compares 254 = .ok (.iconst 1, 1) := by decide +kernel
theorem dX11_compares_255 : decode cX11_compares 255 = .ok (.goto 20, 3) := by decide +kernel
theorem dX11_compares_258 : decode cX11_compares 258 = .ok (.iconst 0, 1) := by decide +kernel
theorem dX11_compares_259 : decode cX11_compares 259 = .ok (.goto 16, 3) := by decide +kernel
theorem dX11_compares_262 : decode cX11_compares 262 = .ok (.lload 7, 2) := by decide +kernel
theorem dX11_compares_264 : decode cX11_compares 264 = .ok (.lload 9, 2) := by decide +kernel
theorem dX11_compares_266 : decode cX11_compares 266 = .ok (.lcmp, 1) := by decide +kernel
theorem dX11_compares_267 : decode cX11_compares 267 = .ok (.ifCond .le 7, 3) := by decide +kernel
theorem dX11_compares_270 : decode cX11_compares 270 = .ok (.iconst 1, 1) := by decide +kernel
theorem dX11_compares_271 : decode cX11_compares 271 = .ok (.goto 4, 3) := by decide +kernel
theorem dX11_compares_274 : decode cX11_compares 274 = .ok (.iconst 0, 1) := by decide +kernel
theorem dX11_compares_275 : decode cX11_compares 275 = .ok (.istore 11, 2) := by decide +kernel
theorem dX11_compares_277 : decode cX11_compares 277 = .ok (.aload_n 0, 1) := by decide +kernel
theorem dX11_compares_278 : decode cX11_compares 278 = .ok (.aload_n 0, 1) := by decide +kernel
theorem dX11_compares_279 : decode cX11_compares 279 = .ok (.getfield 111, 3) := by decide +kernel
theorem dX11_compares_282 : decode cX11_compares 282 = .ok (.iload_n 2, 1) := by decide +kernel
theorem dX11_compares_283 : decode cX11_compares 283 = .ok (.iload 11, 2) := by decide +kernel
theorem dX11_compares_285 : decode cX11_compares 285 = .ok (.invokevirtual 73, 3) := by decide +kernel
theorem dX11_compares_288 : decode cX11_compares 288 = .ok (.iinc 2 1, 3) := by decide +kernel
theorem dX11_compares_291 : decode cX11_compares 291 = .ok (.goto (-252), 3) := by decide +kernel
theorem dX11_compares_294 : decode cX11_compares 294 = .ok (.aload_n 0, 1) := by decide +kernel
theorem dX11_compares_295 : decode cX11_compares 295 = .ok (.aload_n 0, 1) := by decide +kernel
theorem dX11_compares_296 : decode cX11_compares 296 = .ok (.getfield 111, 3) := by decide +kernel
theorem dX11_compares_299 : decode cX11_compares 299 = .ok (.invokevirtual 268, 3) := by decide +kernel
theorem dX11_compares_302 : decode cX11_compares 302 = .ok (.iconst 1, 1) := by decide +kernel
theorem dX11_compares_303 : decode cX11_compares 303 = .ok (.ireturn, 1) := by decide +kernel
theorem dX11_carries_0 : decode cX11_carries 0 = .ok (.iload_n 2, 1) := by decide +kernel
theorem dX11_carries_1 : decode cX11_carries 1 = .ok (.ifCond .eq 29, 3) := by decide +kernel
theorem dX11_carries_4 : decode cX11_carries 4 = .ok (.aload_n 0, 1) := by decide +kernel
theorem dX11_carries_5 : decode cX11_carries 5 = .ok (.aload_n 0, 1) := by decide +kernel
theorem dX11_carries_6 : decode cX11_carries 6 = .ok (.getfield 147, 3) := by decide +kernel
theorem dX11_carries_9 : decode cX11_carries 9 = .ok (.aload_n 0, 1) := by decide +kernel
theorem dX11_carries_10 : decode cX11_carries 10 = .ok (.getfield 98, 3) := by decide +kernel
theorem dX11_carries_13 : decode cX11_carries 13 = .ok (.aload_n 0, 1) := by decide +kernel
theorem dX11_carries_14 : decode cX11_carries 14 = .ok (.invokevirtual 234, 3) := by decide +kernel
theorem dX11_carries_17 : decode cX11_carries 17 = .ok (.aload_n 0, 1) := by decide +kernel
theorem dX11_carries_18 : decode cX11_carries 18 = .ok (.getfield 98, 3) := by decide +kernel
theorem dX11_carries_21 : decode cX11_carries 21 = .ok (.invokevirtual 265, 3) := by decide +kernel
theorem dX11_carries_24 : decode cX11_carries 24 = .ok (.ifCond .ne 42, 3) := by decide +kernel
theorem dX11_carries_27 : decode cX11_carries 27 = .ok (.goto 37, 3) := by decide +kernel
theorem dX11_carries_30 : decode cX11_carries 30 = .ok (.aload_n 0, 1) := by decide +kernel
theorem dX11_carries_31 : decode cX11_carries 31 = .ok (.getfield 47, 3) := by decide +kernel
theorem dX11_carries_34 : decode cX11_carries 34 = .ok (.ifCond .ne 30, 3) := by decide +kernel
theorem dX11_carries_37 : decode cX11_carries 37 = .ok (.aload_n 0, 1) := by decide +kernel
theorem dX11_carries_38 : decode cX11_carries 38 = .ok (.aload_n 0, 1) := by decide +kernel
theorem dX11_carries_39 : decode cX11_carries 39 = .ok (.getfield 98, 3) := by decide +kernel
theorem dX11_carries_42 : decode cX11_carries 42 = .ok (.aload_n 0, 1) := by decide +kernel
theorem dX11_carries_43 : decode cX11_carries 43 = .ok (.getfield 147, 3) := by decide +kernel
theorem dX11_carries_46 : decode cX11_carries 46 = .ok (.aload_n 0, 1) := by decide +kernel
theorem dX11_carries_47 : decode cX11_carries 47 = .ok (.getfield 98, 3) := by decide +kernel
theorem dX11_carries_50 : decode cX11_carries 50 = .ok (.aload_n 0, 1) := by decide +kernel
theorem dX11_carries_51 : decode cX11_carries 51 = .ok (.invokevirtual 234, 3) := by decide +kernel
theorem dX11_carries_54 : decode cX11_carries 54 = .ok (.aload_n 0, 1) := by decide +kernel
theorem dX11_carries_55 : decode cX11_carries 55 = .ok (.getfield 98, 3) := by decide +kernel
theorem dX11_carries_58 : decode cX11_carries 58 = .ok (.invokevirtual 237, 3) := by decide +kernel
theorem dX11_carries_61 : decode cX11_carries 61 = .ok (.ifCond .ne 5, 3) := by decide +kernel
theorem dX11_carries_64 : decode cX11_carries 64 = .ok (.iconst 0, 1) := by decide +kernel
theorem dX11_carries_65 : decode cX11_carries 65 = .ok (.ireturn, 1) := by decide +kernel
theorem dX11_carries_66 : decode cX11_carries 66 = .ok (.aload_n 0, 1) := by decide +kernel
theorem dX11_carries_67 : decode cX11_carries 67 = .ok (.invokevirtual 241, 3) := by decide +kernel
theorem dX11_carries_70 : decode cX11_carries 70 = .ok (.ifCond .ne 5, 3) := by decide +kernel
theorem dX11_carries_73 : decode cX11_carries 73 = .ok (.iconst 1, 1) := by decide +kernel
theorem dX11_carries_74 : decode cX11_carries 74 = .ok (.ireturn, 1) := by decide +kernel
theorem dX11_carries_75 : decode cX11_carries 75 = .ok (.aload_n 0, 1) := by decide +kernel
theorem dX11_carries_76 : decode cX11_carries 76 = .ok (.getfield 176, 3) := by decide +kernel
theorem dX11_carries_79 : decode cX11_carries 79 = .ok (.istore_n 3, 1) := by decide +kernel
theorem dX11_carries_80 : decode cX11_carries 80 = .ok (.iload_n 3, 1) := by decide +kernel
theorem dX11_carries_81 : decode cX11_carries 81 = .ok (.aload_n 0, 1) := by decide +kernel
theorem dX11_carries_82 : decode cX11_carries 82 = .ok (.getfield 88, 3) := by decide +kernel
theorem dX11_carries_85 : decode cX11_carries 85 = .ok (.if_icmp .ge 151, 3) := by decide +kernel
theorem dX11_carries_88 : decode cX11_carries 88 = .ok (.aload_n 0, 1) := by decide +kernel
theorem dX11_carries_89 : decode cX11_carries 89 = .ok (.getfield 47, 3) := by decide +kernel
theorem dX11_carries_92 : decode cX11_carries 92 = .ok (.ifCond .ne 16, 3) := by decide +kernel
theorem dX11_carries_95 : decode cX11_carries 95 = .ok (.aload_n 0, 1) := by decide +kernel
theorem dX11_carries_96 : decode cX11_carries 96 = .ok (.iconst 0, 1) := by decide +kernel
theorem dX11_carries_97 : decode cX11_carries 97 = .ok (.iload_n 3, 1) := by decide +kernel
theorem dX11_carries_98 : decode cX11_carries 98 = .ok (.invokevirtual 51, 3) := by decide +kernel
theorem dX11_carries_101 : decode cX11_carries 101 = .ok (.ifCond .eq 7, 3) := by decide +kernel
theorem dX11_carries_104 : decode cX11_carries 104 = .ok (.lconst 1, 1) := by decide +kernel
theorem dX11_carries_105 : decode cX11_carries 105 = .ok (.goto 4, 3) := by decide +kernel
theorem dX11_carries_108 : decode cX11_carries 108 = .ok (.lconst 0, 1) := by decide +kernel
theorem dX11_carries_109 : decode cX11_carries 109 = .ok (.lstore 4, 2) := by decide +kernel
theorem dX11_carries_111 : decode cX11_carries 111 = .ok (.aload_n 0, 1) := by decide +kernel
theorem dX11_carries_112 : decode cX11_carries 112 = .ok (.aload_n 0, 1) := by decide +kernel
theorem dX11_carries_113 : decode cX11_carries 113 = .ok (.getfield 147, 3) := by decide +kernel
theorem dX11_carries_116 : decode cX11_carries 116 = .ok (.aload_n 0, 1) := by decide +kernel
theorem dX11_carries_117 : decode cX11_carries 117 = .ok (.getfield 98, 3) := by decide +kernel
theorem dX11_carries_120 : decode cX11_carries 120 = .ok (.iload_n 3, 1) := by decide +kernel
theorem dX11_carries_121 : decode cX11_carries 121 = .ok (.invokevirtual 133, 3) := by decide +kernel
theorem dX11_carries_124 : decode cX11_carries 124 = .ok (.lstore 6, 2) := by decide +kernel
theorem dX11_carries_126 : decode cX11_carries 126 = .ok (.aload_n 0, 1) := by decide +kernel
theorem dX11_carries_127 : decode cX11_carries 127 = .ok (.aload_n 0, 1) := by decide +kernel
theorem dX11_carries_128 : decode cX11_carries 128 = .ok (.getfield 98, 3) := by decide +kernel
theorem dX11_carries_131 : decode cX11_carries 131 = .ok (.iload_n 3, 1) := by decide +kernel
theorem dX11_carries_132 : decode cX11_carries 132 = .ok (.invokevirtual 254, 3) := by decide +kernel
theorem dX11_carries_135 : decode cX11_carries 135 = .ok (.lstore 8, 2) := by decide +kernel
theorem dX11_carries_137 : decode cX11_carries 137 = .ok (.iload_n 1, 1) := by decide +kernel
theorem dX11_carries_138 : decode cX11_carries 138 = .ok (.ifCond .eq 14, 3) := by decide +kernel
theorem dX11_carries_141 : decode cX11_carries 141 = .ok (.lload 6, 2) := by decide +kernel
theorem dX11_carries_143 : decode cX11_carries 143 = .ok (.lload 8, 2) := by decide +kernel
theorem dX11_carries_145 : decode cX11_carries 145 = .ok (.lsub, 1) := by decide +kernel
theorem dX11_carries_146 : decode cX11_carries 146 = .ok (.lload 4, 2) := by decide +kernel
theorem dX11_carries_148 : decode cX11_carries 148 = .ok (.lsub, 1) := by decide +kernel
theorem dX11_carries_149 : decode cX11_carries 149 = .ok (.goto 11, 3) := by decide +kernel
theorem dX11_carries_152 : decode cX11_carries 152 = .ok (.lload 6, 2) := by decide +kernel
theorem dX11_carries_154 : decode cX11_carries 154 = .ok (.lload 8, 2) := by decide +kernel
theorem dX11_carries_156 : decode cX11_carries 156 = .ok (.ladd, 1) := by decide +kernel
theorem dX11_carries_157 : decode cX11_carries 157 = .ok (.lload 4, 2) := by decide +kernel
theorem dX11_carries_159 : decode cX11_carries 159 = .ok (.ladd, 1) := by decide +kernel
theorem dX11_carries_160 : decode cX11_carries 160 = .ok (.lstore 10, 2) := by decide +kernel
theorem dX11_carries_162 : decode cX11_carries 162 = .ok (.iload_n 2, 1) := by decide +kernel
theorem dX11_carries_163 : decode cX11_carries 163 = .ok (.ifCond .eq 52, 3) := by decide +kernel
theorem dX11_carries_166 : decode cX11_carries 166 = .ok (.aload_n 0, 1) := by decide +kernel
theorem dX11_carries_167 : decode cX11_carries 167 = .ok (.aload_n 0, 1) := by decide +kernel
theorem dX11_carries_168 : decode cX11_carries 168 = .ok (.getfield 111, 3) := by decide +kernel
theorem dX11_carries_171 : decode cX11_carries 171 = .ok (.iload_n 3, 1) := by decide +kernel
theorem dX11_carries_172 : decode cX11_carries 172 = .ok (.iload_n 1, 1) := by decide +kernel
theorem dX11_carries_173 : decode cX11_carries 173 = .ok (.ifCond .eq 18, 3) := by decide +kernel
theorem dX11_carries_176 : decode cX11_carries 176 = .ok (.lload 10, 2) := by decide +kernel
theorem dX11_carries_178 : decode cX11_carries 178 = .ok (.lconst 0, 1) := by decide +kernel
theorem dX11_carries_179 : decode cX11_carries 179 = .ok (.lcmp, 1) := by decide +kernel
theorem dX11_carries_180 : decode cX11_carries 180 = .ok (.ifCond .ge 7, 3) := by decide +kernel
theorem dX11_carries_183 : decode cX11_carries 183 = .ok (.iconst 1, 1) := by decide +kernel
theorem dX11_carries_184 : decode cX11_carries 184 = .ok (.goto 25, 3) := by decide +kernel
theorem dX11_carries_187 : decode cX11_carries 187 = .ok (.iconst 0, 1) := by decide +kernel
theorem dX11_carries_188 : decode cX11_carries 188 = .ok (.goto 21, 3) := by decide +kernel
theorem dX11_carries_191 : decode cX11_carries 191 = .ok (.lload 10, 2) := by decide +kernel
theorem dX11_carries_193 : decode cX11_carries 193 = .ok (.aload_n 0, 1) := by decide +kernel
theorem dX11_carries_194 : decode cX11_carries 194 = .ok (.getfield 98, 3) := by decide +kernel
theorem dX11_carries_197 : decode cX11_carries 197 = .ok (.invokestatic 65, 3) := by decide +kernel
theorem dX11_carries_200 : decode cX11_carries 200 = .ok (.lcmp, 1) := by decide +kernel
theorem dX11_carries_201 : decode cX11_carries 201 = .ok (.ifCond .le 7, 3) := by decide +kernel
theorem dX11_carries_204 : decode cX11_carries 204 = .ok (.iconst 1, 1) := by decide +kernel
theorem dX11_carries_205 : decode cX11_carries 205 = .ok (.goto 4, 3) := by decide +kernel
theorem dX11_carries_208 : decode cX11_carries 208 = .ok (.iconst 0, 1) := by decide +kernel
theorem dX11_carries_209 : decode cX11_carries 209 = .ok (.invokevirtual 73, 3) := by decide +kernel
theorem dX11_carries_212 : decode cX11_carries 212 = .ok (.goto 18, 3) := by decide +kernel
theorem dX11_carries_215 : decode cX11_carries 215 = .ok (.aload_n 0, 1) := by decide +kernel
theorem dX11_carries_216 : decode cX11_carries 216 = .ok (.aload_n 0, 1) := by decide +kernel
theorem dX11_carries_217 : decode cX11_carries 217 = .ok (.getfield 111, 3) := by decide +kernel
theorem dX11_carries_220 : decode cX11_carries 220 = .ok (.aload_n 0, 1) := by decide +kernel
theorem dX11_carries_221 : decode cX11_carries 221 = .ok (.getfield 98, 3) := by decide +kernel
theorem dX11_carries_224 : decode cX11_carries 224 = .ok (.iload_n 3, 1) := by decide +kernel
theorem dX11_carries_225 : decode cX11_carries 225 = .ok (.lload 10, 2) := by decide +kernel
theorem dX11_carries_227 : decode cX11_carries 227 = .ok (.invokevirtual 69, 3) := by decide +kernel
theorem dX11_carries_230 : decode cX11_carries 230 = .ok (.iinc 3 1, 3) := by decide +kernel
theorem dX11_carries_233 : decode cX11_carries 233 = .ok (.goto (-153), 3) := by decide +kernel
theorem dX11_carries_236 : decode cX11_carries 236 = .ok (.iload_n 2, 1) := by decide +kernel
theorem dX11_carries_237 : decode cX11_carries 237 = .ok (.ifCond .eq 14, 3) := by decide +kernel
theorem dX11_carries_240 : decode cX11_carries 240 = .ok (.aload_n 0, 1) := by decide +kernel
theorem dX11_carries_241 : decode cX11_carries 241 = .ok (.aload_n 0, 1) := by decide +kernel
theorem dX11_carries_242 : decode cX11_carries 242 = .ok (.getfield 111, 3) := by decide +kernel
theorem dX11_carries_245 : decode cX11_carries 245 = .ok (.invokevirtual 268, 3) := by decide +kernel
theorem dX11_carries_248 : decode cX11_carries 248 = .ok (.goto 23, 3) := by decide +kernel
theorem dX11_carries_251 : decode cX11_carries 251 = .ok (.aload_n 0, 1) := by decide +kernel
theorem dX11_carries_252 : decode cX11_carries 252 = .ok (.aload_n 0, 1) := by decide +kernel
theorem dX11_carries_253 : decode cX11_carries 253 = .ok (.getfield 111, 3) := by decide +kernel
theorem dX11_carries_256 : decode cX11_carries 256 = .ok (.aload_n 0, 1) := by decide +kernel
theorem dX11_carries_257 : decode cX11_carries 257 = .ok (.getfield 98, 3) := by decide +kernel
theorem dX11_carries_260 : decode cX11_carries 260 = .ok (.aload_n 0, 1) := by decide +kernel
theorem dX11_carries_261 : decode cX11_carries 261 = .ok (.getfield 95, 3) := by decide +kernel
theorem dX11_carries_264 : decode cX11_carries 264 = .ok (.aload_n 0, 1) := by decide +kernel
theorem dX11_carries_265 : decode cX11_carries 265 = .ok (.getfield 88, 3) := by decide +kernel
theorem dX11_carries_268 : decode cX11_carries 268 = .ok (.invokevirtual 261, 3) := by decide +kernel
theorem dX11_carries_271 : decode cX11_carries 271 = .ok (.iconst 1, 1) := by decide +kernel
theorem dX11_carries_272 : decode cX11_carries 272 = .ok (.ireturn, 1) := by decide +kernel
theorem dX11_merges_0 : decode cX11_merges 0 = .ok (.aload_n 0, 1) := by decide +kernel
theorem dX11_merges_1 : decode cX11_merges 1 = .ok (.getfield 47, 3) := by decide +kernel
theorem dX11_merges_4 : decode cX11_merges 4 = .ok (.ifCond .eq 10, 3) := by decide +kernel
theorem dX11_merges_7 : decode cX11_merges 7 = .ok (.aload_n 0, 1) := by decide +kernel
theorem dX11_merges_8 : decode cX11_merges 8 = .ok (.getfield 147, 3) := by decide +kernel
theorem dX11_merges_11 : decode cX11_merges 11 = .ok (.ifCond .ne 41, 3) := by decide +kernel
theorem dX11_merges_14 : decode cX11_merges 14 = .ok (.aload_n 0, 1) := by decide +kernel
theorem dX11_merges_15 : decode cX11_merges 15 = .ok (.aload_n 0, 1) := by decide +kernel
theorem dX11_merges_16 : decode cX11_merges 16 = .ok (.getfield 98, 3) := by decide +kernel
theorem dX11_merges_19 : decode cX11_merges 19 = .ok (.aload_n 0, 1) := by decide +kernel
theorem dX11_merges_20 : decode cX11_merges 20 = .ok (.getfield 47, 3) := by decide +kernel
theorem dX11_merges_23 : decode cX11_merges 23 = .ok (.ifCond .eq 7, 3) := by decide +kernel
theorem dX11_merges_26 : decode cX11_merges 26 = .ok (.iconst (-1), 1) := by decide +kernel
theorem dX11_merges_27 : decode cX11_merges 27 = .ok (.goto 7, 3) := by decide +kernel
theorem dX11_merges_30 : decode cX11_merges 30 = .ok (.aload_n 0, 1) := by decide +kernel
theorem dX11_merges_31 : decode cX11_merges 31 = .ok (.getfield 147, 3) := by decide +kernel
theorem dX11_merges_34 : decode cX11_merges 34 = .ok (.aload_n 0, 1) := by decide +kernel
theorem dX11_merges_35 : decode cX11_merges 35 = .ok (.getfield 98, 3) := by decide +kernel
theorem dX11_merges_38 : decode cX11_merges 38 = .ok (.aload_n 0, 1) := by decide +kernel
theorem dX11_merges_39 : decode cX11_merges 39 = .ok (.invokevirtual 234, 3) := by decide +kernel
theorem dX11_merges_42 : decode cX11_merges 42 = .ok (.aload_n 0, 1) := by decide +kernel
theorem dX11_merges_43 : decode cX11_merges 43 = .ok (.getfield 98, 3) := by decide +kernel
theorem dX11_merges_46 : decode cX11_merges 46 = .ok (.invokevirtual 237, 3) := by decide +kernel
theorem dX11_merges_49 : decode cX11_merges 49 = .ok (.ifCond .ne 5, 3) := by decide +kernel
theorem dX11_merges_52 : decode cX11_merges 52 = .ok (.iconst 0, 1) := by decide +kernel
theorem dX11_merges_53 : decode cX11_merges 53 = .ok (.ireturn, 1) := by decide +kernel
theorem dX11_merges_54 : decode cX11_merges 54 = .ok (.aload_n 0, 1) := by decide +kernel
theorem dX11_merges_55 : decode cX11_merges 55 = .ok (.invokevirtual 241, 3) := by decide +kernel
theorem dX11_merges_58 : decode cX11_merges 58 = .ok (.ifCond .ne 5, 3) := by decide +kernel
theorem dX11_merges_61 : decode cX11_merges 61 = .ok (.iconst 1, 1) := by decide +kernel
theorem dX11_merges_62 : decode cX11_merges 62 = .ok (.ireturn, 1) := by decide +kernel
theorem dX11_merges_63 : decode cX11_merges 63 = .ok (.aload_n 0, 1) := by decide +kernel
theorem dX11_merges_64 : decode cX11_merges 64 = .ok (.getfield 176, 3) := by decide +kernel
theorem dX11_merges_67 : decode cX11_merges 67 = .ok (.istore_n 1, 1) := by decide +kernel
theorem dX11_merges_68 : decode cX11_merges 68 = .ok (.iload_n 1, 1) := by decide +kernel
theorem dX11_merges_69 : decode cX11_merges 69 = .ok (.aload_n 0, 1) := by decide +kernel
theorem dX11_merges_70 : decode cX11_merges 70 = .ok (.getfield 88, 3) := by decide +kernel
theorem dX11_merges_73 : decode cX11_merges 73 = .ok (.if_icmp .ge 63, 3) := by decide +kernel
theorem dX11_merges_76 : decode cX11_merges 76 = .ok (.aload_n 0, 1) := by decide +kernel
theorem dX11_merges_77 : decode cX11_merges 77 = .ok (.aload_n 0, 1) := by decide +kernel
theorem dX11_merges_78 : decode cX11_merges 78 = .ok (.getfield 111, 3) := by decide +kernel
theorem dX11_merges_81 : decode cX11_merges 81 = .ok (.aload_n 0, 1) := by decide +kernel
theorem dX11_merges_82 : decode cX11_merges 82 = .ok (.getfield 98, 3) := by decide +kernel
theorem dX11_merges_85 : decode cX11_merges 85 = .ok (.iload_n 1, 1) := by decide +kernel
theorem dX11_merges_86 : decode cX11_merges 86 = .ok (.aload_n 0, 1) := by decide +kernel
theorem dX11_merges_87 : decode cX11_merges 87 = .ok (.getfield 47, 3) := by decide +kernel
theorem dX11_merges_90 : decode cX11_merges 90 = .ok (.ifCond .ne 12, 3) := by decide +kernel
theorem dX11_merges_93 : decode cX11_merges 93 = .ok (.aload_n 0, 1) := by decide +kernel
theorem dX11_merges_94 : decode cX11_merges 94 = .ok (.iconst 0, 1) := by decide +kernel
theorem dX11_merges_95 : decode cX11_merges 95 = .ok (.iload_n 1, 1) := by decide +kernel
theorem dX11_merges_96 : decode cX11_merges 96 = .ok (.invokevirtual 51, 3) := by decide +kernel
theorem dX11_merges_99 : decode cX11_merges 99 = .ok (.ifCond .eq 15, 3) := by decide +kernel
theorem dX11_merges_102 : decode cX11_merges 102 = .ok (.aload_n 0, 1) := by decide +kernel
theorem dX11_merges_103 : decode cX11_merges 103 = .ok (.aload_n 0, 1) := by decide +kernel
theorem dX11_merges_104 : decode cX11_merges 104 = .ok (.getfield 98, 3) := by decide +kernel
theorem dX11_merges_107 : decode cX11_merges 107 = .ok (.iload_n 1, 1) := by decide +kernel
theorem dX11_merges_108 : decode cX11_merges 108 = .ok (.invokevirtual 254, 3) := by decide +kernel
theorem dX11_merges_111 : decode cX11_merges 111 = .ok (.goto 16, 3) := by decide +kernel
theorem dX11_merges_114 : decode cX11_merges 114 = .ok (.aload_n 0, 1) := by decide +kernel
theorem dX11_merges_115 : decode cX11_merges 115 = .ok (.aload_n 0, 1) := by decide +kernel
theorem dX11_merges_116 : decode cX11_merges 116 = .ok (.getfield 147, 3) := by decide +kernel
theorem dX11_merges_119 : decode cX11_merges 119 = .ok (.aload_n 0, 1) := by decide +kernel
theorem dX11_merges_120 : decode cX11_merges 120 = .ok (.getfield 98, 3) := by decide +kernel
theorem dX11_merges_123 : decode cX11_merges 123 = .ok (.iload_n 1, 1) := by decide +kernel
theorem dX11_merges_124 : decode cX11_merges 124 = .ok (.invokevirtual 133, 3) := by decide +kernel
theorem dX11_merges_127 : decode cX11_merges 127 = .ok (.invokevirtual 69, 3) := by decide +kernel
theorem dX11_merges_130 : decode cX11_merges 130 = .ok (.iinc 1 1, 3) := by decide +kernel
theorem dX11_merges_133 : decode cX11_merges 133 = .ok (.goto (-65), 3) := by decide +kernel
theorem dX11_merges_136 : decode cX11_merges 136 = .ok (.aload_n 0, 1) := by decide +kernel
theorem dX11_merges_137 : decode cX11_merges 137 = .ok (.aload_n 0, 1) := by decide +kernel
theorem dX11_merges_138 : decode cX11_merges 138 = .ok (.getfield 111, 3) := by decide +kernel
theorem dX11_merges_141 : decode cX11_merges 141 = .ok (.aload_n 0, 1) := by decide +kernel
theorem dX11_merges_142 : decode cX11_merges 142 = .ok (.getfield 98, 3) := by decide +kernel
theorem dX11_merges_145 : decode cX11_merges 145 = .ok (.aload_n 0, 1) := by decide +kernel
theorem dX11_merges_146 : decode cX11_merges 146 = .ok (.getfield 95, 3) := by decide +kernel
theorem dX11_merges_149 : decode cX11_merges 149 = .ok (.aload_n 0, 1) := by decide +kernel
theorem dX11_merges_150 : decode cX11_merges 150 = .ok (.getfield 88, 3) := by decide +kernel
theorem dX11_merges_153 : decode cX11_merges 153 = .ok (.invokevirtual 261, 3) := by decide +kernel
theorem dX11_merges_156 : decode cX11_merges 156 = .ok (.iconst 1, 1) := by decide +kernel
theorem dX11_merges_157 : decode cX11_merges 157 = .ok (.ireturn, 1) := by decide +kernel
theorem dX11_narrows_0 : decode cX11_narrows 0 = .ok (.aload_n 0, 1) := by decide +kernel
theorem dX11_narrows_1 : decode cX11_narrows 1 = .ok (.aload_n 0, 1) := by decide +kernel
theorem dX11_narrows_2 : decode cX11_narrows 2 = .ok (.getfield 98, 3) := by decide +kernel
theorem dX11_narrows_5 : decode cX11_narrows 5 = .ok (.aload_n 0, 1) := by decide +kernel
theorem dX11_narrows_6 : decode cX11_narrows 6 = .ok (.getfield 147, 3) := by decide +kernel
theorem dX11_narrows_9 : decode cX11_narrows 9 = .ok (.iconst 2, 1) := by decide +kernel
theorem dX11_narrows_10 : decode cX11_narrows 10 = .ok (.aload_n 0, 1) := by decide +kernel
theorem dX11_narrows_11 : decode cX11_narrows 11 = .ok (.getfield 98, 3) := by decide +kernel
theorem dX11_narrows_14 : decode cX11_narrows 14 = .ok (.imul, 1) := by decide +kernel
theorem dX11_narrows_15 : decode cX11_narrows 15 = .ok (.aload_n 0, 1) := by decide +kernel
theorem dX11_narrows_16 : decode cX11_narrows 16 = .ok (.invokevirtual 234, 3) := by decide +kernel
theorem dX11_narrows_19 : decode cX11_narrows 19 = .ok (.aload_n 0, 1) := by decide +kernel
theorem dX11_narrows_20 : decode cX11_narrows 20 = .ok (.getfield 98, 3) := by decide +kernel
theorem dX11_narrows_23 : decode cX11_narrows 23 = .ok (.invokevirtual 237, 3) := by decide +kernel
theorem dX11_narrows_26 : decode cX11_narrows 26 = .ok (.ifCond .ne 5, 3) := by decide +kernel
theorem dX11_narrows_29 : decode cX11_narrows 29 = .ok (.iconst 0, 1) := by decide +kernel
theorem dX11_narrows_30 : decode cX11_narrows 30 = .ok (.ireturn, 1) := by decide +kernel
theorem dX11_narrows_31 : decode cX11_narrows 31 = .ok (.aload_n 0, 1) := by decide +kernel
theorem dX11_narrows_32 : decode cX11_narrows 32 = .ok (.invokevirtual 241, 3) := by decide +kernel
theorem dX11_narrows_35 : decode cX11_narrows 35 = .ok (.ifCond .ne 5, 3) := by decide +kernel
theorem dX11_narrows_38 : decode cX11_narrows 38 = .ok (.iconst 1, 1) := by decide +kernel
theorem dX11_narrows_39 : decode cX11_narrows 39 = .ok (.ireturn, 1) := by decide +kernel
theorem dX11_narrows_40 : decode cX11_narrows 40 = .ok (.aload_n 0, 1) := by decide +kernel
theorem dX11_narrows_41 : decode cX11_narrows 41 = .ok (.getfield 176, 3) := by decide +kernel
theorem dX11_narrows_44 : decode cX11_narrows 44 = .ok (.istore_n 3, 1) := by decide +kernel
theorem dX11_narrows_45 : decode cX11_narrows 45 = .ok (.iload_n 3, 1) := by decide +kernel
theorem dX11_narrows_46 : decode cX11_narrows 46 = .ok (.aload_n 0, 1) := by decide +kernel
theorem dX11_narrows_47 : decode cX11_narrows 47 = .ok (.getfield 88, 3) := by decide +kernel
theorem dX11_narrows_50 : decode cX11_narrows 50 = .ok (.if_icmp .ge 174, 3) := by decide +kernel
theorem dX11_narrows_53 : decode cX11_narrows 53 = .ok (.aload_n 0, 1) := by decide +kernel
theorem dX11_narrows_54 : decode cX11_narrows 54 = .ok (.iload_n 3, 1) := by decide +kernel
theorem dX11_narrows_55 : decode cX11_narrows 55 = .ok (.invokevirtual 244, 3) := by decide +kernel
theorem dX11_narrows_58 : decode cX11_narrows 58 = .ok (.ifCond .ne 19, 3) := by decide +kernel
theorem dX11_narrows_61 : decode cX11_narrows 61 = .ok (.aload_n 0, 1) := by decide +kernel
theorem dX11_narrows_62 : decode cX11_narrows 62 = .ok (.aload_n 0, 1) := by decide +kernel
theorem dX11_narrows_63 : decode cX11_narrows 63 = .ok (.getfield 111, 3) := by decide +kernel
theorem dX11_narrows_66 : decode cX11_narrows 66 = .ok (.aload_n 0, 1) := by decide +kernel
theorem dX11_narrows_67 : decode cX11_narrows 67 = .ok (.getfield 98, 3) := by decide +kernel
theorem dX11_narrows_70 : decode cX11_narrows 70 = .ok (.iload_n 3, 1) := by decide +kernel
theorem dX11_narrows_71 : decode cX11_narrows 71 = .ok (.invokevirtual 247, 3) := by decide +kernel
theorem dX11_narrows_74 : decode cX11_narrows 74 = .ok (.goto 144, 3) := by decide +kernel
theorem dX11_narrows_77 : decode cX11_narrows 77 = .ok (.aload_n 0, 1) := by decide +kernel
theorem dX11_narrows_78 : decode cX11_narrows 78 = .ok (.aload_n 0, 1) := by decide +kernel
theorem dX11_narrows_79 : decode cX11_narrows 79 = .ok (.getfield 147, 3) := by decide +kernel
theorem dX11_narrows_82 : decode cX11_narrows 82 = .ok (.iconst 2, 1) := by decide +kernel
theorem dX11_narrows_83 : decode cX11_narrows 83 = .ok (.aload_n 0, 1) := by decide +kernel
theorem dX11_narrows_84 : decode cX11_narrows 84 = .ok (.getfield 98, 3) := by decide +kernel
theorem dX11_narrows_87 : decode cX11_narrows 87 = .ok (.imul, 1) := by decide +kernel
theorem dX11_narrows_88 : decode cX11_narrows 88 = .ok (.iload_n 3, 1) := by decide +kernel
theorem dX11_narrows_89 : decode cX11_narrows 89 = .ok (.invokevirtual 133, 3) := by decide +kernel
theorem dX11_narrows_92 : decode cX11_narrows 92 = .ok (.lstore 4, 2) := by decide +kernel
theorem dX11_narrows_94 : decode cX11_narrows 94 = .ok (.iload_n 1, 1) := by decide +kernel
theorem dX11_narrows_95 : decode cX11_narrows 95 = .ok (.ifCond .eq 16, 3) := by decide +kernel
theorem dX11_narrows_98 : decode cX11_narrows 98 = .ok (.lload 4, 2) := by decide +kernel
theorem dX11_narrows_100 : decode cX11_narrows 100 = .ok (.iconst 2, 1) := by decide +kernel
theorem dX11_narrows_101 : decode cX11_narrows 101 = .ok (.aload_n 0, 1) := by decide +kernel
theorem dX11_narrows_102 : decode cX11_narrows 102 = .ok (.getfield 98, 3) := by decide +kernel
theorem dX11_narrows_105 : decode cX11_narrows 105 = .ok (.imul, 1) := by decide +kernel
theorem dX11_narrows_106 : decode cX11_narrows 106 = .ok (.invokestatic 206, 3) := by decide +kernel
theorem dX11_narrows_109 : decode cX11_narrows 109 = .ok (.lstore 4, 2) := by decide +kernel
theorem dX11_narrows_111 : decode cX11_narrows 111 = .ok (.aload_n 0, 1) := by decide +kernel
theorem dX11_narrows_112 : decode cX11_narrows 112 = .ok (.aload_n 0, 1) := by decide +kernel
theorem dX11_narrows_113 : decode cX11_narrows 113 = .ok (.getfield 98, 3) := by decide +kernel
theorem dX11_narrows_116 : decode cX11_narrows 116 = .ok (.iconst 2, 1) := by decide +kernel
theorem dX11_narrows_117 : decode cX11_narrows 117 = .ok (.aload_n 0, 1) := by decide +kernel
theorem dX11_narrows_118 : decode cX11_narrows 118 = .ok (.getfield 98, 3) := by decide +kernel
theorem dX11_narrows_121 : decode cX11_narrows 121 = .ok (.imul, 1) := by decide +kernel
theorem dX11_narrows_122 : decode cX11_narrows 122 = .ok (.iload_n 3, 1) := by decide +kernel
theorem dX11_narrows_123 : decode cX11_narrows 123 = .ok (.invokevirtual 250, 3) := by decide +kernel
theorem dX11_narrows_126 : decode cX11_narrows 126 = .ok (.istore 6, 2) := by decide +kernel
theorem dX11_narrows_128 : decode cX11_narrows 128 = .ok (.iload_n 2, 1) := by decide +kernel
theorem dX11_narrows_129 : decode cX11_narrows 129 = .ok (.ifCond .eq 17, 3) := by decide +kernel
theorem dX11_narrows_132 : decode cX11_narrows 132 = .ok (.lload 4, 2) := by decide +kernel
theorem dX11_narrows_134 : decode cX11_narrows 134 = .ok (.iload 6, 2) := by decide +kernel
theorem dX11_narrows_136 : decode cX11_narrows 136 = .ok (.aload_n 0, 1) := by decide +kernel
theorem dX11_narrows_137 : decode cX11_narrows 137 = .ok (.getfield 224, 3) := by decide +kernel
theorem dX11_narrows_140 : decode cX11_narrows 140 = .ok (.invokestatic 227, 3) := by decide +kernel
theorem dX11_narrows_143 : decode cX11_narrows 143 = .ok (.goto 8, 3) := by decide +kernel
theorem dX11_narrows_146 : decode cX11_narrows 146 = .ok (.lload 4, 2) := by decide +kernel
theorem dX11_narrows_148 : decode cX11_narrows 148 = .ok (.iload 6, 2) := by decide +kernel
theorem dX11_narrows_150 : decode cX11_narrows 150 = .ok (.lshr, 1) := by decide +kernel
theorem dX11_narrows_151 : decode cX11_narrows 151 = .ok (.lstore 7, 2) := by decide +kernel
theorem dX11_narrows_153 : decode cX11_narrows 153 = .ok (.iload_n 2, 1) := by decide +kernel
theorem dX11_narrows_154 : decode cX11_narrows 154 = .ok (.ifCond .eq 49, 3) := by decide +kernel
theorem dX11_narrows_157 : decode cX11_narrows 157 = .ok (.iload_n 1, 1) := by decide +kernel
theorem dX11_narrows_158 : decode cX11_narrows 158 = .ok (.ifCond .eq 29, 3) := by decide +kernel
theorem dX11_narrows_161 : decode cX11_narrows 161 = .ok (.aload_n 0, 1) := by decide +kernel
theorem dX11_narrows_162 : decode cX11_narrows 162 = .ok (.lload 7, 2) := by decide +kernel
theorem dX11_narrows_164 : decode cX11_narrows 164 = .ok (.aload_n 0, 1) := by decide +kernel
theorem dX11_narrows_165 : decode cX11_narrows 165 = .ok (.aload_n 0, 1) := by decide +kernel
theorem dX11_narrows_166 : decode cX11_narrows 166 = .ok (.getfield 98, 3) := by decide +kernel
theorem dX11_narrows_169 : decode cX11_narrows 169 = .ok (.invokevirtual 221, 3) := by decide +kernel
theorem dX11_narrows_172 : decode cX11_narrows 172 = .ok (.aload_n 0, 1) := by decide +kernel
theorem dX11_narrows_173 : decode cX11_narrows 173 = .ok (.getfield 98, 3) := by decide +kernel
theorem dX11_narrows_176 : decode cX11_narrows 176 = .ok (.invokestatic 65, 3) := by decide +kernel
theorem dX11_narrows_179 : decode cX11_narrows 179 = .ok (.iconst 1, 1) := by decide +kernel
theorem dX11_narrows_180 : decode cX11_narrows 180 = .ok (.lshr, 1) := by decide +kernel
theorem dX11_narrows_181 : decode cX11_narrows 181 = .ok (.invokevirtual 217, 3) := by decide +kernel
theorem dX11_narrows_184 : decode cX11_narrows 184 = .ok (.goto 17, 3) := by decide +kernel
theorem dX11_narrows_187 : decode cX11_narrows 187 = .ok (.aload_n 0, 1) := by decide +kernel
theorem dX11_narrows_188 : decode cX11_narrows 188 = .ok (.lload 7, 2) := by decide +kernel
theorem dX11_narrows_190 : decode cX11_narrows 190 = .ok (.lconst 0, 1) := by decide +kernel
theorem dX11_narrows_191 : decode cX11_narrows 191 = .ok (.aload_n 0, 1) := by decide +kernel
theorem dX11_narrows_192 : decode cX11_narrows 192 = .ok (.getfield 98, 3) := by decide +kernel
theorem dX11_narrows_195 : decode cX11_narrows 195 = .ok (.invokestatic 65, 3) := by decide +kernel
theorem dX11_narrows_198 : decode cX11_narrows 198 = .ok (.invokevirtual 217, 3) := by decide +kernel
theorem dX11_narrows_201 : decode cX11_narrows 201 = .ok (.lstore 7, 2) := by decide +kernel
theorem dX11_narrows_203 : decode cX11_narrows 203 = .ok (.aload_n 0, 1) := by decide +kernel
theorem dX11_narrows_204 : decode cX11_narrows 204 = .ok (.aload_n 0, 1) := by decide +kernel
theorem dX11_narrows_205 : decode cX11_narrows 205 = .ok (.getfield 111, 3) := by decide +kernel
theorem dX11_narrows_208 : decode cX11_narrows 208 = .ok (.aload_n 0, 1) := by decide +kernel
theorem dX11_narrows_209 : decode cX11_narrows 209 = .ok (.getfield 98, 3) := by decide +kernel
theorem dX11_narrows_212 : decode cX11_narrows 212 = .ok (.iload_n 3, 1) := by decide +kernel
theorem dX11_narrows_213 : decode cX11_narrows 213 = .ok (.lload 7, 2) := by decide +kernel
theorem dX11_narrows_215 : decode cX11_narrows 215 = .ok (.invokevirtual 69, 3) := by decide +kernel
theorem dX11_narrows_218 : decode cX11_narrows 218 = .ok (.iinc 3 1, 3) := by decide +kernel
theorem dX11_narrows_221 : decode cX11_narrows 221 = .ok (.goto (-176), 3) := by decide +kernel
theorem dX11_narrows_224 : decode cX11_narrows 224 = .ok (.aload_n 0, 1) := by decide +kernel
theorem dX11_narrows_225 : decode cX11_narrows 225 = .ok (.aload_n 0, 1) := by decide +kernel
theorem dX11_narrows_226 : decode cX11_narrows 226 = .ok (.getfield 111, 3) := by decide +kernel
theorem dX11_narrows_229 : decode cX11_narrows 229 = .ok (.aload_n 0, 1) := by decide +kernel
theorem dX11_narrows_230 : decode cX11_narrows 230 = .ok (.getfield 98, 3) := by decide +kernel
theorem dX11_narrows_233 : decode cX11_narrows 233 = .ok (.aload_n 0, 1) := by decide +kernel
theorem dX11_narrows_234 : decode cX11_narrows 234 = .ok (.getfield 95, 3) := by decide +kernel
theorem dX11_narrows_237 : decode cX11_narrows 237 = .ok (.aload_n 0, 1) := by decide +kernel
theorem dX11_narrows_238 : decode cX11_narrows 238 = .ok (.getfield 88, 3) := by decide +kernel
theorem dX11_narrows_241 : decode cX11_narrows 241 = .ok (.invokevirtual 261, 3) := by decide +kernel
theorem dX11_narrows_244 : decode cX11_narrows 244 = .ok (.iconst 1, 1) := by decide +kernel
theorem dX11_narrows_245 : decode cX11_narrows 245 = .ok (.ireturn, 1) := by decide +kernel
theorem dX11_integers_0 : decode cX11_integers 0 = .ok (.aload_n 0, 1) := by decide +kernel
theorem dX11_integers_1 : decode cX11_integers 1 = .ok (.invokevirtual 272, 3) := by decide +kernel
theorem dX11_integers_4 : decode cX11_integers 4 = .ok (.istore_n 1, 1) := by decide +kernel
theorem dX11_integers_5 : decode cX11_integers 5 = .ok (.aload_n 0, 1) := by decide +kernel
theorem dX11_integers_6 : decode cX11_integers 6 = .ok (.invokevirtual 127, 3) := by decide +kernel
theorem dX11_integers_9 : decode cX11_integers 9 = .ok (.istore_n 2, 1) := by decide +kernel
theorem dX11_integers_10 : decode cX11_integers 10 = .ok (.aload_n 0, 1) := by decide +kernel
theorem dX11_integers_11 : decode cX11_integers 11 = .ok (.getfield 150, 3) := by decide +kernel
theorem dX11_integers_14 : decode cX11_integers 14 = .ok (.tableswitch 722 0 49 #[214, 722, 220, 238, 256, 275, 294, 313, 722, 332, 338, 344, 350, 722, 359, 377, 394, 401, 408, 427, 722, 722, 722, 446, 451, 457, 463, 481, 499, 505, 511, 530, 549, 556, 563, 582, 722, 601, 722, 608, 626, 633, 640, 647, 654, 661, 668, 675, 682, 702], 214) := by decide +kernel
theorem dX11_integers_228 : decode cX11_integers 228 = .ok (.aload_n 0, 1) := by decide +kernel
theorem dX11_integers_229 : decode cX11_integers 229 = .ok (.iconst 0, 1) := by decide +kernel
theorem dX11_integers_230 : decode cX11_integers 230 = .ok (.invokevirtual 275, 3) := by decide +kernel
theorem dX11_integers_233 : decode cX11_integers 233 = .ok (.ireturn, 1) := by decide +kernel
theorem dX11_integers_234 : decode cX11_integers 234 = .ok (.iload_n 1, 1) := by decide +kernel
theorem dX11_integers_235 : decode cX11_integers 235 = .ok (.ifCond .ne 15, 3) := by decide +kernel
theorem dX11_integers_238 : decode cX11_integers 238 = .ok (.aload_n 0, 1) := by decide +kernel
theorem dX11_integers_239 : decode cX11_integers 239 = .ok (.iconst 1, 1) := by decide +kernel
theorem dX11_integers_240 : decode cX11_integers 240 = .ok (.invokevirtual 275, 3) := by decide +kernel
theorem dX11_integers_243 : decode cX11_integers 243 = .ok (.ifCond .eq 7, 3) := by decide +kernel
theorem dX11_integers_246 : decode cX11_integers 246 = .ok (.iconst 1, 1) := by decide +kernel
theorem dX11_integers_247 : decode cX11_integers 247 = .ok (.goto 4, 3) := by decide +kernel
theorem dX11_integers_250 : decode cX11_integers 250 = .ok (.iconst 0, 1) := by decide +kernel
theorem dX11_integers_251 : decode cX11_integers 251 = .ok (.ireturn, 1) := by decide +kernel
theorem dX11_integers_252 : decode cX11_integers 252 = .ok (.iload_n 2, 1) := by decide +kernel
theorem dX11_integers_253 : decode cX11_integers 253 = .ok (.ifCond .ne 15, 3) := by decide +kernel
theorem dX11_integers_256 : decode cX11_integers 256 = .ok (.aload_n 0, 1) := by decide +kernel
theorem dX11_integers_257 : decode cX11_integers 257 = .ok (.iconst 2, 1) := by decide +kernel
theorem dX11_integers_258 : decode cX11_integers 258 = .ok (.invokevirtual 275, 3) := by decide +kernel
theorem dX11_integers_261 : decode cX11_integers 261 = .ok (.ifCond .eq 7, 3) := by decide +kernel
theorem dX11_integers_264 : decode cX11_integers 264 = .ok (.iconst 1, 1) := by decide +kernel
theorem dX11_integers_265 : decode cX11_integers 265 = .ok (.goto 4, 3) := by decide +kernel
theorem dX11_integers_268 : decode cX11_integers 268 = .ok (.iconst 0, 1) := by decide +kernel
theorem dX11_integers_269 : decode cX11_integers 269 = .ok (.ireturn, 1) := by decide +kernel
theorem dX11_integers_270 : decode cX11_integers 270 = .ok (.iload_n 1, 1) := by decide +kernel
theorem dX11_integers_271 : decode cX11_integers 271 = .ok (.ifCond .ne 16, 3) := by decide +kernel
theorem dX11_integers_274 : decode cX11_integers 274 = .ok (.aload_n 0, 1) := by decide +kernel
theorem dX11_integers_275 : decode cX11_integers 275 = .ok (.bipush 6, 2) := by decide +kernel
theorem dX11_integers_277 : decode cX11_integers 277 = .ok (.invokevirtual 275, 3) := by decide +kernel
theorem dX11_integers_280 : decode cX11_integers 280 = .ok (.ifCond .eq 7, 3) := by decide +kernel
theorem dX11_integers_283 : decode cX11_integers 283 = .ok (.iconst 1, 1) := by decide +kernel
theorem dX11_integers_284 : decode cX11_integers 284 = .ok (.goto 4, 3) := by decide +kernel
theorem dX11_integers_287 : decode cX11_integers 287 = .ok (.iconst 0, 1) := by decide +kernel
theorem dX11_integers_288 : decode cX11_integers 288 = .ok (.ireturn, 1) := by decide +kernel
theorem dX11_integers_289 : decode cX11_integers 289 = .ok (.iload_n 1, 1) := by decide +kernel
theorem dX11_integers_290 : decode cX11_integers 290 = .ok (.ifCond .ne 16, 3) := by decide +kernel
theorem dX11_integers_293 : decode cX11_integers 293 = .ok (.aload_n 0, 1) := by decide +kernel
theorem dX11_integers_294 : decode cX11_integers 294 = .ok (.bipush 7, 2) := by decide +kernel
theorem dX11_integers_296 : decode cX11_integers 296 = .ok (.invokevirtual 275, 3) := by decide +kernel
theorem dX11_integers_299 : decode cX11_integers 299 = .ok (.ifCond .eq 7, 3) := by decide +kernel
theorem dX11_integers_302 : decode cX11_integers 302 = .ok (.iconst 1, 1) := by decide +kernel
theorem dX11_integers_303 : decode cX11_integers 303 = .ok (.goto 4, 3) := by decide +kernel
theorem dX11_integers_306 : decode cX11_integers 306 = .ok (.iconst 0, 1) := by decide +kernel
theorem dX11_integers_307 : decode cX11_integers 307 = .ok (.ireturn, 1) := by decide +kernel
theorem dX11_integers_308 : decode cX11_integers 308 = .ok (.iload_n 1, 1) := by decide +kernel
theorem dX11_integers_309 : decode cX11_integers 309 = .ok (.ifCond .ne 16, 3) := by decide +kernel
theorem dX11_integers_312 : decode cX11_integers 312 = .ok (.aload_n 0, 1) := by decide +kernel
theorem dX11_integers_313 : decode cX11_integers 313 = .ok (.bipush 8, 2) := by decide +kernel
theorem dX11_integers_315 : decode cX11_integers 315 = .ok (.invokevirtual 275, 3) := by decide +kernel
theorem dX11_integers_318 : decode cX11_integers 318 = .ok (.ifCond .eq 7, 3) := by decide +kernel
theorem dX11_integers_321 : decode cX11_integers 321 = .ok (.iconst 1, 1) := by decide +kernel
theorem dX11_integers_322 : decode cX11_integers 322 = .ok (.goto 4, 3) := by decide +kernel
theorem dX11_integers_325 : decode cX11_integers 325 = .ok (.iconst 0, 1) := by decide +kernel
theorem dX11_integers_326 : decode cX11_integers 326 = .ok (.ireturn, 1) := by decide +kernel
theorem dX11_integers_327 : decode cX11_integers 327 = .ok (.iload_n 1, 1) := by decide +kernel
theorem dX11_integers_328 : decode cX11_integers 328 = .ok (.ifCond .ne 16, 3) := by decide +kernel
theorem dX11_integers_331 : decode cX11_integers 331 = .ok (.aload_n 0, 1) := by decide +kernel
theorem dX11_integers_332 : decode cX11_integers 332 = .ok (.bipush 9, 2) := by decide +kernel
theorem dX11_integers_334 : decode cX11_integers 334 = .ok (.invokevirtual 275, 3) := by decide +kernel
theorem dX11_integers_337 : decode cX11_integers 337 = .ok (.ifCond .eq 7, 3) := by decide +kernel
theorem dX11_integers_340 : decode cX11_integers 340 = .ok (.iconst 1, 1) := by decide +kernel
theorem dX11_integers_341 : decode cX11_integers 341 = .ok (.goto 4, 3) := by decide +kernel
theorem dX11_integers_344 : decode cX11_integers 344 = .ok (.iconst 0, 1) := by decide +kernel
theorem dX11_integers_345 : decode cX11_integers 345 = .ok (.ireturn, 1) := by decide +kernel
theorem dX11_integers_346 : decode cX11_integers 346 = .ok (.aload_n 0, 1) := by decide +kernel
theorem dX11_integers_347 : decode cX11_integers 347 = .ok (.iconst 3, 1) := by decide +kernel
theorem dX11_integers_348 : decode cX11_integers 348 = .ok (.invokevirtual 275, 3) := by decide +kernel
theorem dX11_integers_351 : decode cX11_integers 351 = .ok (.ireturn, 1) := by decide +kernel
theorem dX11_integers_352 : decode cX11_integers 352 = .ok (.aload_n 0, 1) := by decide +kernel
theorem dX11_integers_353 : decode cX11_integers 353 = .ok (.iconst 4, 1) := by decide +kernel
theorem dX11_integers_354 : decode cX11_integers 354 = .ok (.invokevirtual 275, 3) := by decide +kernel
theorem dX11_integers_357 : decode cX11_integers 357 = .ok (.ireturn, 1) := by decide +kernel
theorem dX11_integers_358 : decode cX11_integers 358 = .ok (.aload_n 0, 1) := by decide +kernel
theorem dX11_integers_359 : decode cX11_integers 359 = .ok (.iconst 5, 1) := by decide +kernel
theorem dX11_integers_360 : decode cX11_integers 360 = .ok (.invokevirtual 275, 3) := by decide +kernel
theorem dX11_integers_363 : decode cX11_integers 363 = .ok (.ireturn, 1) := by decide +kernel
theorem dX11_integers_364 : decode cX11_integers 364 = .ok (.aload_n 0, 1) := by decide +kernel
theorem dX11_integers_365 : decode cX11_integers 365 = .ok (.aload_n 0, 1) := by decide +kernel
theorem dX11_integers_366 : decode cX11_integers 366 = .ok (.getfield 98, 3) := by decide +kernel
theorem dX11_integers_369 : decode cX11_integers 369 = .ok (.invokevirtual 278, 3) := by decide +kernel
theorem dX11_integers_372 : decode cX11_integers 372 = .ok (.ireturn, 1) := by decide +kernel
theorem dX11_integers_373 : decode cX11_integers 373 = .ok (.iload_n 2, 1) := by decide +kernel
theorem dX11_integers_374 : decode cX11_integers 374 = .ok (.ifCond .eq 12, 3) := by decide +kernel
theorem dX11_integers_377 : decode cX11_integers 377 = .ok (.aload_n 0, 1) := by decide +kernel
theorem dX11_integers_378 : decode cX11_integers 378 = .ok (.bipush 16, 2) := by decide +kernel
theorem dX11_integers_380 : decode cX11_integers 380 = .ok (.invokevirtual 278, 3) := by decide +kernel
theorem dX11_integers_383 : decode cX11_integers 383 = .ok (.goto 7, 3) := by decide +kernel
theorem dX11_integers_386 : decode cX11_integers 386 = .ok (.aload_n 0, 1) := by decide +kernel
theorem dX11_integers_387 : decode cX11_integers 387 = .ok (.invokevirtual 281, 3) := by decide +kernel
theorem dX11_integers_390 : decode cX11_integers 390 = .ok (.ireturn, 1) := by decide +kernel
theorem dX11_integers_391 : decode cX11_integers 391 = .ok (.iload_n 2, 1) := by decide +kernel
theorem dX11_integers_392 : decode cX11_integers 392 = .ok (.ifCond .ne 14, 3) := by decide +kernel
theorem dX11_integers_395 : decode cX11_integers 395 = .ok (.aload_n 0, 1) := by decide +kernel
theorem dX11_integers_396 : decode cX11_integers 396 = .ok (.invokevirtual 284, 3) := by decide +kernel
theorem dX11_integers_399 : decode cX11_integers 399 = .ok (.ifCond .eq 7, 3) := by decide +kernel
theorem dX11_integers_402 : decode cX11_integers 402 = .ok (.iconst 1, 1) := by decide +kernel
theorem dX11_integers_403 : decode cX11_integers 403 = .ok (.goto 4, 3) := by decide +kernel
theorem dX11_integers_406 : decode cX11_integers 406 = .ok (.iconst 0, 1) := by decide +kernel
theorem dX11_integers_407 : decode cX11_integers 407 = .ok (.ireturn, 1) := by decide +kernel
theorem dX11_integers_408 : decode cX11_integers 408 = .ok (.aload_n 0, 1) := by decide +kernel
theorem dX11_integers_409 : decode cX11_integers 409 = .ok (.iconst 0, 1) := by decide +kernel
theorem dX11_integers_410 : decode cX11_integers 410 = .ok (.iconst 0, 1) := by decide +kernel
theorem dX11_integers_411 : decode cX11_integers 411 = .ok (.invokevirtual 287, 3) := by decide +kernel
theorem dX11_integers_414 : decode cX11_integers 414 = .ok (.ireturn, 1) := by decide +kernel
theorem dX11_integers_415 : decode cX11_integers 415 = .ok (.aload_n 0, 1) := by decide +kernel
theorem dX11_integers_416 : decode cX11_integers 416 = .ok (.iconst 0, 1) := by decide +kernel
theorem dX11_integers_417 : decode cX11_integers 417 = .ok (.iconst 1, 1) := by decide +kernel
theorem dX11_integers_418 : decode cX11_integers 418 = .ok (.invokevirtual 287, 3) := by decide +kernel
theorem dX11_integers_421 : decode cX11_integers 421 = .ok (.ireturn, 1) := by decide +kernel
theorem dX11_integers_422 : decode cX11_integers 422 = .ok (.iload_n 1, 1) := by decide +kernel
theorem dX11_integers_423 : decode cX11_integers 423 = .ok (.ifCond .ne 16, 3) := by decide +kernel
theorem dX11_integers_426 : decode cX11_integers 426 = .ok (.aload_n 0, 1) := by decide +kernel
theorem dX11_integers_427 : decode cX11_integers 427 = .ok (.iconst 1, 1) := by decide +kernel
theorem dX11_integers_428 : decode cX11_integers 428 = .ok (.iconst 0, 1) := by decide +kernel
theorem dX11_integers_429 : decode cX11_integers 429 = .ok (.invokevirtual 287, 3) := by decide +kernel
theorem dX11_integers_432 : decode cX11_integers 432 = .ok (.ifCond .eq 7, 3) := by decide +kernel
theorem dX11_integers_435 : decode cX11_integers 435 = .ok (.iconst 1, 1) := by decide +kernel
theorem dX11_integers_436 : decode cX11_integers 436 = .ok (.goto 4, 3) := by decide +kernel
theorem dX11_integers_439 : decode cX11_integers 439 = .ok (.iconst 0, 1) := by decide +kernel
theorem dX11_integers_440 : decode cX11_integers 440 = .ok (.ireturn, 1) := by decide +kernel
theorem dX11_integers_441 : decode cX11_integers 441 = .ok (.iload_n 1, 1) := by decide +kernel
theorem dX11_integers_442 : decode cX11_integers 442 = .ok (.ifCond .ne 16, 3) := by decide +kernel
theorem dX11_integers_445 : decode cX11_integers 445 = .ok (.aload_n 0, 1) := by decide +kernel
theorem dX11_integers_446 : decode cX11_integers 446 = .ok (.iconst 1, 1) := by decide +kernel
theorem dX11_integers_447 : decode cX11_integers 447 = .ok (.iconst 1, 1) := by decide +kernel
theorem dX11_integers_448 : decode cX11_integers 448 = .ok (.invokevirtual 287, 3) := by decide +kernel
theorem dX11_integers_451 : decode cX11_integers 451 = .ok (.ifCond .eq 7, 3) := by decide +kernel
theorem dX11_integers_454 : decode cX11_integers 454 = .ok (.iconst 1, 1) := by decide +kernel
theorem dX11_integers_455 : decode cX11_integers 455 = .ok (.goto 4, 3) := by decide +kernel
theorem dX11_integers_458 : decode cX11_integers 458 = .ok (.iconst 0, 1) := by decide +kernel
theorem dX11_integers_459 : decode cX11_integers 459 = .ok (.ireturn, 1) := by decide +kernel
theorem dX11_integers_460 : decode cX11_integers 460 = .ok (.aload_n 0, 1) := by decide +kernel
theorem dX11_integers_461 : decode cX11_integers 461 = .ok (.invokevirtual 291, 3) := by decide +kernel
theorem dX11_integers_464 : decode cX11_integers 464 = .ok (.ireturn, 1) := by decide +kernel
theorem dX11_integers_465 : decode cX11_integers 465 = .ok (.aload_n 0, 1) := by decide +kernel
theorem dX11_integers_466 : decode cX11_integers 466 = .ok (.iconst 0, 1) := by decide +kernel
theorem dX11_integers_467 : decode cX11_integers 467 = .ok (.invokevirtual 294, 3) := by decide +kernel
theorem dX11_integers_470 : decode cX11_integers 470 = .ok (.ireturn, 1) := by decide +kernel
theorem dX11_integers_471 : decode cX11_integers 471 = .ok (.aload_n 0, 1) := by decide +kernel
theorem dX11_integers_472 : decode cX11_integers 472 = .ok (.iconst 1, 1) := by decide +kernel
theorem dX11_integers_473 : decode cX11_integers 473 = .ok (.invokevirtual 294, 3) := by decide +kernel
theorem dX11_integers_476 : decode cX11_integers 476 = .ok (.ireturn, 1) := by decide +kernel
theorem dX11_integers_477 : decode cX11_integers 477 = .ok (.iload_n 1, 1) := by decide +kernel
theorem dX11_integers_478 : decode cX11_integers 478 = .ok (.ifCond .ne 15, 3) := by decide +kernel
theorem dX11_integers_481 : decode cX11_integers 481 = .ok (.aload_n 0, 1) := by decide +kernel
theorem dX11_integers_482 : decode cX11_integers 482 = .ok (.iconst 2, 1) := by decide +kernel
theorem dX11_integers_483 : decode cX11_integers 483 = .ok (.invokevirtual 294, 3) := by decide +kernel
theorem dX11_integers_486 : decode cX11_integers 486 = .ok (.ifCond .eq 7, 3) := by decide +kernel
theorem dX11_integers_489 : decode cX11_integers 489 = .ok (.iconst 1, 1) := by decide +kernel
theorem dX11_integers_490 : decode cX11_integers 490 = .ok (.goto 4, 3) := by decide +kernel
theorem dX11_integers_493 : decode cX11_integers 493 = .ok (.iconst 0, 1) := by decide +kernel
theorem dX11_integers_494 : decode cX11_integers 494 = .ok (.ireturn, 1) := by decide +kernel
theorem dX11_integers_495 : decode cX11_integers 495 = .ok (.iload_n 1, 1) := by decide +kernel
theorem dX11_integers_496 : decode cX11_integers 496 = .ok (.ifCond .ne 15, 3) := by decide +kernel
theorem dX11_integers_499 : decode cX11_integers 499 = .ok (.aload_n 0, 1) := by decide +kernel
theorem dX11_integers_500 : decode cX11_integers 500 = .ok (.iconst 3, 1) := by decide +kernel
theorem dX11_integers_501 : decode cX11_integers 501 = .ok (.invokevirtual 294, 3) := by decide +kernel
theorem dX11_integers_504 : decode cX11_integers 504 = .ok (.ifCond .eq 7, 3) := by decide +kernel
theorem dX11_integers_507 : decode cX11_integers 507 = .ok (.iconst 1, 1) := by decide +kernel
theorem dX11_integers_508 : decode cX11_integers 508 = .ok (.goto 4, 3) := by decide +kernel
theorem dX11_integers_511 : decode cX11_integers 511 = .ok (.iconst 0, 1) := by decide +kernel
theorem dX11_integers_512 : decode cX11_integers 512 = .ok (.ireturn, 1) := by decide +kernel
theorem dX11_integers_513 : decode cX11_integers 513 = .ok (.aload_n 0, 1) := by decide +kernel
theorem dX11_integers_514 : decode cX11_integers 514 = .ok (.iconst 4, 1) := by decide +kernel
theorem dX11_integers_515 : decode cX11_integers 515 = .ok (.invokevirtual 294, 3) := by decide +kernel
theorem dX11_integers_518 : decode cX11_integers 518 = .ok (.ireturn, 1) := by decide +kernel
theorem dX11_integers_519 : decode cX11_integers 519 = .ok (.aload_n 0, 1) := by decide +kernel
theorem dX11_integers_520 : decode cX11_integers 520 = .ok (.iconst 5, 1) := by decide +kernel
theorem dX11_integers_521 : decode cX11_integers 521 = .ok (.invokevirtual 294, 3) := by decide +kernel
theorem dX11_integers_524 : decode cX11_integers 524 = .ok (.ireturn, 1) := by decide +kernel
theorem dX11_integers_525 : decode cX11_integers 525 = .ok (.iload_n 2, 1) := by decide +kernel
theorem dX11_integers_526 : decode cX11_integers 526 = .ok (.ifCond .ne 16, 3) := by decide +kernel
theorem dX11_integers_529 : decode cX11_integers 529 = .ok (.aload_n 0, 1) := by decide +kernel
theorem dX11_integers_530 : decode cX11_integers 530 = .ok (.bipush 6, 2) := by decide +kernel
theorem dX11_integers_532 : decode cX11_integers 532 = .ok (.invokevirtual 294, 3) := by decide +kernel
theorem dX11_integers_535 : decode cX11_integers 535 = .ok (.ifCond .eq 7, 3) := by decide +kernel
theorem dX11_integers_538 : decode cX11_integers 538 = .ok (.iconst 1, 1) := by decide +kernel
theorem dX11_integers_539 : decode cX11_integers 539 = .ok (.goto 4, 3) := by decide +kernel
theorem dX11_integers_542 : decode cX11_integers 542 = .ok (.iconst 0, 1) := by decide +kernel
theorem dX11_integers_543 : decode cX11_integers 543 = .ok (.ireturn, 1) := by decide +kernel
theorem dX11_integers_544 : decode cX11_integers 544 = .ok (.iload_n 2, 1) := by decide +kernel
theorem dX11_integers_545 : decode cX11_integers 545 = .ok (.ifCond .ne 16, 3) := by decide +kernel
theorem dX11_integers_548 : decode cX11_integers 548 = .ok (.aload_n 0, 1) := by decide +kernel
theorem dX11_integers_549 : decode cX11_integers 549 = .ok (.bipush 7, 2) := by decide +kernel
theorem dX11_integers_551 : decode cX11_integers 551 = .ok (.invokevirtual 294, 3) := by decide +kernel
theorem dX11_integers_554 : decode cX11_integers 554 = .ok (.ifCond .eq 7, 3) := by decide +kernel
theorem dX11_integers_557 : decode cX11_integers 557 = .ok (.iconst 1, 1) := by decide +kernel
theorem dX11_integers_558 : decode cX11_integers 558 = .ok (.goto 4, 3) := by decide +kernel
theorem dX11_integers_561 : decode cX11_integers 561 = .ok (.iconst 0, 1) := by decide +kernel
theorem dX11_integers_562 : decode cX11_integers 562 = .ok (.ireturn, 1) := by decide +kernel
theorem dX11_integers_563 : decode cX11_integers 563 = .ok (.aload_n 0, 1) := by decide +kernel
theorem dX11_integers_564 : decode cX11_integers 564 = .ok (.bipush 13, 2) := by decide +kernel
theorem dX11_integers_566 : decode cX11_integers 566 = .ok (.invokevirtual 275, 3) := by decide +kernel
theorem dX11_integers_569 : decode cX11_integers 569 = .ok (.ireturn, 1) := by decide +kernel
theorem dX11_integers_570 : decode cX11_integers 570 = .ok (.aload_n 0, 1) := by decide +kernel
theorem dX11_integers_571 : decode cX11_integers 571 = .ok (.bipush 14, 2) := by decide +kernel
theorem dX11_integers_573 : decode cX11_integers 573 = .ok (.invokevirtual 275, 3) := by decide +kernel
theorem dX11_integers_576 : decode cX11_integers 576 = .ok (.ireturn, 1) := by decide +kernel
theorem dX11_integers_577 : decode cX11_integers 577 = .ok (.iload_n 1, 1) := by decide +kernel
theorem dX11_integers_578 : decode cX11_integers 578 = .ok (.ifCond .ne 16, 3) := by decide +kernel
theorem dX11_integers_581 : decode cX11_integers 581 = .ok (.aload_n 0, 1) := by decide +kernel
theorem dX11_integers_582 : decode cX11_integers 582 = .ok (.bipush 15, 2) := by decide +kernel
theorem dX11_integers_584 : decode cX11_integers 584 = .ok (.invokevirtual 275, 3) := by decide +kernel
theorem dX11_integers_587 : decode cX11_integers 587 = .ok (.ifCond .eq 7, 3) := by decide +kernel
theorem dX11_integers_590 : decode cX11_integers 590 = .ok (.iconst 1, 1) := by decide +kernel
theorem dX11_integers_591 : decode cX11_integers 591 = .ok (.goto 4, 3) := by decide +kernel
theorem dX11_integers_594 : decode cX11_integers 594 = .ok (.iconst 0, 1) := by decide +kernel
theorem dX11_integers_595 : decode cX11_integers 595 = .ok (.ireturn, 1) := by decide +kernel
theorem dX11_integers_596 : decode cX11_integers 596 = .ok (.iload_n 1, 1) := by decide +kernel
theorem dX11_integers_597 : decode cX11_integers 597 = .ok (.ifCond .ne 16, 3) := by decide +kernel
theorem dX11_integers_600 : decode cX11_integers 600 = .ok (.aload_n 0, 1) := by decide +kernel
theorem dX11_integers_601 : decode cX11_integers 601 = .ok (.bipush 16, 2) := by decide +kernel
theorem dX11_integers_603 : decode cX11_integers 603 = .ok (.invokevirtual 275, 3) := by decide +kernel
theorem dX11_integers_606 : decode cX11_integers 606 = .ok (.ifCond .eq 7, 3) := by decide +kernel
theorem dX11_integers_609 : decode cX11_integers 609 = .ok (.iconst 1, 1) := by decide +kernel
theorem dX11_integers_610 : decode cX11_integers 610 = .ok (.goto 4, 3) := by decide +kernel
theorem dX11_integers_613 : decode cX11_integers 613 = .ok (.iconst 0, 1) := by decide +kernel
theorem dX11_integers_614 : decode cX11_integers 614 = .ok (.ireturn, 1) := by decide +kernel
theorem dX11_integers_615 : decode cX11_integers 615 = .ok (.aload_n 0, 1) := by decide +kernel
theorem dX11_integers_616 : decode cX11_integers 616 = .ok (.bipush 10, 2) := by decide +kernel
theorem dX11_integers_618 : decode cX11_integers 618 = .ok (.invokevirtual 275, 3) := by decide +kernel
theorem dX11_integers_621 : decode cX11_integers 621 = .ok (.ireturn, 1) := by decide +kernel
theorem dX11_integers_622 : decode cX11_integers 622 = .ok (.iload_n 1, 1) := by decide +kernel
theorem dX11_integers_623 : decode cX11_integers 623 = .ok (.ifCond .eq 10, 3) := by decide +kernel
theorem dX11_integers_626 : decode cX11_integers 626 = .ok (.aload_n 0, 1) := by decide +kernel
theorem dX11_integers_627 : decode cX11_integers 627 = .ok (.invokevirtual 297, 3) := by decide +kernel
theorem dX11_integers_630 : decode cX11_integers 630 = .ok (.goto 9, 3) := by decide +kernel
theorem dX11_integers_633 : decode cX11_integers 633 = .ok (.aload_n 0, 1) := by decide +kernel
theorem dX11_integers_634 : decode cX11_integers 634 = .ok (.bipush 19, 2) := by decide +kernel
theorem dX11_integers_636 : decode cX11_integers 636 = .ok (.invokevirtual 275, 3) := by decide +kernel
theorem dX11_integers_639 : decode cX11_integers 639 = .ok (.ireturn, 1) := by decide +kernel
theorem dX11_integers_640 : decode cX11_integers 640 = .ok (.aload_n 0, 1) := by decide +kernel
theorem dX11_integers_641 : decode cX11_integers 641 = .ok (.bipush 11, 2) := by decide +kernel
theorem dX11_integers_643 : decode cX11_integers 643 = .ok (.invokevirtual 275, 3) := by decide +kernel
theorem dX11_integers_646 : decode cX11_integers 646 = .ok (.ireturn, 1) := by decide +kernel
theorem dX11_integers_647 : decode cX11_integers 647 = .ok (.aload_n 0, 1) := by decide +kernel
theorem dX11_integers_648 : decode cX11_integers 648 = .ok (.bipush 12, 2) := by decide +kernel
theorem dX11_integers_650 : decode cX11_integers 650 = .ok (.invokevirtual 275, 3) := by decide +kernel
theorem dX11_integers_653 : decode cX11_integers 653 = .ok (.ireturn, 1) := by decide +kernel
theorem dX11_integers_654 : decode cX11_integers 654 = .ok (.aload_n 0, 1) := by decide +kernel
theorem dX11_integers_655 : decode cX11_integers 655 = .ok (.bipush 17, 2) := by decide +kernel
theorem dX11_integers_657 : decode cX11_integers 657 = .ok (.invokevirtual 275, 3) := by decide +kernel
theorem dX11_integers_660 : decode cX11_integers 660 = .ok (.ireturn, 1) := by decide +kernel
theorem dX11_integers_661 : decode cX11_integers 661 = .ok (.aload_n 0, 1) := by decide +kernel
theorem dX11_integers_662 : decode cX11_integers 662 = .ok (.bipush 18, 2) := by decide +kernel
theorem dX11_integers_664 : decode cX11_integers 664 = .ok (.invokevirtual 275, 3) := by decide +kernel
theorem dX11_integers_667 : decode cX11_integers 667 = .ok (.ireturn, 1) := by decide +kernel
theorem dX11_integers_668 : decode cX11_integers 668 = .ok (.aload_n 0, 1) := by decide +kernel
theorem dX11_integers_669 : decode cX11_integers 669 = .ok (.iconst 0, 1) := by decide +kernel
theorem dX11_integers_670 : decode cX11_integers 670 = .ok (.iconst 0, 1) := by decide +kernel
theorem dX11_integers_671 : decode cX11_integers 671 = .ok (.invokevirtual 300, 3) := by decide +kernel
theorem dX11_integers_674 : decode cX11_integers 674 = .ok (.ireturn, 1) := by decide +kernel
theorem dX11_integers_675 : decode cX11_integers 675 = .ok (.aload_n 0, 1) := by decide +kernel
theorem dX11_integers_676 : decode cX11_integers 676 = .ok (.iconst 1, 1) := by decide +kernel
theorem dX11_integers_677 : decode cX11_integers 677 = .ok (.iconst 0, 1) := by decide +kernel
theorem dX11_integers_678 : decode cX11_integers 678 = .ok (.invokevirtual 300, 3) := by decide +kernel
theorem dX11_integers_681 : decode cX11_integers 681 = .ok (.ireturn, 1) := by decide +kernel
theorem dX11_integers_682 : decode cX11_integers 682 = .ok (.aload_n 0, 1) := by decide +kernel
theorem dX11_integers_683 : decode cX11_integers 683 = .ok (.iconst 0, 1) := by decide +kernel
theorem dX11_integers_684 : decode cX11_integers 684 = .ok (.iconst 1, 1) := by decide +kernel
theorem dX11_integers_685 : decode cX11_integers 685 = .ok (.invokevirtual 300, 3) := by decide +kernel
theorem dX11_integers_688 : decode cX11_integers 688 = .ok (.ireturn, 1) := by decide +kernel
theorem dX11_integers_689 : decode cX11_integers 689 = .ok (.aload_n 0, 1) := by decide +kernel
theorem dX11_integers_690 : decode cX11_integers 690 = .ok (.iconst 1, 1) := by decide +kernel
theorem dX11_integers_691 : decode cX11_integers 691 = .ok (.iconst 1, 1) := by decide +kernel
theorem dX11_integers_692 : decode cX11_integers 692 = .ok (.invokevirtual 300, 3) := by decide +kernel
theorem dX11_integers_695 : decode cX11_integers 695 = .ok (.ireturn, 1) := by decide +kernel
theorem dX11_integers_696 : decode cX11_integers 696 = .ok (.iload_n 2, 1) := by decide +kernel
theorem dX11_integers_697 : decode cX11_integers 697 = .ok (.ifCond .eq 17, 3) := by decide +kernel
theorem dX11_integers_700 : decode cX11_integers 700 = .ok (.aload_n 0, 1) := by decide +kernel
theorem dX11_integers_701 : decode cX11_integers 701 = .ok (.iconst 0, 1) := by decide +kernel
theorem dX11_integers_702 : decode cX11_integers 702 = .ok (.iconst 1, 1) := by decide +kernel
theorem dX11_integers_703 : decode cX11_integers 703 = .ok (.iconst 0, 1) := by decide +kernel
theorem dX11_integers_704 : decode cX11_integers 704 = .ok (.invokevirtual 303, 3) := by decide +kernel
theorem dX11_integers_707 : decode cX11_integers 707 = .ok (.ifCond .eq 7, 3) := by decide +kernel
theorem dX11_integers_710 : decode cX11_integers 710 = .ok (.iconst 1, 1) := by decide +kernel
theorem dX11_integers_711 : decode cX11_integers 711 = .ok (.goto 4, 3) := by decide +kernel
theorem dX11_integers_714 : decode cX11_integers 714 = .ok (.iconst 0, 1) := by decide +kernel
theorem dX11_integers_715 : decode cX11_integers 715 = .ok (.ireturn, 1) := by decide +kernel
theorem dX11_integers_716 : decode cX11_integers 716 = .ok (.iload_n 2, 1) := by decide +kernel
theorem dX11_integers_717 : decode cX11_integers 717 = .ok (.ifCond .eq 17, 3) := by decide +kernel
theorem dX11_integers_720 : decode cX11_integers 720 = .ok (.aload_n 0, 1) := by decide +kernel
theorem dX11_integers_721 : decode cX11_integers 721 = .ok (.iconst 0, 1) := by decide +kernel
theorem dX11_integers_722 : decode cX11_integers 722 = .ok (.iconst 1, 1) := by decide +kernel
theorem dX11_integers_723 : decode cX11_integers 723 = .ok (.iconst 1, 1) := by decide +kernel
theorem dX11_integers_724 : decode cX11_integers 724 = .ok (.invokevirtual 303, 3) := by decide +kernel
theorem dX11_integers_727 : decode cX11_integers 727 = .ok (.ifCond .eq 7, 3) := by decide +kernel
theorem dX11_integers_730 : decode cX11_integers 730 = .ok (.iconst 1, 1) := by decide +kernel
theorem dX11_integers_731 : decode cX11_integers 731 = .ok (.goto 4, 3) := by decide +kernel
theorem dX11_integers_734 : decode cX11_integers 734 = .ok (.iconst 0, 1) := by decide +kernel
theorem dX11_integers_735 : decode cX11_integers 735 = .ok (.ireturn, 1) := by decide +kernel
theorem dX11_integers_736 : decode cX11_integers 736 = .ok (.iconst 0, 1) := by decide +kernel
theorem dX11_integers_737 : decode cX11_integers 737 = .ok (.ireturn, 1) := by decide +kernel
theorem dX11_vlmax_0 : decode cX11_vlmax 0 = .ok (.aload_n 0, 1) := by decide +kernel
theorem dX11_vlmax_1 : decode cX11_vlmax 1 = .ok (.getfield 29, 3) := by decide +kernel
theorem dX11_vlmax_4 : decode cX11_vlmax 4 = .ok (.invokestatic 188, 3) := by decide +kernel
theorem dX11_vlmax_7 : decode cX11_vlmax 7 = .ok (.ireturn, 1) := by decide +kernel
theorem dX11_meets_0 : decode cX11_meets 0 = .ok (.aload_n 0, 1) := by decide +kernel
theorem dX11_meets_1 : decode cX11_meets 1 = .ok (.getfield 111, 3) := by decide +kernel
theorem dX11_meets_4 : decode cX11_meets 4 = .ok (.aload_n 0, 1) := by decide +kernel
theorem dX11_meets_5 : decode cX11_meets 5 = .ok (.getfield 95, 3) := by decide +kernel
theorem dX11_meets_8 : decode cX11_meets 8 = .ok (.invokestatic 81, 3) := by decide +kernel
theorem dX11_meets_11 : decode cX11_meets 11 = .ok (.iload_n 1, 1) := by decide +kernel
theorem dX11_meets_12 : decode cX11_meets 12 = .ok (.iload_n 2, 1) := by decide +kernel
theorem dX11_meets_13 : decode cX11_meets 13 = .ok (.invokestatic 81, 3) := by decide +kernel
theorem dX11_meets_16 : decode cX11_meets 16 = .ok (.invokestatic 107, 3) := by decide +kernel
theorem dX11_meets_19 : decode cX11_meets 19 = .ok (.ireturn, 1) := by decide +kernel
theorem dX11_slidesUp_0 : decode cX11_slidesUp 0 = .ok (.aload_n 0, 1) := by decide +kernel
theorem dX11_slidesUp_1 : decode cX11_slidesUp 1 = .ok (.aload_n 0, 1) := by decide +kernel
theorem dX11_slidesUp_2 : decode cX11_slidesUp 2 = .ok (.getfield 111, 3) := by decide +kernel
theorem dX11_slidesUp_5 : decode cX11_slidesUp 5 = .ok (.aload_n 0, 1) := by decide +kernel
theorem dX11_slidesUp_6 : decode cX11_slidesUp 6 = .ok (.getfield 98, 3) := by decide +kernel
theorem dX11_slidesUp_9 : decode cX11_slidesUp 9 = .ok (.invokevirtual 114, 3) := by decide +kernel
theorem dX11_slidesUp_12 : decode cX11_slidesUp 12 = .ok (.ifCond .eq 44, 3) := by decide +kernel
theorem dX11_slidesUp_15 : decode cX11_slidesUp 15 = .ok (.aload_n 0, 1) := by decide +kernel
theorem dX11_slidesUp_16 : decode cX11_slidesUp 16 = .ok (.aload_n 0, 1) := by decide +kernel
theorem dX11_slidesUp_17 : decode cX11_slidesUp 17 = .ok (.getfield 111, 3) := by decide +kernel
theorem dX11_slidesUp_20 : decode cX11_slidesUp 20 = .ok (.invokevirtual 117, 3) := by decide +kernel
theorem dX11_slidesUp_23 : decode cX11_slidesUp 23 = .ok (.ifCond .eq 33, 3) := by decide +kernel
theorem dX11_slidesUp_26 : decode cX11_slidesUp 26 = .ok (.aload_n 0, 1) := by decide +kernel
theorem dX11_slidesUp_27 : decode cX11_slidesUp 27 = .ok (.aload_n 0, 1) := by decide +kernel
theorem dX11_slidesUp_28 : decode cX11_slidesUp 28 = .ok (.getfield 147, 3) := by decide +kernel
theorem dX11_slidesUp_31 : decode cX11_slidesUp 31 = .ok (.aload_n 0, 1) := by decide +kernel
theorem dX11_slidesUp_32 : decode cX11_slidesUp 32 = .ok (.getfield 98, 3) := by decide +kernel
theorem dX11_slidesUp_35 : decode cX11_slidesUp 35 = .ok (.invokevirtual 114, 3) := by decide +kernel
theorem dX11_slidesUp_38 : decode cX11_slidesUp 38 = .ok (.ifCond .eq 18, 3) := by decide +kernel
theorem dX11_slidesUp_41 : decode cX11_slidesUp 41 = .ok (.aload_n 0, 1) := by decide +kernel
theorem dX11_slidesUp_42 : decode cX11_slidesUp 42 = .ok (.aload_n 0, 1) := by decide +kernel
theorem dX11_slidesUp_43 : decode cX11_slidesUp 43 = .ok (.getfield 147, 3) := by decide +kernel
theorem dX11_slidesUp_46 : decode cX11_slidesUp 46 = .ok (.aload_n 0, 1) := by decide +kernel
theorem dX11_slidesUp_47 : decode cX11_slidesUp 47 = .ok (.getfield 95, 3) := by decide +kernel
theorem dX11_slidesUp_50 : decode cX11_slidesUp 50 = .ok (.invokevirtual 307, 3) := by decide +kernel
theorem dX11_slidesUp_53 : decode cX11_slidesUp 53 = .ok (.ifCond .eq 5, 3) := by decide +kernel
theorem dX11_slidesUp_56 : decode cX11_slidesUp 56 = .ok (.iconst 0, 1) := by decide +kernel
theorem dX11_slidesUp_57 : decode cX11_slidesUp 57 = .ok (.ireturn, 1) := by decide +kernel
theorem dX11_slidesUp_58 : decode cX11_slidesUp 58 = .ok (.aload_n 0, 1) := by decide +kernel
theorem dX11_slidesUp_59 : decode cX11_slidesUp 59 = .ok (.invokevirtual 241, 3) := by decide +kernel
theorem dX11_slidesUp_62 : decode cX11_slidesUp 62 = .ok (.ifCond .ne 5, 3) := by decide +kernel
theorem dX11_slidesUp_65 : decode cX11_slidesUp 65 = .ok (.iconst 1, 1) := by decide +kernel
theorem dX11_slidesUp_66 : decode cX11_slidesUp 66 = .ok (.ireturn, 1) := by decide +kernel
theorem dX11_slidesUp_67 : decode cX11_slidesUp 67 = .ok (.aload_n 0, 1) := by decide +kernel
theorem dX11_slidesUp_68 : decode cX11_slidesUp 68 = .ok (.invokevirtual 137, 3) := by decide +kernel
theorem dX11_slidesUp_71 : decode cX11_slidesUp 71 = .ok (.ifCond .eq 20, 3) := by decide +kernel
theorem dX11_slidesUp_74 : decode cX11_slidesUp 74 = .ok (.aload_n 0, 1) := by decide +kernel
theorem dX11_slidesUp_75 : decode cX11_slidesUp 75 = .ok (.getfield 7, 3) := by decide +kernel
theorem dX11_slidesUp_78 : decode cX11_slidesUp 78 = .ok (.aload_n 0, 1) := by decide +kernel
theorem dX11_slidesUp_79 : decode cX11_slidesUp 79 = .ok (.getfield 130, 3) := by decide +kernel
theorem dX11_slidesUp_82 : decode cX11_slidesUp 82 = .ok (.iaload, 1) := by decide +kernel
theorem dX11_slidesUp_83 : decode cX11_slidesUp 83 = .ok (.i2l, 1) := by decide +kernel
theorem dX11_slidesUp_84 : decode cX11_slidesUp 84 = .ok (.ldc2_w 182, 3) := by decide +kernel
theorem dX11_slidesUp_87 : decode cX11_slidesUp 87 = .ok (.land, 1) := by decide +kernel
theorem dX11_slidesUp_88 : decode cX11_slidesUp 88 = .ok (.goto 8, 3) := by decide +kernel
theorem dX11_slidesUp_91 : decode cX11_slidesUp 91 = .ok (.aload_n 0, 1) := by decide +kernel
theorem dX11_slidesUp_92 : decode cX11_slidesUp 92 = .ok (.getfield 130, 3) := by decide +kernel
theorem dX11_slidesUp_95 : decode cX11_slidesUp 95 = .ok (.i2l, 1) := by decide +kernel
theorem dX11_slidesUp_96 : decode cX11_slidesUp 96 = .ok (.lstore_n 1, 1) := by decide +kernel
theorem dX11_slidesUp_97 : decode cX11_slidesUp 97 = .ok (.aload_n 0, 1) := by decide +kernel
theorem dX11_slidesUp_98 : decode cX11_slidesUp 98 = .ok (.getfield 176, 3) := by decide +kernel
theorem dX11_slidesUp_101 : decode cX11_slidesUp 101 = .ok (.istore_n 3, 1) := by decide +kernel
theorem dX11_slidesUp_102 : decode cX11_slidesUp 102 = .ok (.iload_n 3, 1) := by decide +kernel
theorem dX11_slidesUp_103 : decode cX11_slidesUp 103 = .ok (.aload_n 0, 1) := by decide +kernel
theorem dX11_slidesUp_104 : decode cX11_slidesUp 104 = .ok (.getfield 88, 3) := by decide +kernel
theorem dX11_slidesUp_107 : decode cX11_slidesUp 107 = .ok (.if_icmp .ge 73, 3) := by decide +kernel
theorem dX11_slidesUp_110 : decode cX11_slidesUp 110 = .ok (.iload_n 3, 1) := by decide +kernel
theorem dX11_slidesUp_111 : decode cX11_slidesUp 111 = .ok (.i2l, 1) := by decide +kernel
theorem dX11_slidesUp_112 : decode cX11_slidesUp 112 = .ok (.lload_n 1, 1) := by decide +kernel
theorem dX11_slidesUp_113 : decode cX11_slidesUp 113 = .ok (.lcmp, 1) := by decide +kernel
theorem dX11_slidesUp_114 : decode cX11_slidesUp 114 = .ok (.ifCond .ge 6, 3) := by decide +kernel
theorem dX11_slidesUp_117 : decode cX11_slidesUp 117 = .ok (.goto 57, 3) := by decide +kernel
theorem dX11_slidesUp_120 : decode cX11_slidesUp 120 = .ok (.aload_n 0, 1) := by decide +kernel
theorem dX11_slidesUp_121 : decode cX11_slidesUp 121 = .ok (.iload_n 3, 1) := by decide +kernel
theorem dX11_slidesUp_122 : decode cX11_slidesUp 122 = .ok (.invokevirtual 244, 3) := by decide +kernel
theorem dX11_slidesUp_125 : decode cX11_slidesUp 125 = .ok (.ifCond .eq 36, 3) := by decide +kernel
theorem dX11_slidesUp_128 : decode cX11_slidesUp 128 = .ok (.aload_n 0, 1) := by decide +kernel
theorem dX11_slidesUp_129 : decode cX11_slidesUp 129 = .ok (.aload_n 0, 1) := by decide +kernel
theorem dX11_slidesUp_130 : decode cX11_slidesUp 130 = .ok (.getfield 111, 3) := by decide +kernel
theorem dX11_slidesUp_133 : decode cX11_slidesUp 133 = .ok (.aload_n 0, 1) := by decide +kernel
theorem dX11_slidesUp_134 : decode cX11_slidesUp 134 = .ok (.getfield 98, 3) := by decide +kernel
theorem dX11_slidesUp_137 : decode cX11_slidesUp 137 = .ok (.iload_n 3, 1) := by decide +kernel
theorem dX11_slidesUp_138 : decode cX11_slidesUp 138 = .ok (.aload_n 0, 1) := by decide +kernel
theorem dX11_slidesUp_139 : decode cX11_slidesUp 139 = .ok (.aload_n 0, 1) := by decide +kernel
theorem dX11_slidesUp_140 : decode cX11_slidesUp 140 = .ok (.getfield 147, 3) := by decide +kernel
theorem dX11_slidesUp_143 : decode cX11_slidesUp 143 = .ok (.aload_n 0, 1) := by decide +kernel
theorem dX11_slidesUp_144 : decode cX11_slidesUp 144 = .ok (.getfield 98, 3) := by decide +kernel
theorem dX11_slidesUp_147 : decode cX11_slidesUp 147 = .ok (.iload_n 3, 1) := by decide +kernel
theorem dX11_slidesUp_148 : decode cX11_slidesUp 148 = .ok (.i2l, 1) := by decide +kernel
theorem dX11_slidesUp_149 : decode cX11_slidesUp 149 = .ok (.lload_n 1, 1) := by decide +kernel
theorem dX11_slidesUp_150 : decode cX11_slidesUp 150 = .ok (.lsub, 1) := by decide +kernel
theorem dX11_slidesUp_151 : decode cX11_slidesUp 151 = .ok (.l2i, 1) := by decide +kernel
theorem dX11_slidesUp_152 : decode cX11_slidesUp 152 = .ok (.invokevirtual 133, 3) := by decide +kernel
theorem dX11_slidesUp_155 : decode cX11_slidesUp 155 = .ok (.invokevirtual 69, 3) := by decide +kernel
theorem dX11_slidesUp_158 : decode cX11_slidesUp 158 = .ok (.goto 16, 3) := by decide +kernel
theorem dX11_slidesUp_161 : decode cX11_slidesUp 161 = .ok (.aload_n 0, 1) := by decide +kernel
theorem dX11_slidesUp_162 : decode cX11_slidesUp 162 = .ok (.aload_n 0, 1) := by decide +kernel
theorem dX11_slidesUp_163 : decode cX11_slidesUp 163 = .ok (.getfield 111, 3) := by decide +kernel
theorem dX11_slidesUp_166 : decode cX11_slidesUp 166 = .ok (.aload_n 0, 1) := by decide +kernel
theorem dX11_slidesUp_167 : decode cX11_slidesUp 167 = .ok (.getfield 98, 3) := by decide +kernel
theorem dX11_slidesUp_170 : decode cX11_slidesUp 170 = .ok (.iload_n 3, 1) := by decide +kernel
theorem dX11_slidesUp_171 : decode cX11_slidesUp 171 = .ok (.invokevirtual 247, 3) := by decide +kernel
theorem dX11_slidesUp_174 : decode cX11_slidesUp 174 = .ok (.iinc 3 1, 3) := by decide +kernel
theorem dX11_slidesUp_177 : decode cX11_slidesUp 177 = .ok (.goto (-75), 3) := by decide +kernel
theorem dX11_slidesUp_180 : decode cX11_slidesUp 180 = .ok (.aload_n 0, 1) := by decide +kernel
theorem dX11_slidesUp_181 : decode cX11_slidesUp 181 = .ok (.aload_n 0, 1) := by decide +kernel
theorem dX11_slidesUp_182 : decode cX11_slidesUp 182 = .ok (.getfield 111, 3) := by decide +kernel
theorem dX11_slidesUp_185 : decode cX11_slidesUp 185 = .ok (.aload_n 0, 1) := by decide +kernel
theorem dX11_slidesUp_186 : decode cX11_slidesUp 186 = .ok (.getfield 98, 3) := by decide +kernel
theorem dX11_slidesUp_189 : decode cX11_slidesUp 189 = .ok (.aload_n 0, 1) := by decide +kernel
theorem dX11_slidesUp_190 : decode cX11_slidesUp 190 = .ok (.getfield 95, 3) := by decide +kernel
theorem dX11_slidesUp_193 : decode cX11_slidesUp 193 = .ok (.aload_n 0, 1) := by decide +kernel
theorem dX11_slidesUp_194 : decode cX11_slidesUp 194 = .ok (.getfield 88, 3) := by decide +kernel
theorem dX11_slidesUp_197 : decode cX11_slidesUp 197 = .ok (.invokevirtual 261, 3) := by decide +kernel
theorem dX11_slidesUp_200 : decode cX11_slidesUp 200 = .ok (.iconst 1, 1) := by decide +kernel
theorem dX11_slidesUp_201 : decode cX11_slidesUp 201 = .ok (.ireturn, 1) := by decide +kernel
theorem dX11_slidesDown_0 : decode cX11_slidesDown 0 = .ok (.aload_n 0, 1) := by decide +kernel
theorem dX11_slidesDown_1 : decode cX11_slidesDown 1 = .ok (.aload_n 0, 1) := by decide +kernel
theorem dX11_slidesDown_2 : decode cX11_slidesDown 2 = .ok (.getfield 98, 3) := by decide +kernel
theorem dX11_slidesDown_5 : decode cX11_slidesDown 5 = .ok (.aload_n 0, 1) := by decide +kernel
theorem dX11_slidesDown_6 : decode cX11_slidesDown 6 = .ok (.getfield 147, 3) := by decide +kernel
theorem dX11_slidesDown_9 : decode cX11_slidesDown 9 = .ok (.aload_n 0, 1) := by decide +kernel
theorem dX11_slidesDown_10 : decode cX11_slidesDown 10 = .ok (.getfield 98, 3) := by decide +kernel
theorem dX11_slidesDown_13 : decode cX11_slidesDown 13 = .ok (.iconst (-1), 1) := by decide +kernel
theorem dX11_slidesDown_14 : decode cX11_slidesDown 14 = .ok (.aload_n 0, 1) := by decide +kernel
theorem dX11_slidesDown_15 : decode cX11_slidesDown 15 = .ok (.getfield 98, 3) := by decide +kernel
theorem dX11_slidesDown_18 : decode cX11_slidesDown 18 = .ok (.invokevirtual 237, 3) := by decide +kernel
theorem dX11_slidesDown_21 : decode cX11_slidesDown 21 = .ok (.ifCond .ne 5, 3) := by decide +kernel
theorem dX11_slidesDown_24 : decode cX11_slidesDown 24 = .ok (.iconst 0, 1) := by decide +kernel
theorem dX11_slidesDown_25 : decode cX11_slidesDown 25 = .ok (.ireturn, 1) := by decide +kernel
theorem dX11_slidesDown_26 : decode cX11_slidesDown 26 = .ok (.aload_n 0, 1) := by decide +kernel
theorem dX11_slidesDown_27 : decode cX11_slidesDown 27 = .ok (.invokevirtual 241, 3) := by decide +kernel
theorem dX11_slidesDown_30 : decode cX11_slidesDown 30 = .ok (.ifCond .ne 5, 3) := by decide +kernel
theorem dX11_slidesDown_33 : decode cX11_slidesDown 33 = .ok (.iconst 1, 1) := by decide +kernel
theorem dX11_slidesDown_34 : decode cX11_slidesDown 34 = .ok (.ireturn, 1) := by decide +kernel
theorem dX11_slidesDown_35 : decode cX11_slidesDown 35 = .ok (.aload_n 0, 1) := by decide +kernel
theorem dX11_slidesDown_36 : decode cX11_slidesDown 36 = .ok (.invokevirtual 137, 3) := by decide +kernel
theorem dX11_slidesDown_39 : decode cX11_slidesDown 39 = .ok (.ifCond .eq 20, 3) := by decide +kernel
theorem dX11_slidesDown_42 : decode cX11_slidesDown 42 = .ok (.aload_n 0, 1) := by decide +kernel
theorem dX11_slidesDown_43 : decode cX11_slidesDown 43 = .ok (.getfield 7, 3) := by decide +kernel
theorem dX11_slidesDown_46 : decode cX11_slidesDown 46 = .ok (.aload_n 0, 1) := by decide +kernel
theorem dX11_slidesDown_47 : decode cX11_slidesDown 47 = .ok (.getfield 130, 3) := by decide +kernel
theorem dX11_slidesDown_50 : decode cX11_slidesDown 50 = .ok (.iaload, 1) := by decide +kernel
theorem dX11_slidesDown_51 : decode cX11_slidesDown 51 = .ok (.i2l, 1) := by decide +kernel
theorem dX11_slidesDown_52 : decode cX11_slidesDown 52 = .ok (.ldc2_w 182, 3) := by decide +kernel
theorem dX11_slidesDown_55 : decode cX11_slidesDown 55 = .ok (.land, 1) := by decide +kernel
theorem dX11_slidesDown_56 : decode cX11_slidesDown 56 = .ok (.goto 8, 3) := by decide +kernel
theorem dX11_slidesDown_59 : decode cX11_slidesDown 59 = .ok (.aload_n 0, 1) := by decide +kernel
theorem dX11_slidesDown_60 : decode cX11_slidesDown 60 = .ok (.getfield 130, 3) := by decide +kernel
theorem dX11_slidesDown_63 : decode cX11_slidesDown 63 = .ok (.i2l, 1) := by decide +kernel
theorem dX11_slidesDown_64 : decode cX11_slidesDown 64 = .ok (.lstore_n 1, 1) := by decide +kernel
theorem dX11_slidesDown_65 : decode cX11_slidesDown 65 = .ok (.aload_n 0, 1) := by decide +kernel
theorem dX11_slidesDown_66 : decode cX11_slidesDown 66 = .ok (.getfield 176, 3) := by decide +kernel
theorem dX11_slidesDown_69 : decode cX11_slidesDown 69 = .ok (.istore_n 3, 1) := by decide +kernel
theorem dX11_slidesDown_70 : decode cX11_slidesDown 70 = .ok (.iload_n 3, 1) := by decide +kernel
theorem dX11_slidesDown_71 : decode cX11_slidesDown 71 = .ok (.aload_n 0, 1) := by decide +kernel
theorem dX11_slidesDown_72 : decode cX11_slidesDown 72 = .ok (.getfield 88, 3) := by decide +kernel
theorem dX11_slidesDown_75 : decode cX11_slidesDown 75 = .ok (.if_icmp .ge 80, 3) := by decide +kernel
theorem dX11_slidesDown_78 : decode cX11_slidesDown 78 = .ok (.aload_n 0, 1) := by decide +kernel
theorem dX11_slidesDown_79 : decode cX11_slidesDown 79 = .ok (.iload_n 3, 1) := by decide +kernel
theorem dX11_slidesDown_80 : decode cX11_slidesDown 80 = .ok (.invokevirtual 244, 3) := by decide +kernel
theorem dX11_slidesDown_83 : decode cX11_slidesDown 83 = .ok (.ifCond .eq 53, 3) := by decide +kernel
theorem dX11_slidesDown_86 : decode cX11_slidesDown 86 = .ok (.aload_n 0, 1) := by decide +kernel
theorem dX11_slidesDown_87 : decode cX11_slidesDown 87 = .ok (.aload_n 0, 1) := by decide +kernel
theorem dX11_slidesDown_88 : decode cX11_slidesDown 88 = .ok (.getfield 111, 3) := by decide +kernel
theorem dX11_slidesDown_91 : decode cX11_slidesDown 91 = .ok (.aload_n 0, 1) := by decide +kernel
theorem dX11_slidesDown_92 : decode cX11_slidesDown 92 = .ok (.getfield 98, 3) := by decide +kernel
theorem dX11_slidesDown_95 : decode cX11_slidesDown 95 = .ok (.iload_n 3, 1) := by decide +kernel
theorem dX11_slidesDown_96 : decode cX11_slidesDown 96 = .ok (.iload_n 3, 1) := by decide +kernel
theorem dX11_slidesDown_97 : decode cX11_slidesDown 97 = .ok (.i2l, 1) := by decide +kernel
theorem dX11_slidesDown_98 : decode cX11_slidesDown 98 = .ok (.lload_n 1, 1) := by decide +kernel
theorem dX11_slidesDown_99 : decode cX11_slidesDown 99 = .ok (.ladd, 1) := by decide +kernel
theorem dX11_slidesDown_100 : decode cX11_slidesDown 100 = .ok (.aload_n 0, 1) := by decide +kernel
theorem dX11_slidesDown_101 : decode cX11_slidesDown 101 = .ok (.invokevirtual 310, 3) := by decide +kernel
theorem dX11_slidesDown_104 : decode cX11_slidesDown 104 = .ok (.i2l, 1) := by decide +kernel
theorem dX11_slidesDown_105 : decode cX11_slidesDown 105 = .ok (.lcmp, 1) := by decide +kernel
theorem dX11_slidesDown_106 : decode cX11_slidesDown 106 = .ok (.ifCond .ge 23, 3) := by decide +kernel
theorem dX11_slidesDown_109 : decode cX11_slidesDown 109 = .ok (.aload_n 0, 1) := by decide +kernel
theorem dX11_slidesDown_110 : decode cX11_slidesDown 110 = .ok (.aload_n 0, 1) := by decide +kernel
theorem dX11_slidesDown_111 : decode cX11_slidesDown 111 = .ok (.getfield 147, 3) := by decide +kernel
theorem dX11_slidesDown_114 : decode cX11_slidesDown 114 = .ok (.aload_n 0, 1) := by decide +kernel
theorem dX11_slidesDown_115 : decode cX11_slidesDown 115 = .ok (.getfield 98, 3) := by decide +kernel
theorem dX11_slidesDown_118 : decode cX11_slidesDown 118 = .ok (.iload_n 3, 1) := by decide +kernel
theorem dX11_slidesDown_119 : decode cX11_slidesDown 119 = .ok (.i2l, 1) := by decide +kernel
theorem dX11_slidesDown_120 : decode cX11_slidesDown 120 = .ok (.lload_n 1, 1) := by decide +kernel
theorem dX11_slidesDown_121 : decode cX11_slidesDown 121 = .ok (.ladd, 1) := by decide +kernel
theorem dX11_slidesDown_122 : decode cX11_slidesDown 122 = .ok (.l2i, 1) := by decide +kernel
theorem dX11_slidesDown_123 : decode cX11_slidesDown 123 = .ok (.invokevirtual 133, 3) := by decide +kernel
theorem dX11_slidesDown_126 : decode cX11_slidesDown 126 = .ok (.goto 4, 3) := by decide +kernel
theorem dX11_slidesDown_129 : decode cX11_slidesDown 129 = .ok (.lconst 0, 1) := by decide +kernel
theorem dX11_slidesDown_130 : decode cX11_slidesDown 130 = .ok (.invokevirtual 69, 3) := by decide +kernel
theorem dX11_slidesDown_133 : decode cX11_slidesDown 133 = .ok (.goto 16, 3) := by decide +kernel
theorem dX11_slidesDown_136 : decode cX11_slidesDown 136 = .ok (.aload_n 0, 1) := by decide +kernel
theorem dX11_slidesDown_137 : decode cX11_slidesDown 137 = .ok (.aload_n 0, 1) := by decide +kernel
theorem dX11_slidesDown_138 : decode cX11_slidesDown 138 = .ok (.getfield 111, 3) := by decide +kernel
theorem dX11_slidesDown_141 : decode cX11_slidesDown 141 = .ok (.aload_n 0, 1) := by decide +kernel
theorem dX11_slidesDown_142 : decode cX11_slidesDown 142 = .ok (.getfield 98, 3) := by decide +kernel
theorem dX11_slidesDown_145 : decode cX11_slidesDown 145 = .ok (.iload_n 3, 1) := by decide +kernel
theorem dX11_slidesDown_146 : decode cX11_slidesDown 146 = .ok (.invokevirtual 247, 3) := by decide +kernel
theorem dX11_slidesDown_149 : decode cX11_slidesDown 149 = .ok (.iinc 3 1, 3) := by decide +kernel
theorem dX11_slidesDown_152 : decode cX11_slidesDown 152 = .ok (.goto (-82), 3) := by decide +kernel
theorem dX11_slidesDown_155 : decode cX11_slidesDown 155 = .ok (.aload_n 0, 1) := by decide +kernel
theorem dX11_slidesDown_156 : decode cX11_slidesDown 156 = .ok (.aload_n 0, 1) := by decide +kernel
theorem dX11_slidesDown_157 : decode cX11_slidesDown 157 = .ok (.getfield 111, 3) := by decide +kernel
theorem dX11_slidesDown_160 : decode cX11_slidesDown 160 = .ok (.aload_n 0, 1) := by decide +kernel
theorem dX11_slidesDown_161 : decode cX11_slidesDown 161 = .ok (.getfield 98, 3) := by decide +kernel
theorem dX11_slidesDown_164 : decode cX11_slidesDown 164 = .ok (.aload_n 0, 1) := by decide +kernel
theorem dX11_slidesDown_165 : decode cX11_slidesDown 165 = .ok (.getfield 95, 3) := by decide +kernel
theorem dX11_slidesDown_168 : decode cX11_slidesDown 168 = .ok (.aload_n 0, 1) := by decide +kernel
theorem dX11_slidesDown_169 : decode cX11_slidesDown 169 = .ok (.getfield 88, 3) := by decide +kernel
theorem dX11_slidesDown_172 : decode cX11_slidesDown 172 = .ok (.invokevirtual 261, 3) := by decide +kernel
theorem dX11_slidesDown_175 : decode cX11_slidesDown 175 = .ok (.iconst 1, 1) := by decide +kernel
theorem dX11_slidesDown_176 : decode cX11_slidesDown 176 = .ok (.ireturn, 1) := by decide +kernel
theorem dX11_slidesOne_0 : decode cX11_slidesOne 0 = .ok (.aload_n 0, 1) := by decide +kernel
theorem dX11_slidesOne_1 : decode cX11_slidesOne 1 = .ok (.aload_n 0, 1) := by decide +kernel
theorem dX11_slidesOne_2 : decode cX11_slidesOne 2 = .ok (.getfield 98, 3) := by decide +kernel
theorem dX11_slidesOne_5 : decode cX11_slidesOne 5 = .ok (.aload_n 0, 1) := by decide +kernel
theorem dX11_slidesOne_6 : decode cX11_slidesOne 6 = .ok (.getfield 147, 3) := by decide +kernel
theorem dX11_slidesOne_9 : decode cX11_slidesOne 9 = .ok (.aload_n 0, 1) := by decide +kernel
theorem dX11_slidesOne_10 : decode cX11_slidesOne 10 = .ok (.getfield 98, 3) := by decide +kernel
theorem dX11_slidesOne_13 : decode cX11_slidesOne 13 = .ok (.iconst (-1), 1) := by decide +kernel
theorem dX11_slidesOne_14 : decode cX11_slidesOne 14 = .ok (.aload_n 0, 1) := by decide +kernel
theorem dX11_slidesOne_15 : decode cX11_slidesOne 15 = .ok (.getfield 98, 3) := by decide +kernel
theorem dX11_slidesOne_18 : decode cX11_slidesOne 18 = .ok (.invokevirtual 237, 3) := by decide +kernel
theorem dX11_slidesOne_21 : decode cX11_slidesOne 21 = .ok (.ifCond .eq 22, 3) := by decide +kernel
theorem dX11_slidesOne_24 : decode cX11_slidesOne 24 = .ok (.iload_n 1, 1) := by decide +kernel
theorem dX11_slidesOne_25 : decode cX11_slidesOne 25 = .ok (.ifCond .eq 20, 3) := by decide +kernel
theorem dX11_slidesOne_28 : decode cX11_slidesOne 28 = .ok (.aload_n 0, 1) := by decide +kernel
theorem dX11_slidesOne_29 : decode cX11_slidesOne 29 = .ok (.aload_n 0, 1) := by decide +kernel
theorem dX11_slidesOne_30 : decode cX11_slidesOne 30 = .ok (.getfield 147, 3) := by decide +kernel
theorem dX11_slidesOne_33 : decode cX11_slidesOne 33 = .ok (.aload_n 0, 1) := by decide +kernel
theorem dX11_slidesOne_34 : decode cX11_slidesOne 34 = .ok (.getfield 95, 3) := by decide +kernel
theorem dX11_slidesOne_37 : decode cX11_slidesOne 37 = .ok (.invokevirtual 307, 3) := by decide +kernel
theorem dX11_slidesOne_40 : decode cX11_slidesOne 40 = .ok (.ifCond .eq 5, 3) := by decide +kernel
theorem dX11_slidesOne_43 : decode cX11_slidesOne 43 = .ok (.iconst 0, 1) := by decide +kernel
theorem dX11_slidesOne_44 : decode cX11_slidesOne 44 = .ok (.ireturn, 1) := by decide +kernel
theorem dX11_slidesOne_45 : decode cX11_slidesOne 45 = .ok (.aload_n 0, 1) := by decide +kernel
theorem dX11_slidesOne_46 : decode cX11_slidesOne 46 = .ok (.invokevirtual 241, 3) := by decide +kernel
theorem dX11_slidesOne_49 : decode cX11_slidesOne 49 = .ok (.ifCond .ne 5, 3) := by decide +kernel
theorem dX11_slidesOne_52 : decode cX11_slidesOne 52 = .ok (.iconst 1, 1) := by decide +kernel
theorem dX11_slidesOne_53 : decode cX11_slidesOne 53 = .ok (.ireturn, 1) := by decide +kernel
theorem dX11_slidesOne_54 : decode cX11_slidesOne 54 = .ok (.aload_n 0, 1) := by decide +kernel
theorem dX11_slidesOne_55 : decode cX11_slidesOne 55 = .ok (.getfield 176, 3) := by decide +kernel
theorem dX11_slidesOne_58 : decode cX11_slidesOne 58 = .ok (.istore_n 2, 1) := by decide +kernel
theorem dX11_slidesOne_59 : decode cX11_slidesOne 59 = .ok (.iload_n 2, 1) := by decide +kernel
theorem dX11_slidesOne_60 : decode cX11_slidesOne 60 = .ok (.aload_n 0, 1) := by decide +kernel
theorem dX11_slidesOne_61 : decode cX11_slidesOne 61 = .ok (.getfield 88, 3) := by decide +kernel
theorem dX11_slidesOne_64 : decode cX11_slidesOne 64 = .ok (.if_icmp .ge 120, 3) := by decide +kernel
theorem dX11_slidesOne_67 : decode cX11_slidesOne 67 = .ok (.iload_n 1, 1) := by decide +kernel
theorem dX11_slidesOne_68 : decode cX11_slidesOne 68 = .ok (.ifCond .eq 15, 3) := by decide +kernel
theorem dX11_slidesOne_71 : decode cX11_slidesOne 71 = .ok (.iload_n 2, 1) := by decide +kernel
theorem dX11_slidesOne_72 : decode cX11_slidesOne 72 = .ok (.ifCond .ne 7, 3) := by decide +kernel
theorem dX11_slidesOne_75 : decode cX11_slidesOne 75 = .ok (.iconst 1, 1) := by decide +kernel
theorem dX11_slidesOne_76 : decode cX11_slidesOne 76 = .ok (.goto 22, 3) := by decide +kernel
theorem dX11_slidesOne_79 : decode cX11_slidesOne 79 = .ok (.iconst 0, 1) := by decide +kernel
theorem dX11_slidesOne_80 : decode cX11_slidesOne 80 = .ok (.goto 18, 3) := by decide +kernel
theorem dX11_slidesOne_83 : decode cX11_slidesOne 83 = .ok (.iload_n 2, 1) := by decide +kernel
theorem dX11_slidesOne_84 : decode cX11_slidesOne 84 = .ok (.aload_n 0, 1) := by decide +kernel
theorem dX11_slidesOne_85 : decode cX11_slidesOne 85 = .ok (.getfield 88, 3) := by decide +kernel
theorem dX11_slidesOne_88 : decode cX11_slidesOne 88 = .ok (.iconst 1, 1) := by decide +kernel
theorem dX11_slidesOne_89 : decode cX11_slidesOne 89 = .ok (.isub, 1) := by decide +kernel
theorem dX11_slidesOne_90 : decode cX11_slidesOne 90 = .ok (.if_icmp .ne 7, 3) := by decide +kernel
theorem dX11_slidesOne_93 : decode cX11_slidesOne 93 = .ok (.iconst 1, 1) := by decide +kernel
theorem dX11_slidesOne_94 : decode cX11_slidesOne 94 = .ok (.goto 4, 3) := by decide +kernel
theorem dX11_slidesOne_97 : decode cX11_slidesOne 97 = .ok (.iconst 0, 1) := by decide +kernel
theorem dX11_slidesOne_98 : decode cX11_slidesOne 98 = .ok (.istore_n 3, 1) := by decide +kernel
theorem dX11_slidesOne_99 : decode cX11_slidesOne 99 = .ok (.aload_n 0, 1) := by decide +kernel
theorem dX11_slidesOne_100 : decode cX11_slidesOne 100 = .ok (.iload_n 2, 1) := by decide +kernel
theorem dX11_slidesOne_101 : decode cX11_slidesOne 101 = .ok (.invokevirtual 244, 3) := by decide +kernel
theorem dX11_slidesOne_104 : decode cX11_slidesOne 104 = .ok (.ifCond .eq 61, 3) := by decide +kernel
theorem dX11_slidesOne_107 : decode cX11_slidesOne 107 = .ok (.aload_n 0, 1) := by decide +kernel
theorem dX11_slidesOne_108 : decode cX11_slidesOne 108 = .ok (.aload_n 0, 1) := by decide +kernel
theorem dX11_slidesOne_109 : decode cX11_slidesOne 109 = .ok (.getfield 111, 3) := by decide +kernel
theorem dX11_slidesOne_112 : decode cX11_slidesOne 112 = .ok (.aload_n 0, 1) := by decide +kernel
theorem dX11_slidesOne_113 : decode cX11_slidesOne 113 = .ok (.getfield 98, 3) := by decide +kernel
theorem dX11_slidesOne_116 : decode cX11_slidesOne 116 = .ok (.iload_n 2, 1) := by decide +kernel
theorem dX11_slidesOne_117 : decode cX11_slidesOne 117 = .ok (.iload_n 3, 1) := by decide +kernel
theorem dX11_slidesOne_118 : decode cX11_slidesOne 118 = .ok (.ifCond .eq 16, 3) := by decide +kernel
theorem dX11_slidesOne_121 : decode cX11_slidesOne 121 = .ok (.aload_n 0, 1) := by decide +kernel
theorem dX11_slidesOne_122 : decode cX11_slidesOne 122 = .ok (.getfield 7, 3) := by decide +kernel
theorem dX11_slidesOne_125 : decode cX11_slidesOne 125 = .ok (.aload_n 0, 1) := by decide +kernel
theorem dX11_slidesOne_126 : decode cX11_slidesOne 126 = .ok (.getfield 130, 3) := by decide +kernel
theorem dX11_slidesOne_129 : decode cX11_slidesOne 129 = .ok (.iaload, 1) := by decide +kernel
theorem dX11_slidesOne_130 : decode cX11_slidesOne 130 = .ok (.i2l, 1) := by decide +kernel
theorem dX11_slidesOne_131 : decode cX11_slidesOne 131 = .ok (.goto 28, 3) := by decide +kernel
theorem dX11_slidesOne_134 : decode cX11_slidesOne 134 = .ok (.aload_n 0, 1) := by decide +kernel
theorem dX11_slidesOne_135 : decode cX11_slidesOne 135 = .ok (.aload_n 0, 1) := by decide +kernel
theorem dX11_slidesOne_136 : decode cX11_slidesOne 136 = .ok (.getfield 147, 3) := by decide +kernel
theorem dX11_slidesOne_139 : decode cX11_slidesOne 139 = .ok (.aload_n 0, 1) := by decide +kernel
theorem dX11_slidesOne_140 : decode cX11_slidesOne 140 = .ok (.getfield 98, 3) := by decide +kernel
theorem dX11_slidesOne_143 : decode cX11_slidesOne 143 = .ok (.iload_n 1, 1) := by decide +kernel
theorem dX11_slidesOne_144 : decode cX11_slidesOne 144 = .ok (.ifCond .eq 9, 3) := by decide +kernel
theorem dX11_slidesOne_147 : decode cX11_slidesOne 147 = .ok (.iload_n 2, 1) := by decide +kernel
theorem dX11_slidesOne_148 : decode cX11_slidesOne 148 = .ok (.iconst 1, 1) := by decide +kernel
theorem dX11_slidesOne_149 : decode cX11_slidesOne 149 = .ok (.isub, 1) := by decide +kernel
theorem dX11_slidesOne_150 : decode cX11_slidesOne 150 = .ok (.goto 6, 3) := by decide +kernel
theorem dX11_slidesOne_153 : decode cX11_slidesOne 153 = .ok (.iload_n 2, 1) := by decide +kernel
theorem dX11_slidesOne_154 : decode cX11_slidesOne 154 = .ok (.iconst 1, 1) := by decide +kernel
theorem dX11_slidesOne_155 : decode cX11_slidesOne 155 = .ok (.iadd, 1) := by decide +kernel
theorem dX11_slidesOne_156 : decode cX11_slidesOne 156 = .ok (.invokevirtual 133, 3) := by decide +kernel
theorem dX11_slidesOne_159 : decode cX11_slidesOne 159 = .ok (.invokevirtual 69, 3) := by decide +kernel
theorem dX11_slidesOne_162 : decode cX11_slidesOne 162 = .ok (.goto 16, 3) := by decide +kernel
theorem dX11_slidesOne_165 : decode cX11_slidesOne 165 = .ok (.aload_n 0, 1) := by decide +kernel
theorem dX11_slidesOne_166 : decode cX11_slidesOne 166 = .ok (.aload_n 0, 1) := by decide +kernel
theorem dX11_slidesOne_167 : decode cX11_slidesOne 167 = .ok (.getfield 111, 3) := by decide +kernel
theorem dX11_slidesOne_170 : decode cX11_slidesOne 170 = .ok (.aload_n 0, 1) := by decide +kernel
theorem dX11_slidesOne_171 : decode cX11_slidesOne 171 = .ok (.getfield 98, 3) := by decide +kernel
theorem dX11_slidesOne_174 : decode cX11_slidesOne 174 = .ok (.iload_n 2, 1) := by decide +kernel
theorem dX11_slidesOne_175 : decode cX11_slidesOne 175 = .ok (.invokevirtual 247, 3) := by decide +kernel
theorem dX11_slidesOne_178 : decode cX11_slidesOne 178 = .ok (.iinc 2 1, 3) := by decide +kernel
theorem dX11_slidesOne_181 : decode cX11_slidesOne 181 = .ok (.goto (-122), 3) := by decide +kernel
theorem dX11_slidesOne_184 : decode cX11_slidesOne 184 = .ok (.aload_n 0, 1) := by decide +kernel
theorem dX11_slidesOne_185 : decode cX11_slidesOne 185 = .ok (.aload_n 0, 1) := by decide +kernel
theorem dX11_slidesOne_186 : decode cX11_slidesOne 186 = .ok (.getfield 111, 3) := by decide +kernel
theorem dX11_slidesOne_189 : decode cX11_slidesOne 189 = .ok (.aload_n 0, 1) := by decide +kernel
theorem dX11_slidesOne_190 : decode cX11_slidesOne 190 = .ok (.getfield 98, 3) := by decide +kernel
theorem dX11_slidesOne_193 : decode cX11_slidesOne 193 = .ok (.aload_n 0, 1) := by decide +kernel
theorem dX11_slidesOne_194 : decode cX11_slidesOne 194 = .ok (.getfield 95, 3) := by decide +kernel
theorem dX11_slidesOne_197 : decode cX11_slidesOne 197 = .ok (.aload_n 0, 1) := by decide +kernel
theorem dX11_slidesOne_198 : decode cX11_slidesOne 198 = .ok (.getfield 88, 3) := by decide +kernel
theorem dX11_slidesOne_201 : decode cX11_slidesOne 201 = .ok (.invokevirtual 261, 3) := by decide +kernel
theorem dX11_slidesOne_204 : decode cX11_slidesOne 204 = .ok (.iconst 1, 1) := by decide +kernel
theorem dX11_slidesOne_205 : decode cX11_slidesOne 205 = .ok (.ireturn, 1) := by decide +kernel
theorem dX11_gathers_0 : decode cX11_gathers 0 = .ok (.aload_n 0, 1) := by decide +kernel
theorem dX11_gathers_1 : decode cX11_gathers 1 = .ok (.aload_n 0, 1) := by decide +kernel
theorem dX11_gathers_2 : decode cX11_gathers 2 = .ok (.getfield 111, 3) := by decide +kernel
theorem dX11_gathers_5 : decode cX11_gathers 5 = .ok (.aload_n 0, 1) := by decide +kernel
theorem dX11_gathers_6 : decode cX11_gathers 6 = .ok (.getfield 98, 3) := by decide +kernel
theorem dX11_gathers_9 : decode cX11_gathers 9 = .ok (.invokevirtual 114, 3) := by decide +kernel
theorem dX11_gathers_12 : decode cX11_gathers 12 = .ok (.ifCond .eq 44, 3) := by decide +kernel
theorem dX11_gathers_15 : decode cX11_gathers 15 = .ok (.aload_n 0, 1) := by decide +kernel
theorem dX11_gathers_16 : decode cX11_gathers 16 = .ok (.aload_n 0, 1) := by decide +kernel
theorem dX11_gathers_17 : decode cX11_gathers 17 = .ok (.getfield 111, 3) := by decide +kernel
theorem dX11_gathers_20 : decode cX11_gathers 20 = .ok (.invokevirtual 117, 3) := by decide +kernel
theorem dX11_gathers_23 : decode cX11_gathers 23 = .ok (.ifCond .eq 33, 3) := by decide +kernel
theorem dX11_gathers_26 : decode cX11_gathers 26 = .ok (.aload_n 0, 1) := by decide +kernel
theorem dX11_gathers_27 : decode cX11_gathers 27 = .ok (.aload_n 0, 1) := by decide +kernel
theorem dX11_gathers_28 : decode cX11_gathers 28 = .ok (.getfield 147, 3) := by decide +kernel
theorem dX11_gathers_31 : decode cX11_gathers 31 = .ok (.aload_n 0, 1) := by decide +kernel
theorem dX11_gathers_32 : decode cX11_gathers 32 = .ok (.getfield 98, 3) := by decide +kernel
theorem dX11_gathers_35 : decode cX11_gathers 35 = .ok (.invokevirtual 114, 3) := by decide +kernel
theorem dX11_gathers_38 : decode cX11_gathers 38 = .ok (.ifCond .eq 18, 3) := by decide +kernel
theorem dX11_gathers_41 : decode cX11_gathers 41 = .ok (.aload_n 0, 1) := by decide +kernel
theorem dX11_gathers_42 : decode cX11_gathers 42 = .ok (.aload_n 0, 1) := by decide +kernel
theorem dX11_gathers_43 : decode cX11_gathers 43 = .ok (.getfield 147, 3) := by decide +kernel
theorem dX11_gathers_46 : decode cX11_gathers 46 = .ok (.aload_n 0, 1) := by decide +kernel
theorem dX11_gathers_47 : decode cX11_gathers 47 = .ok (.getfield 95, 3) := by decide +kernel
theorem dX11_gathers_50 : decode cX11_gathers 50 = .ok (.invokevirtual 307, 3) := by decide +kernel
theorem dX11_gathers_53 : decode cX11_gathers 53 = .ok (.ifCond .eq 5, 3) := by decide +kernel
theorem dX11_gathers_56 : decode cX11_gathers 56 = .ok (.iconst 0, 1) := by decide +kernel
theorem dX11_gathers_57 : decode cX11_gathers 57 = .ok (.ireturn, 1) := by decide +kernel
theorem dX11_gathers_58 : decode cX11_gathers 58 = .ok (.aload_n 0, 1) := by decide +kernel
theorem dX11_gathers_59 : decode cX11_gathers 59 = .ok (.invokevirtual 127, 3) := by decide +kernel
theorem dX11_gathers_62 : decode cX11_gathers 62 = .ok (.ifCond .eq 33, 3) := by decide +kernel
theorem dX11_gathers_65 : decode cX11_gathers 65 = .ok (.aload_n 0, 1) := by decide +kernel
theorem dX11_gathers_66 : decode cX11_gathers 66 = .ok (.aload_n 0, 1) := by decide +kernel
theorem dX11_gathers_67 : decode cX11_gathers 67 = .ok (.getfield 130, 3) := by decide +kernel
theorem dX11_gathers_70 : decode cX11_gathers 70 = .ok (.iload_n 1, 1) := by decide +kernel
theorem dX11_gathers_71 : decode cX11_gathers 71 = .ok (.invokevirtual 114, 3) := by decide +kernel
theorem dX11_gathers_74 : decode cX11_gathers 74 = .ok (.ifCond .eq 19, 3) := by decide +kernel
theorem dX11_gathers_77 : decode cX11_gathers 77 = .ok (.aload_n 0, 1) := by decide +kernel
theorem dX11_gathers_78 : decode cX11_gathers 78 = .ok (.aload_n 0, 1) := by decide +kernel
theorem dX11_gathers_79 : decode cX11_gathers 79 = .ok (.getfield 130, 3) := by decide +kernel
theorem dX11_gathers_82 : decode cX11_gathers 82 = .ok (.aload_n 0, 1) := by decide +kernel
theorem dX11_gathers_83 : decode cX11_gathers 83 = .ok (.iload_n 1, 1) := by decide +kernel
theorem dX11_gathers_84 : decode cX11_gathers 84 = .ok (.invokevirtual 104, 3) := by decide +kernel
theorem dX11_gathers_87 : decode cX11_gathers 87 = .ok (.invokevirtual 307, 3) := by decide +kernel
theorem dX11_gathers_90 : decode cX11_gathers 90 = .ok (.ifCond .eq 5, 3) := by decide +kernel
theorem dX11_gathers_93 : decode cX11_gathers 93 = .ok (.iconst 0, 1) := by decide +kernel
theorem dX11_gathers_94 : decode cX11_gathers 94 = .ok (.ireturn, 1) := by decide +kernel
theorem dX11_gathers_95 : decode cX11_gathers 95 = .ok (.aload_n 0, 1) := by decide +kernel
theorem dX11_gathers_96 : decode cX11_gathers 96 = .ok (.invokevirtual 241, 3) := by decide +kernel
theorem dX11_gathers_99 : decode cX11_gathers 99 = .ok (.ifCond .ne 5, 3) := by decide +kernel
theorem dX11_gathers_102 : decode cX11_gathers 102 = .ok (.iconst 1, 1) := by decide +kernel
theorem dX11_gathers_103 : decode cX11_gathers 103 = .ok (.ireturn, 1) := by decide +kernel
theorem dX11_gathers_104 : decode cX11_gathers 104 = .ok (.aload_n 0, 1) := by decide +kernel
theorem dX11_gathers_105 : decode cX11_gathers 105 = .ok (.getfield 176, 3) := by decide +kernel
theorem dX11_gathers_108 : decode cX11_gathers 108 = .ok (.istore_n 2, 1) := by decide +kernel
theorem dX11_gathers_109 : decode cX11_gathers 109 = .ok (.iload_n 2, 1) := by decide +kernel
theorem dX11_gathers_110 : decode cX11_gathers 110 = .ok (.aload_n 0, 1) := by decide +kernel
theorem dX11_gathers_111 : decode cX11_gathers 111 = .ok (.getfield 88, 3) := by decide +kernel
theorem dX11_gathers_114 : decode cX11_gathers 114 = .ok (.if_icmp .ge 124, 3) := by decide +kernel
theorem dX11_gathers_117 : decode cX11_gathers 117 = .ok (.aload_n 0, 1) := by decide +kernel
theorem dX11_gathers_118 : decode cX11_gathers 118 = .ok (.iload_n 2, 1) := by decide +kernel
theorem dX11_gathers_119 : decode cX11_gathers 119 = .ok (.invokevirtual 244, 3) := by decide +kernel
theorem dX11_gathers_122 : decode cX11_gathers 122 = .ok (.ifCond .ne 19, 3) := by decide +kernel
theorem dX11_gathers_125 : decode cX11_gathers 125 = .ok (.aload_n 0, 1) := by decide +kernel
theorem dX11_gathers_126 : decode cX11_gathers 126 = .ok (.aload_n 0, 1) := by decide +kernel
theorem dX11_gathers_127 : decode cX11_gathers 127 = .ok (.getfield 111, 3) := by decide +kernel
theorem dX11_gathers_130 : decode cX11_gathers 130 = .ok (.aload_n 0, 1) := by decide +kernel
theorem dX11_gathers_131 : decode cX11_gathers 131 = .ok (.getfield 98, 3) := by decide +kernel
theorem dX11_gathers_134 : decode cX11_gathers 134 = .ok (.iload_n 2, 1) := by decide +kernel
theorem dX11_gathers_135 : decode cX11_gathers 135 = .ok (.invokevirtual 247, 3) := by decide +kernel
theorem dX11_gathers_138 : decode cX11_gathers 138 = .ok (.goto 94, 3) := by decide +kernel
theorem dX11_gathers_141 : decode cX11_gathers 141 = .ok (.aload_n 0, 1) := by decide +kernel
theorem dX11_gathers_142 : decode cX11_gathers 142 = .ok (.invokevirtual 127, 3) := by decide +kernel
theorem dX11_gathers_145 : decode cX11_gathers 145 = .ok (.ifCond .eq 16, 3) := by decide +kernel
theorem dX11_gathers_148 : decode cX11_gathers 148 = .ok (.aload_n 0, 1) := by decide +kernel
theorem dX11_gathers_149 : decode cX11_gathers 149 = .ok (.aload_n 0, 1) := by decide +kernel
theorem dX11_gathers_150 : decode cX11_gathers 150 = .ok (.getfield 130, 3) := by decide +kernel
theorem dX11_gathers_153 : decode cX11_gathers 153 = .ok (.iload_n 1, 1) := by decide +kernel
theorem dX11_gathers_154 : decode cX11_gathers 154 = .ok (.iload_n 2, 1) := by decide +kernel
theorem dX11_gathers_155 : decode cX11_gathers 155 = .ok (.invokevirtual 133, 3) := by decide +kernel
theorem dX11_gathers_158 : decode cX11_gathers 158 = .ok (.goto 32, 3) := by decide +kernel
theorem dX11_gathers_161 : decode cX11_gathers 161 = .ok (.aload_n 0, 1) := by decide +kernel
theorem dX11_gathers_162 : decode cX11_gathers 162 = .ok (.invokevirtual 137, 3) := by decide +kernel
theorem dX11_gathers_165 : decode cX11_gathers 165 = .ok (.ifCond .eq 20, 3) := by decide +kernel
theorem dX11_gathers_168 : decode cX11_gathers 168 = .ok (.aload_n 0, 1) := by decide +kernel
theorem dX11_gathers_169 : decode cX11_gathers 169 = .ok (.getfield 7, 3) := by decide +kernel
theorem dX11_gathers_172 : decode cX11_gathers 172 = .ok (.aload_n 0, 1) := by decide +kernel
theorem dX11_gathers_173 : decode cX11_gathers 173 = .ok (.getfield 130, 3) := by decide +kernel
theorem dX11_gathers_176 : decode cX11_gathers 176 = .ok (.iaload, 1) := by decide +kernel
theorem dX11_gathers_177 : decode cX11_gathers 177 = .ok (.i2l, 1) := by decide +kernel
theorem dX11_gathers_178 : decode cX11_gathers 178 = .ok (.ldc2_w 182, 3) := by decide +kernel
theorem dX11_gathers_181 : decode cX11_gathers 181 = .ok (.land, 1) := by decide +kernel
theorem dX11_gathers_182 : decode cX11_gathers 182 = .ok (.goto 8, 3) := by decide +kernel
theorem dX11_gathers_185 : decode cX11_gathers 185 = .ok (.aload_n 0, 1) := by decide +kernel
theorem dX11_gathers_186 : decode cX11_gathers 186 = .ok (.getfield 130, 3) := by decide +kernel
theorem dX11_gathers_189 : decode cX11_gathers 189 = .ok (.i2l, 1) := by decide +kernel
theorem dX11_gathers_190 : decode cX11_gathers 190 = .ok (.lstore_n 3, 1) := by decide +kernel
theorem dX11_gathers_191 : decode cX11_gathers 191 = .ok (.aload_n 0, 1) := by decide +kernel
theorem dX11_gathers_192 : decode cX11_gathers 192 = .ok (.aload_n 0, 1) := by decide +kernel
theorem dX11_gathers_193 : decode cX11_gathers 193 = .ok (.getfield 111, 3) := by decide +kernel
theorem dX11_gathers_196 : decode cX11_gathers 196 = .ok (.aload_n 0, 1) := by decide +kernel
theorem dX11_gathers_197 : decode cX11_gathers 197 = .ok (.getfield 98, 3) := by decide +kernel
theorem dX11_gathers_200 : decode cX11_gathers 200 = .ok (.iload_n 2, 1) := by decide +kernel
theorem dX11_gathers_201 : decode cX11_gathers 201 = .ok (.lload_n 3, 1) := by decide +kernel
theorem dX11_gathers_202 : decode cX11_gathers 202 = .ok (.aload_n 0, 1) := by decide +kernel
theorem dX11_gathers_203 : decode cX11_gathers 203 = .ok (.invokevirtual 310, 3) := by decide +kernel
theorem dX11_gathers_206 : decode cX11_gathers 206 = .ok (.i2l, 1) := by decide +kernel
theorem dX11_gathers_207 : decode cX11_gathers 207 = .ok (.lcmp, 1) := by decide +kernel
theorem dX11_gathers_208 : decode cX11_gathers 208 = .ok (.ifCond .ge 20, 3) := by decide +kernel
theorem dX11_gathers_211 : decode cX11_gathers 211 = .ok (.aload_n 0, 1) := by decide +kernel
theorem dX11_gathers_212 : decode cX11_gathers 212 = .ok (.aload_n 0, 1) := by decide +kernel
theorem dX11_gathers_213 : decode cX11_gathers 213 = .ok (.getfield 147, 3) := by decide +kernel
theorem dX11_gathers_216 : decode cX11_gathers 216 = .ok (.aload_n 0, 1) := by decide +kernel
theorem dX11_gathers_217 : decode cX11_gathers 217 = .ok (.getfield 98, 3) := by decide +kernel
theorem dX11_gathers_220 : decode cX11_gathers 220 = .ok (.lload_n 3, 1) := by decide +kernel
theorem dX11_gathers_221 : decode cX11_gathers 221 = .ok (.l2i, 1) := by decide +kernel
theorem dX11_gathers_222 : decode cX11_gathers 222 = .ok (.invokevirtual 133, 3) := by decide +kernel
theorem dX11_gathers_225 : decode cX11_gathers 225 = .ok (.goto 4, 3) := by decide +kernel
theorem dX11_gathers_228 : decode cX11_gathers 228 = .ok (.lconst 0, 1) := by decide +kernel
theorem dX11_gathers_229 : decode cX11_gathers 229 = .ok (.invokevirtual 69, 3) := by decide +kernel
theorem dX11_gathers_232 : decode cX11_gathers 232 = .ok (.iinc 2 1, 3) := by decide +kernel
theorem dX11_gathers_235 : decode cX11_gathers 235 = .ok (.goto (-126), 3) := by decide +kernel
theorem dX11_gathers_238 : decode cX11_gathers 238 = .ok (.aload_n 0, 1) := by decide +kernel
theorem dX11_gathers_239 : decode cX11_gathers 239 = .ok (.aload_n 0, 1) := by decide +kernel
theorem dX11_gathers_240 : decode cX11_gathers 240 = .ok (.getfield 111, 3) := by decide +kernel
theorem dX11_gathers_243 : decode cX11_gathers 243 = .ok (.aload_n 0, 1) := by decide +kernel
theorem dX11_gathers_244 : decode cX11_gathers 244 = .ok (.getfield 98, 3) := by decide +kernel
theorem dX11_gathers_247 : decode cX11_gathers 247 = .ok (.aload_n 0, 1) := by decide +kernel
theorem dX11_gathers_248 : decode cX11_gathers 248 = .ok (.getfield 95, 3) := by decide +kernel
theorem dX11_gathers_251 : decode cX11_gathers 251 = .ok (.aload_n 0, 1) := by decide +kernel
theorem dX11_gathers_252 : decode cX11_gathers 252 = .ok (.getfield 88, 3) := by decide +kernel
theorem dX11_gathers_255 : decode cX11_gathers 255 = .ok (.invokevirtual 261, 3) := by decide +kernel
theorem dX11_gathers_258 : decode cX11_gathers 258 = .ok (.iconst 1, 1) := by decide +kernel
theorem dX11_gathers_259 : decode cX11_gathers 259 = .ok (.ireturn, 1) := by decide +kernel
theorem dX11_compresses_0 : decode cX11_compresses 0 = .ok (.aload_n 0, 1) := by decide +kernel
theorem dX11_compresses_1 : decode cX11_compresses 1 = .ok (.getfield 47, 3) := by decide +kernel
theorem dX11_compresses_4 : decode cX11_compresses 4 = .ok (.ifCond .eq 68, 3) := by decide +kernel
theorem dX11_compresses_7 : decode cX11_compresses 7 = .ok (.aload_n 0, 1) := by decide +kernel
theorem dX11_compresses_8 : decode cX11_compresses 8 = .ok (.getfield 176, 3) := by decide +kernel
theorem dX11_compresses_11 : decode cX11_compresses 11 = .ok (.ifCond .ne 61, 3) := by decide +kernel
theorem dX11_compresses_14 : decode cX11_compresses 14 = .ok (.aload_n 0, 1) := by decide +kernel
theorem dX11_compresses_15 : decode cX11_compresses 15 = .ok (.aload_n 0, 1) := by decide +kernel
theorem dX11_compresses_16 : decode cX11_compresses 16 = .ok (.getfield 111, 3) := by decide +kernel
theorem dX11_compresses_19 : decode cX11_compresses 19 = .ok (.aload_n 0, 1) := by decide +kernel
theorem dX11_compresses_20 : decode cX11_compresses 20 = .ok (.getfield 98, 3) := by decide +kernel
theorem dX11_compresses_23 : decode cX11_compresses 23 = .ok (.invokevirtual 114, 3) := by decide +kernel
theorem dX11_compresses_26 : decode cX11_compresses 26 = .ok (.ifCond .eq 46, 3) := by decide +kernel
theorem dX11_compresses_29 : decode cX11_compresses 29 = .ok (.aload_n 0, 1) := by decide +kernel
theorem dX11_compresses_30 : decode cX11_compresses 30 = .ok (.aload_n 0, 1) := by decide +kernel
theorem dX11_compresses_31 : decode cX11_compresses 31 = .ok (.getfield 147, 3) := by decide +kernel
theorem dX11_compresses_34 : decode cX11_compresses 34 = .ok (.aload_n 0, 1) := by decide +kernel
theorem dX11_compresses_35 : decode cX11_compresses 35 = .ok (.getfield 98, 3) := by decide +kernel
theorem dX11_compresses_38 : decode cX11_compresses 38 = .ok (.invokevirtual 114, 3) := by decide +kernel
theorem dX11_compresses_41 : decode cX11_compresses 41 = .ok (.ifCond .eq 31, 3) := by decide +kernel
theorem dX11_compresses_44 : decode cX11_compresses 44 = .ok (.aload_n 0, 1) := by decide +kernel
theorem dX11_compresses_45 : decode cX11_compresses 45 = .ok (.aload_n 0, 1) := by decide +kernel
theorem dX11_compresses_46 : decode cX11_compresses 46 = .ok (.getfield 147, 3) := by decide +kernel
theorem dX11_compresses_49 : decode cX11_compresses 49 = .ok (.aload_n 0, 1) := by decide +kernel
theorem dX11_compresses_50 : decode cX11_compresses 50 = .ok (.getfield 95, 3) := by decide +kernel
theorem dX11_compresses_53 : decode cX11_compresses 53 = .ok (.invokevirtual 307, 3) := by decide +kernel
theorem dX11_compresses_56 : decode cX11_compresses 56 = .ok (.ifCond .ne 16, 3) := by decide +kernel
theorem dX11_compresses_59 : decode cX11_compresses 59 = .ok (.aload_n 0, 1) := by decide +kernel
theorem dX11_compresses_60 : decode cX11_compresses 60 = .ok (.aload_n 0, 1) := by decide +kernel
theorem dX11_compresses_61 : decode cX11_compresses 61 = .ok (.getfield 130, 3) := by decide +kernel
theorem dX11_compresses_64 : decode cX11_compresses 64 = .ok (.bipush 8, 2) := by decide +kernel
theorem dX11_compresses_66 : decode cX11_compresses 66 = .ok (.invokevirtual 307, 3) := by decide +kernel
theorem dX11_compresses_69 : decode cX11_compresses 69 = .ok (.ifCond .eq 5, 3) := by decide +kernel
theorem dX11_compresses_72 : decode cX11_compresses 72 = .ok (.iconst 0, 1) := by decide +kernel
theorem dX11_compresses_73 : decode cX11_compresses 73 = .ok (.ireturn, 1) := by decide +kernel
theorem dX11_compresses_74 : decode cX11_compresses 74 = .ok (.aload_n 0, 1) := by decide +kernel
theorem dX11_compresses_75 : decode cX11_compresses 75 = .ok (.invokevirtual 241, 3) := by decide +kernel
theorem dX11_compresses_78 : decode cX11_compresses 78 = .ok (.ifCond .ne 5, 3) := by decide +kernel
theorem dX11_compresses_81 : decode cX11_compresses 81 = .ok (.iconst 1, 1) := by decide +kernel
theorem dX11_compresses_82 : decode cX11_compresses 82 = .ok (.ireturn, 1) := by decide +kernel
theorem dX11_compresses_83 : decode cX11_compresses 83 = .ok (.iconst 0, 1) := by decide +kernel
theorem dX11_compresses_84 : decode cX11_compresses 84 = .ok (.istore_n 1, 1) := by decide +kernel
theorem dX11_compresses_85 : decode cX11_compresses 85 = .ok (.iconst 0, 1) := by decide +kernel
theorem dX11_compresses_86 : decode cX11_compresses 86 = .ok (.istore_n 2, 1) := by decide +kernel
theorem dX11_compresses_87 : decode cX11_compresses 87 = .ok (.iload_n 2, 1) := by decide +kernel
theorem dX11_compresses_88 : decode cX11_compresses 88 = .ok (.aload_n 0, 1) := by decide +kernel
theorem dX11_compresses_89 : decode cX11_compresses 89 = .ok (.getfield 88, 3) := by decide +kernel
theorem dX11_compresses_92 : decode cX11_compresses 92 = .ok (.if_icmp .ge 53, 3) := by decide +kernel
theorem dX11_compresses_95 : decode cX11_compresses 95 = .ok (.aload_n 0, 1) := by decide +kernel
theorem dX11_compresses_96 : decode cX11_compresses 96 = .ok (.aload_n 0, 1) := by decide +kernel
theorem dX11_compresses_97 : decode cX11_compresses 97 = .ok (.getfield 130, 3) := by decide +kernel
theorem dX11_compresses_100 : decode cX11_compresses 100 = .ok (.iload_n 2, 1) := by decide +kernel
theorem dX11_compresses_101 : decode cX11_compresses 101 = .ok (.invokevirtual 51, 3) := by decide +kernel
theorem dX11_compresses_104 : decode cX11_compresses 104 = .ok (.ifCond .ne 6, 3) := by decide +kernel
theorem dX11_compresses_107 : decode cX11_compresses 107 = .ok (.goto 32, 3) := by decide +kernel
theorem dX11_compresses_110 : decode cX11_compresses 110 = .ok (.aload_n 0, 1) := by decide +kernel
theorem dX11_compresses_111 : decode cX11_compresses 111 = .ok (.aload_n 0, 1) := by decide +kernel
theorem dX11_compresses_112 : decode cX11_compresses 112 = .ok (.getfield 111, 3) := by decide +kernel
theorem dX11_compresses_115 : decode cX11_compresses 115 = .ok (.aload_n 0, 1) := by decide +kernel
theorem dX11_compresses_116 : decode cX11_compresses 116 = .ok (.getfield 98, 3) := by decide +kernel
theorem dX11_compresses_119 : decode cX11_compresses 119 = .ok (.iload_n 1, 1) := by decide +kernel
theorem dX11_compresses_120 : decode cX11_compresses 120 = .ok (.aload_n 0, 1) := by decide +kernel
theorem dX11_compresses_121 : decode cX11_compresses 121 = .ok (.aload_n 0, 1) := by decide +kernel
theorem dX11_compresses_122 : decode cX11_compresses 122 = .ok (.getfield 147, 3) := by decide +kernel
theorem dX11_compresses_125 : decode cX11_compresses 125 = .ok (.aload_n 0, 1) := by decide +kernel
theorem dX11_compresses_126 : decode cX11_compresses 126 = .ok (.getfield 98, 3) := by decide +kernel
theorem dX11_compresses_129 : decode cX11_compresses 129 = .ok (.iload_n 2, 1) := by decide +kernel
theorem dX11_compresses_130 : decode cX11_compresses 130 = .ok (.invokevirtual 133, 3) := by decide +kernel
theorem dX11_compresses_133 : decode cX11_compresses 133 = .ok (.invokevirtual 69, 3) := by decide +kernel
theorem dX11_compresses_136 : decode cX11_compresses 136 = .ok (.iinc 1 1, 3) := by decide +kernel
theorem dX11_compresses_139 : decode cX11_compresses 139 = .ok (.iinc 2 1, 3) := by decide +kernel
theorem dX11_compresses_142 : decode cX11_compresses 142 = .ok (.goto (-55), 3) := by decide +kernel
theorem dX11_compresses_145 : decode cX11_compresses 145 = .ok (.aload_n 0, 1) := by decide +kernel
theorem dX11_compresses_146 : decode cX11_compresses 146 = .ok (.aload_n 0, 1) := by decide +kernel
theorem dX11_compresses_147 : decode cX11_compresses 147 = .ok (.getfield 111, 3) := by decide +kernel
theorem dX11_compresses_150 : decode cX11_compresses 150 = .ok (.aload_n 0, 1) := by decide +kernel
theorem dX11_compresses_151 : decode cX11_compresses 151 = .ok (.getfield 98, 3) := by decide +kernel
theorem dX11_compresses_154 : decode cX11_compresses 154 = .ok (.aload_n 0, 1) := by decide +kernel
theorem dX11_compresses_155 : decode cX11_compresses 155 = .ok (.getfield 95, 3) := by decide +kernel
theorem dX11_compresses_158 : decode cX11_compresses 158 = .ok (.iload_n 1, 1) := by decide +kernel
theorem dX11_compresses_159 : decode cX11_compresses 159 = .ok (.invokevirtual 261, 3) := by decide +kernel
theorem dX11_compresses_162 : decode cX11_compresses 162 = .ok (.iconst 1, 1) := by decide +kernel
theorem dX11_compresses_163 : decode cX11_compresses 163 = .ok (.ireturn, 1) := by decide +kernel
theorem dX11_wholes_0 : decode cX11_wholes 0 = .ok (.aload_n 0, 1) := by decide +kernel
theorem dX11_wholes_1 : decode cX11_wholes 1 = .ok (.getfield 130, 3) := by decide +kernel
theorem dX11_wholes_4 : decode cX11_wholes 4 = .ok (.iconst 1, 1) := by decide +kernel
theorem dX11_wholes_5 : decode cX11_wholes 5 = .ok (.iadd, 1) := by decide +kernel
theorem dX11_wholes_6 : decode cX11_wholes 6 = .ok (.istore_n 1, 1) := by decide +kernel
theorem dX11_wholes_7 : decode cX11_wholes 7 = .ok (.aload_n 0, 1) := by decide +kernel
theorem dX11_wholes_8 : decode cX11_wholes 8 = .ok (.getfield 47, 3) := by decide +kernel
theorem dX11_wholes_11 : decode cX11_wholes 11 = .ok (.ifCond .eq 42, 3) := by decide +kernel
theorem dX11_wholes_14 : decode cX11_wholes 14 = .ok (.iload_n 1, 1) := by decide +kernel
theorem dX11_wholes_15 : decode cX11_wholes 15 = .ok (.iconst 1, 1) := by decide +kernel
theorem dX11_wholes_16 : decode cX11_wholes 16 = .ok (.if_icmp .eq 19, 3) := by decide +kernel
theorem dX11_wholes_19 : decode cX11_wholes 19 = .ok (.iload_n 1, 1) := by decide +kernel
theorem dX11_wholes_20 : decode cX11_wholes 20 = .ok (.iconst 2, 1) := by decide +kernel
theorem dX11_wholes_21 : decode cX11_wholes 21 = .ok (.if_icmp .eq 14, 3) := by decide +kernel
theorem dX11_wholes_24 : decode cX11_wholes 24 = .ok (.iload_n 1, 1) := by decide +kernel
theorem dX11_wholes_25 : decode cX11_wholes 25 = .ok (.iconst 4, 1) := by decide +kernel
theorem dX11_wholes_26 : decode cX11_wholes 26 = .ok (.if_icmp .eq 9, 3) := by decide +kernel
theorem dX11_wholes_29 : decode cX11_wholes 29 = .ok (.iload_n 1, 1) := by decide +kernel
theorem dX11_wholes_30 : decode cX11_wholes 30 = .ok (.bipush 8, 2) := by decide +kernel
theorem dX11_wholes_32 : decode cX11_wholes 32 = .ok (.if_icmp .ne 21, 3) := by decide +kernel
theorem dX11_wholes_35 : decode cX11_wholes 35 = .ok (.aload_n 0, 1) := by decide +kernel
theorem dX11_wholes_36 : decode cX11_wholes 36 = .ok (.getfield 111, 3) := by decide +kernel
theorem dX11_wholes_39 : decode cX11_wholes 39 = .ok (.iload_n 1, 1) := by decide +kernel
theorem dX11_wholes_40 : decode cX11_wholes 40 = .ok (.irem, 1) := by decide +kernel
theorem dX11_wholes_41 : decode cX11_wholes 41 = .ok (.ifCond .ne 12, 3) := by decide +kernel
theorem dX11_wholes_44 : decode cX11_wholes 44 = .ok (.aload_n 0, 1) := by decide +kernel
theorem dX11_wholes_45 : decode cX11_wholes 45 = .ok (.getfield 147, 3) := by decide +kernel
theorem dX11_wholes_48 : decode cX11_wholes 48 = .ok (.iload_n 1, 1) := by decide +kernel
theorem dX11_wholes_49 : decode cX11_wholes 49 = .ok (.irem, 1) := by decide +kernel
theorem dX11_wholes_50 : decode cX11_wholes 50 = .ok (.ifCond .eq 5, 3) := by decide +kernel
theorem dX11_wholes_53 : decode cX11_wholes 53 = .ok (.iconst 0, 1) := by decide +kernel
theorem dX11_wholes_54 : decode cX11_wholes 54 = .ok (.ireturn, 1) := by decide +kernel
theorem dX11_wholes_55 : decode cX11_wholes 55 = .ok (.aload_n 0, 1) := by decide +kernel
theorem dX11_wholes_56 : decode cX11_wholes 56 = .ok (.getfield 176, 3) := by decide +kernel
theorem dX11_wholes_59 : decode cX11_wholes 59 = .ok (.istore_n 2, 1) := by decide +kernel
theorem dX11_wholes_60 : decode cX11_wholes 60 = .ok (.iload_n 2, 1) := by decide +kernel
theorem dX11_wholes_61 : decode cX11_wholes 61 = .ok (.iload_n 1, 1) := by decide +kernel
theorem dX11_wholes_62 : decode cX11_wholes 62 = .ok (.sipush 128, 3) := by decide +kernel
theorem dX11_wholes_65 : decode cX11_wholes 65 = .ok (.imul, 1) := by decide +kernel
theorem dX11_wholes_66 : decode cX11_wholes 66 = .ok (.aload_n 0, 1) := by decide +kernel
theorem dX11_wholes_67 : decode cX11_wholes 67 = .ok (.getfield 98, 3) := by decide +kernel
theorem dX11_wholes_70 : decode cX11_wholes 70 = .ok (.idiv, 1) := by decide +kernel
theorem dX11_wholes_71 : decode cX11_wholes 71 = .ok (.if_icmp .ge 35, 3) := by decide +kernel
theorem dX11_wholes_74 : decode cX11_wholes 74 = .ok (.aload_n 0, 1) := by decide +kernel
theorem dX11_wholes_75 : decode cX11_wholes 75 = .ok (.aload_n 0, 1) := by decide +kernel
theorem dX11_wholes_76 : decode cX11_wholes 76 = .ok (.getfield 111, 3) := by decide +kernel
theorem dX11_wholes_79 : decode cX11_wholes 79 = .ok (.aload_n 0, 1) := by decide +kernel
theorem dX11_wholes_80 : decode cX11_wholes 80 = .ok (.getfield 98, 3) := by decide +kernel
theorem dX11_wholes_83 : decode cX11_wholes 83 = .ok (.iload_n 2, 1) := by decide +kernel
theorem dX11_wholes_84 : decode cX11_wholes 84 = .ok (.aload_n 0, 1) := by decide +kernel
theorem dX11_wholes_85 : decode cX11_wholes 85 = .ok (.aload_n 0, 1) := by decide +kernel
theorem dX11_wholes_86 : decode cX11_wholes 86 = .ok (.getfield 147, 3) := by decide +kernel
theorem dX11_wholes_89 : decode cX11_wholes 89 = .ok (.aload_n 0, 1) := by decide +kernel
theorem dX11_wholes_90 : decode cX11_wholes 90 = .ok (.getfield 98, 3) := by decide +kernel
theorem dX11_wholes_93 : decode cX11_wholes 93 = .ok (.iload_n 2, 1) := by decide +kernel
theorem dX11_wholes_94 : decode cX11_wholes 94 = .ok (.invokevirtual 133, 3) := by decide +kernel
theorem dX11_wholes_97 : decode cX11_wholes 97 = .ok (.invokevirtual 69, 3) := by decide +kernel
theorem dX11_wholes_100 : decode cX11_wholes 100 = .ok (.iinc 2 1, 3) := by decide +kernel
theorem dX11_wholes_103 : decode cX11_wholes 103 = .ok (.goto (-43), 3) := by decide +kernel
theorem dX11_wholes_106 : decode cX11_wholes 106 = .ok (.iconst 1, 1) := by decide +kernel
theorem dX11_wholes_107 : decode cX11_wholes 107 = .ok (.ireturn, 1) := by decide +kernel
theorem dX11_reduces_0 : decode cX11_reduces 0 = .ok (.iload_n 2, 1) := by decide +kernel
theorem dX11_reduces_1 : decode cX11_reduces 1 = .ok (.ifCond .eq 12, 3) := by decide +kernel
theorem dX11_reduces_4 : decode cX11_reduces 4 = .ok (.iconst 2, 1) := by decide +kernel
theorem dX11_reduces_5 : decode cX11_reduces 5 = .ok (.aload_n 0, 1) := by decide +kernel
theorem dX11_reduces_6 : decode cX11_reduces 6 = .ok (.getfield 98, 3) := by decide +kernel
theorem dX11_reduces_9 : decode cX11_reduces 9 = .ok (.imul, 1) := by decide +kernel
theorem dX11_reduces_10 : decode cX11_reduces 10 = .ok (.goto 7, 3) := by decide +kernel
theorem dX11_reduces_13 : decode cX11_reduces 13 = .ok (.aload_n 0, 1) := by decide +kernel
theorem dX11_reduces_14 : decode cX11_reduces 14 = .ok (.getfield 98, 3) := by decide +kernel
theorem dX11_reduces_17 : decode cX11_reduces 17 = .ok (.istore 4, 2) := by decide +kernel
theorem dX11_reduces_19 : decode cX11_reduces 19 = .ok (.iload 4, 2) := by decide +kernel
theorem dX11_reduces_21 : decode cX11_reduces 21 = .ok (.bipush 32, 2) := by decide +kernel
theorem dX11_reduces_23 : decode cX11_reduces 23 = .ok (.if_icmp .gt 25, 3) := by decide +kernel
theorem dX11_reduces_26 : decode cX11_reduces 26 = .ok (.aload_n 0, 1) := by decide +kernel
theorem dX11_reduces_27 : decode cX11_reduces 27 = .ok (.aload_n 0, 1) := by decide +kernel
theorem dX11_reduces_28 : decode cX11_reduces 28 = .ok (.getfield 147, 3) := by decide +kernel
theorem dX11_reduces_31 : decode cX11_reduces 31 = .ok (.aload_n 0, 1) := by decide +kernel
theorem dX11_reduces_32 : decode cX11_reduces 32 = .ok (.getfield 98, 3) := by decide +kernel
theorem dX11_reduces_35 : decode cX11_reduces 35 = .ok (.invokevirtual 114, 3) := by decide +kernel
theorem dX11_reduces_38 : decode cX11_reduces 38 = .ok (.ifCond .eq 10, 3) := by decide +kernel
theorem dX11_reduces_41 : decode cX11_reduces 41 = .ok (.aload_n 0, 1) := by decide +kernel
theorem dX11_reduces_42 : decode cX11_reduces 42 = .ok (.getfield 176, 3) := by decide +kernel
theorem dX11_reduces_45 : decode cX11_reduces 45 = .ok (.ifCond .eq 5, 3) := by decide +kernel
theorem dX11_reduces_48 : decode cX11_reduces 48 = .ok (.iconst 0, 1) := by decide +kernel
theorem dX11_reduces_49 : decode cX11_reduces 49 = .ok (.ireturn, 1) := by decide +kernel
theorem dX11_reduces_50 : decode cX11_reduces 50 = .ok (.aload_n 0, 1) := by decide +kernel
theorem dX11_reduces_51 : decode cX11_reduces 51 = .ok (.invokevirtual 241, 3) := by decide +kernel
theorem dX11_reduces_54 : decode cX11_reduces 54 = .ok (.ifCond .ne 5, 3) := by decide +kernel
theorem dX11_reduces_57 : decode cX11_reduces 57 = .ok (.iconst 1, 1) := by decide +kernel
theorem dX11_reduces_58 : decode cX11_reduces 58 = .ok (.ireturn, 1) := by decide +kernel
theorem dX11_reduces_59 : decode cX11_reduces 59 = .ok (.aload_n 0, 1) := by decide +kernel
theorem dX11_reduces_60 : decode cX11_reduces 60 = .ok (.aload_n 0, 1) := by decide +kernel
theorem dX11_reduces_61 : decode cX11_reduces 61 = .ok (.getfield 130, 3) := by decide +kernel
theorem dX11_reduces_64 : decode cX11_reduces 64 = .ok (.iload 4, 2) := by decide +kernel
theorem dX11_reduces_66 : decode cX11_reduces 66 = .ok (.iconst 0, 1) := by decide +kernel
theorem dX11_reduces_67 : decode cX11_reduces 67 = .ok (.invokevirtual 133, 3) := by decide +kernel
theorem dX11_reduces_70 : decode cX11_reduces 70 = .ok (.lstore 5, 2) := by decide +kernel
theorem dX11_reduces_72 : decode cX11_reduces 72 = .ok (.iconst 0, 1) := by decide +kernel
theorem dX11_reduces_73 : decode cX11_reduces 73 = .ok (.istore 7, 2) := by decide +kernel
theorem dX11_reduces_75 : decode cX11_reduces 75 = .ok (.iload 7, 2) := by decide +kernel
theorem dX11_reduces_77 : decode cX11_reduces 77 = .ok (.aload_n 0, 1) := by decide +kernel
theorem dX11_reduces_78 : decode cX11_reduces 78 = .ok (.getfield 88, 3) := by decide +kernel
theorem dX11_reduces_81 : decode cX11_reduces 81 = .ok (.if_icmp .ge 80, 3) := by decide +kernel
theorem dX11_reduces_84 : decode cX11_reduces 84 = .ok (.aload_n 0, 1) := by decide +kernel
theorem dX11_reduces_85 : decode cX11_reduces 85 = .ok (.iload 7, 2) := by decide +kernel
theorem dX11_reduces_87 : decode cX11_reduces 87 = .ok (.invokevirtual 244, 3) := by decide +kernel
theorem dX11_reduces_90 : decode cX11_reduces 90 = .ok (.ifCond .ne 6, 3) := by decide +kernel
theorem dX11_reduces_93 : decode cX11_reduces 93 = .ok (.goto 62, 3) := by decide +kernel
theorem dX11_reduces_96 : decode cX11_reduces 96 = .ok (.aload_n 0, 1) := by decide +kernel
theorem dX11_reduces_97 : decode cX11_reduces 97 = .ok (.aload_n 0, 1) := by decide +kernel
theorem dX11_reduces_98 : decode cX11_reduces 98 = .ok (.getfield 147, 3) := by decide +kernel
theorem dX11_reduces_101 : decode cX11_reduces 101 = .ok (.aload_n 0, 1) := by decide +kernel
theorem dX11_reduces_102 : decode cX11_reduces 102 = .ok (.getfield 98, 3) := by decide +kernel
theorem dX11_reduces_105 : decode cX11_reduces 105 = .ok (.iload 7, 2) := by decide +kernel
theorem dX11_reduces_107 : decode cX11_reduces 107 = .ok (.invokevirtual 133, 3) := by decide +kernel
theorem dX11_reduces_110 : decode cX11_reduces 110 = .ok (.lstore 8, 2) := by decide +kernel
theorem dX11_reduces_112 : decode cX11_reduces 112 = .ok (.iload_n 2, 1) := by decide +kernel
theorem dX11_reduces_113 : decode cX11_reduces 113 = .ok (.ifCond .eq 23, 3) := by decide +kernel
theorem dX11_reduces_116 : decode cX11_reduces 116 = .ok (.iload_n 3, 1) := by decide +kernel
theorem dX11_reduces_117 : decode cX11_reduces 117 = .ok (.ifCond .eq 19, 3) := by decide +kernel
theorem dX11_reduces_120 : decode cX11_reduces 120 = .ok (.lload 8, 2) := by decide +kernel
theorem dX11_reduces_122 : decode cX11_reduces 122 = .ok (.aload_n 0, 1) := by decide +kernel
theorem dX11_reduces_123 : decode cX11_reduces 123 = .ok (.getfield 98, 3) := by decide +kernel
theorem dX11_reduces_126 : decode cX11_reduces 126 = .ok (.invokestatic 206, 3) := by decide +kernel
theorem dX11_reduces_129 : decode cX11_reduces 129 = .ok (.iload 4, 2) := by decide +kernel
theorem dX11_reduces_131 : decode cX11_reduces 131 = .ok (.invokestatic 57, 3) := by decide +kernel
theorem dX11_reduces_134 : decode cX11_reduces 134 = .ok (.lstore 8, 2) := by decide +kernel
theorem dX11_reduces_136 : decode cX11_reduces 136 = .ok (.aload_n 0, 1) := by decide +kernel
theorem dX11_reduces_137 : decode cX11_reduces 137 = .ok (.iload_n 1, 1) := by decide +kernel
theorem dX11_reduces_138 : decode cX11_reduces 138 = .ok (.lload 5, 2) := by decide +kernel
theorem dX11_reduces_140 : decode cX11_reduces 140 = .ok (.lload 8, 2) := by decide +kernel
theorem dX11_reduces_142 : decode cX11_reduces 142 = .ok (.lconst 0, 1) := by decide +kernel
theorem dX11_reduces_143 : decode cX11_reduces 143 = .ok (.iload 4, 2) := by decide +kernel
theorem dX11_reduces_145 : decode cX11_reduces 145 = .ok (.invokevirtual 257, 3) := by decide +kernel
theorem dX11_reduces_148 : decode cX11_reduces 148 = .ok (.iload 4, 2) := by decide +kernel
theorem dX11_reduces_150 : decode cX11_reduces 150 = .ok (.invokestatic 57, 3) := by decide +kernel
theorem dX11_reduces_153 : decode cX11_reduces 153 = .ok (.lstore 5, 2) := by decide +kernel
theorem dX11_reduces_155 : decode cX11_reduces 155 = .ok (.iinc 7 1, 3) := by decide +kernel
theorem dX11_reduces_158 : decode cX11_reduces 158 = .ok (.goto (-83), 3) := by decide +kernel
theorem dX11_reduces_161 : decode cX11_reduces 161 = .ok (.aload_n 0, 1) := by decide +kernel
theorem dX11_reduces_162 : decode cX11_reduces 162 = .ok (.aload_n 0, 1) := by decide +kernel
theorem dX11_reduces_163 : decode cX11_reduces 163 = .ok (.getfield 111, 3) := by decide +kernel
theorem dX11_reduces_166 : decode cX11_reduces 166 = .ok (.iload 4, 2) := by decide +kernel
theorem dX11_reduces_168 : decode cX11_reduces 168 = .ok (.iconst 0, 1) := by decide +kernel
theorem dX11_reduces_169 : decode cX11_reduces 169 = .ok (.lload 5, 2) := by decide +kernel
theorem dX11_reduces_171 : decode cX11_reduces 171 = .ok (.invokevirtual 69, 3) := by decide +kernel
theorem dX11_reduces_174 : decode cX11_reduces 174 = .ok (.aload_n 0, 1) := by decide +kernel
theorem dX11_reduces_175 : decode cX11_reduces 175 = .ok (.aload_n 0, 1) := by decide +kernel
theorem dX11_reduces_176 : decode cX11_reduces 176 = .ok (.getfield 111, 3) := by decide +kernel
theorem dX11_reduces_179 : decode cX11_reduces 179 = .ok (.iload 4, 2) := by decide +kernel
theorem dX11_reduces_181 : decode cX11_reduces 181 = .ok (.bipush 8, 2) := by decide +kernel
theorem dX11_reduces_183 : decode cX11_reduces 183 = .ok (.iconst 1, 1) := by decide +kernel
theorem dX11_reduces_184 : decode cX11_reduces 184 = .ok (.invokevirtual 261, 3) := by decide +kernel
theorem dX11_reduces_187 : decode cX11_reduces 187 = .ok (.iconst 1, 1) := by decide +kernel
theorem dX11_reduces_188 : decode cX11_reduces 188 = .ok (.ireturn, 1) := by decide +kernel
theorem dX11_widens_0 : decode cX11_widens 0 = .ok (.iconst 2, 1) := by decide +kernel
theorem dX11_widens_1 : decode cX11_widens 1 = .ok (.aload_n 0, 1) := by decide +kernel
theorem dX11_widens_2 : decode cX11_widens 2 = .ok (.getfield 98, 3) := by decide +kernel
theorem dX11_widens_5 : decode cX11_widens 5 = .ok (.imul, 1) := by decide +kernel
theorem dX11_widens_6 : decode cX11_widens 6 = .ok (.istore 4, 2) := by decide +kernel
theorem dX11_widens_8 : decode cX11_widens 8 = .ok (.aload_n 0, 1) := by decide +kernel
theorem dX11_widens_9 : decode cX11_widens 9 = .ok (.iload 4, 2) := by decide +kernel
theorem dX11_widens_11 : decode cX11_widens 11 = .ok (.aload_n 0, 1) := by decide +kernel
theorem dX11_widens_12 : decode cX11_widens 12 = .ok (.getfield 147, 3) := by decide +kernel
theorem dX11_widens_15 : decode cX11_widens 15 = .ok (.iload_n 3, 1) := by decide +kernel
theorem dX11_widens_16 : decode cX11_widens 16 = .ok (.ifCond .eq 8, 3) := by decide +kernel
theorem dX11_widens_19 : decode cX11_widens 19 = .ok (.iload 4, 2) := by decide +kernel
theorem dX11_widens_21 : decode cX11_widens 21 = .ok (.goto 7, 3) := by decide +kernel
theorem dX11_widens_24 : decode cX11_widens 24 = .ok (.aload_n 0, 1) := by decide +kernel
theorem dX11_widens_25 : decode cX11_widens 25 = .ok (.getfield 98, 3) := by decide +kernel
theorem dX11_widens_28 : decode cX11_widens 28 = .ok (.aload_n 0, 1) := by decide +kernel
theorem dX11_widens_29 : decode cX11_widens 29 = .ok (.invokevirtual 234, 3) := by decide +kernel
theorem dX11_widens_32 : decode cX11_widens 32 = .ok (.aload_n 0, 1) := by decide +kernel
theorem dX11_widens_33 : decode cX11_widens 33 = .ok (.getfield 98, 3) := by decide +kernel
theorem dX11_widens_36 : decode cX11_widens 36 = .ok (.invokevirtual 237, 3) := by decide +kernel
theorem dX11_widens_39 : decode cX11_widens 39 = .ok (.ifCond .ne 5, 3) := by decide +kernel
theorem dX11_widens_42 : decode cX11_widens 42 = .ok (.iconst 0, 1) := by decide +kernel
theorem dX11_widens_43 : decode cX11_widens 43 = .ok (.ireturn, 1) := by decide +kernel
theorem dX11_widens_44 : decode cX11_widens 44 = .ok (.aload_n 0, 1) := by decide +kernel
theorem dX11_widens_45 : decode cX11_widens 45 = .ok (.invokevirtual 241, 3) := by decide +kernel
theorem dX11_widens_48 : decode cX11_widens 48 = .ok (.ifCond .ne 5, 3) := by decide +kernel
theorem dX11_widens_51 : decode cX11_widens 51 = .ok (.iconst 1, 1) := by decide +kernel
theorem dX11_widens_52 : decode cX11_widens 52 = .ok (.ireturn, 1) := by decide +kernel
theorem dX11_widens_53 : decode cX11_widens 53 = .ok (.aload_n 0, 1) := by decide +kernel
theorem dX11_widens_54 : decode cX11_widens 54 = .ok (.getfield 176, 3) := by decide +kernel
theorem dX11_widens_57 : decode cX11_widens 57 = .ok (.istore 5, 2) := by decide +kernel
theorem dX11_widens_59 : decode cX11_widens 59 = .ok (.iload 5, 2) := by decide +kernel
theorem dX11_widens_61 : decode cX11_widens 61 = .ok (.aload_n 0, 1) := by decide +kernel
theorem dX11_widens_62 : decode cX11_widens 62 = .ok (.getfield 88, 3) := by decide +kernel
theorem dX11_widens_65 : decode cX11_widens 65 = .ok (.if_icmp .ge 133, 3) := by decide +kernel
theorem dX11_widens_68 : decode cX11_widens 68 = .ok (.aload_n 0, 1) := by decide +kernel
theorem dX11_widens_69 : decode cX11_widens 69 = .ok (.iload 5, 2) := by decide +kernel
theorem dX11_widens_71 : decode cX11_widens 71 = .ok (.invokevirtual 244, 3) := by decide +kernel
theorem dX11_widens_74 : decode cX11_widens 74 = .ok (.ifCond .ne 18, 3) := by decide +kernel
theorem dX11_widens_77 : decode cX11_widens 77 = .ok (.aload_n 0, 1) := by decide +kernel
theorem dX11_widens_78 : decode cX11_widens 78 = .ok (.aload_n 0, 1) := by decide +kernel
theorem dX11_widens_79 : decode cX11_widens 79 = .ok (.getfield 111, 3) := by decide +kernel
theorem dX11_widens_82 : decode cX11_widens 82 = .ok (.iload 4, 2) := by decide +kernel
theorem dX11_widens_84 : decode cX11_widens 84 = .ok (.iload 5, 2) := by decide +kernel
theorem dX11_widens_86 : decode cX11_widens 86 = .ok (.invokevirtual 247, 3) := by decide +kernel
theorem dX11_widens_89 : decode cX11_widens 89 = .ok (.goto 103, 3) := by decide +kernel
theorem dX11_widens_92 : decode cX11_widens 92 = .ok (.aload_n 0, 1) := by decide +kernel
theorem dX11_widens_93 : decode cX11_widens 93 = .ok (.aload_n 0, 1) := by decide +kernel
theorem dX11_widens_94 : decode cX11_widens 94 = .ok (.getfield 147, 3) := by decide +kernel
theorem dX11_widens_97 : decode cX11_widens 97 = .ok (.iload_n 3, 1) := by decide +kernel
theorem dX11_widens_98 : decode cX11_widens 98 = .ok (.ifCond .eq 8, 3) := by decide +kernel
theorem dX11_widens_101 : decode cX11_widens 101 = .ok (.iload 4, 2) := by decide +kernel
theorem dX11_widens_103 : decode cX11_widens 103 = .ok (.goto 7, 3) := by decide +kernel
theorem dX11_widens_106 : decode cX11_widens 106 = .ok (.aload_n 0, 1) := by decide +kernel
theorem dX11_widens_107 : decode cX11_widens 107 = .ok (.getfield 98, 3) := by decide +kernel
theorem dX11_widens_110 : decode cX11_widens 110 = .ok (.iload 5, 2) := by decide +kernel
theorem dX11_widens_112 : decode cX11_widens 112 = .ok (.invokevirtual 133, 3) := by decide +kernel
theorem dX11_widens_115 : decode cX11_widens 115 = .ok (.lstore 6, 2) := by decide +kernel
theorem dX11_widens_117 : decode cX11_widens 117 = .ok (.aload_n 0, 1) := by decide +kernel
theorem dX11_widens_118 : decode cX11_widens 118 = .ok (.aload_n 0, 1) := by decide +kernel
theorem dX11_widens_119 : decode cX11_widens 119 = .ok (.getfield 98, 3) := by decide +kernel
theorem dX11_widens_122 : decode cX11_widens 122 = .ok (.iload 5, 2) := by decide +kernel
theorem dX11_widens_124 : decode cX11_widens 124 = .ok (.invokevirtual 254, 3) := by decide +kernel
theorem dX11_widens_127 : decode cX11_widens 127 = .ok (.lstore 8, 2) := by decide +kernel
theorem dX11_widens_129 : decode cX11_widens 129 = .ok (.iload_n 1, 1) := by decide +kernel
theorem dX11_widens_130 : decode cX11_widens 130 = .ok (.ifCond .eq 18, 3) := by decide +kernel
theorem dX11_widens_133 : decode cX11_widens 133 = .ok (.iload_n 3, 1) := by decide +kernel
theorem dX11_widens_134 : decode cX11_widens 134 = .ok (.ifCond .ne 14, 3) := by decide +kernel
theorem dX11_widens_137 : decode cX11_widens 137 = .ok (.lload 6, 2) := by decide +kernel
theorem dX11_widens_139 : decode cX11_widens 139 = .ok (.aload_n 0, 1) := by decide +kernel
theorem dX11_widens_140 : decode cX11_widens 140 = .ok (.getfield 98, 3) := by decide +kernel
theorem dX11_widens_143 : decode cX11_widens 143 = .ok (.invokestatic 206, 3) := by decide +kernel
theorem dX11_widens_146 : decode cX11_widens 146 = .ok (.lstore 6, 2) := by decide +kernel
theorem dX11_widens_148 : decode cX11_widens 148 = .ok (.iload_n 1, 1) := by decide +kernel
theorem dX11_widens_149 : decode cX11_widens 149 = .ok (.ifCond .eq 14, 3) := by decide +kernel
theorem dX11_widens_152 : decode cX11_widens 152 = .ok (.lload 8, 2) := by decide +kernel
theorem dX11_widens_154 : decode cX11_widens 154 = .ok (.aload_n 0, 1) := by decide +kernel
theorem dX11_widens_155 : decode cX11_widens 155 = .ok (.getfield 98, 3) := by decide +kernel
theorem dX11_widens_158 : decode cX11_widens 158 = .ok (.invokestatic 206, 3) := by decide +kernel
theorem dX11_widens_161 : decode cX11_widens 161 = .ok (.lstore 8, 2) := by decide +kernel
theorem dX11_widens_163 : decode cX11_widens 163 = .ok (.aload_n 0, 1) := by decide +kernel
theorem dX11_widens_164 : decode cX11_widens 164 = .ok (.aload_n 0, 1) := by decide +kernel
theorem dX11_widens_165 : decode cX11_widens 165 = .ok (.getfield 111, 3) := by decide +kernel
theorem dX11_widens_168 : decode cX11_widens 168 = .ok (.iload 4, 2) := by decide +kernel
theorem dX11_widens_170 : decode cX11_widens 170 = .ok (.iload 5, 2) := by decide +kernel
theorem dX11_widens_172 : decode cX11_widens 172 = .ok (.iload_n 2, 1) := by decide +kernel
theorem dX11_widens_173 : decode cX11_widens 173 = .ok (.ifCond .eq 11, 3) := by decide +kernel
theorem dX11_widens_176 : decode cX11_widens 176 = .ok (.lload 6, 2) := by decide +kernel
theorem dX11_widens_178 : decode cX11_widens 178 = .ok (.lload 8, 2) := by decide +kernel
theorem dX11_widens_180 : decode cX11_widens 180 = .ok (.lsub, 1) := by decide +kernel
theorem dX11_widens_181 : decode cX11_widens 181 = .ok (.goto 8, 3) := by decide +kernel
theorem dX11_widens_184 : decode cX11_widens 184 = .ok (.lload 6, 2) := by decide +kernel
theorem dX11_widens_186 : decode cX11_widens 186 = .ok (.lload 8, 2) := by decide +kernel
theorem dX11_widens_188 : decode cX11_widens 188 = .ok (.ladd, 1) := by decide +kernel
theorem dX11_widens_189 : decode cX11_widens 189 = .ok (.invokevirtual 69, 3) := by decide +kernel
theorem dX11_widens_192 : decode cX11_widens 192 = .ok (.iinc 5 1, 3) := by decide +kernel
theorem dX11_widens_195 : decode cX11_widens 195 = .ok (.goto (-136), 3) := by decide +kernel
theorem dX11_widens_198 : decode cX11_widens 198 = .ok (.aload_n 0, 1) := by decide +kernel
theorem dX11_widens_199 : decode cX11_widens 199 = .ok (.aload_n 0, 1) := by decide +kernel
theorem dX11_widens_200 : decode cX11_widens 200 = .ok (.getfield 111, 3) := by decide +kernel
theorem dX11_widens_203 : decode cX11_widens 203 = .ok (.iload 4, 2) := by decide +kernel
theorem dX11_widens_205 : decode cX11_widens 205 = .ok (.iconst 2, 1) := by decide +kernel
theorem dX11_widens_206 : decode cX11_widens 206 = .ok (.aload_n 0, 1) := by decide +kernel
theorem dX11_widens_207 : decode cX11_widens 207 = .ok (.getfield 95, 3) := by decide +kernel
theorem dX11_widens_210 : decode cX11_widens 210 = .ok (.imul, 1) := by decide +kernel
theorem dX11_widens_211 : decode cX11_widens 211 = .ok (.aload_n 0, 1) := by decide +kernel
theorem dX11_widens_212 : decode cX11_widens 212 = .ok (.getfield 88, 3) := by decide +kernel
theorem dX11_widens_215 : decode cX11_widens 215 = .ok (.invokevirtual 261, 3) := by decide +kernel
theorem dX11_widens_218 : decode cX11_widens 218 = .ok (.iconst 1, 1) := by decide +kernel
theorem dX11_widens_219 : decode cX11_widens 219 = .ok (.ireturn, 1) := by decide +kernel
theorem dX11_multiplies_0 : decode cX11_multiplies 0 = .ok (.iconst 2, 1) := by decide +kernel
theorem dX11_multiplies_1 : decode cX11_multiplies 1 = .ok (.aload_n 0, 1) := by decide +kernel
theorem dX11_multiplies_2 : decode cX11_multiplies 2 = .ok (.getfield 98, 3) := by decide +kernel
theorem dX11_multiplies_5 : decode cX11_multiplies 5 = .ok (.imul, 1) := by decide +kernel
theorem dX11_multiplies_6 : decode cX11_multiplies 6 = .ok (.istore 4, 2) := by decide +kernel
theorem dX11_multiplies_8 : decode cX11_multiplies 8 = .ok (.aload_n 0, 1) := by decide +kernel
theorem dX11_multiplies_9 : decode cX11_multiplies 9 = .ok (.iload 4, 2) := by decide +kernel
theorem dX11_multiplies_11 : decode cX11_multiplies 11 = .ok (.aload_n 0, 1) := by decide +kernel
theorem dX11_multiplies_12 : decode cX11_multiplies 12 = .ok (.getfield 147, 3) := by decide +kernel
theorem dX11_multiplies_15 : decode cX11_multiplies 15 = .ok (.aload_n 0, 1) := by decide +kernel
theorem dX11_multiplies_16 : decode cX11_multiplies 16 = .ok (.getfield 98, 3) := by decide +kernel
theorem dX11_multiplies_19 : decode cX11_multiplies 19 = .ok (.aload_n 0, 1) := by decide +kernel
theorem dX11_multiplies_20 : decode cX11_multiplies 20 = .ok (.invokevirtual 234, 3) := by decide +kernel
theorem dX11_multiplies_23 : decode cX11_multiplies 23 = .ok (.aload_n 0, 1) := by decide +kernel
theorem dX11_multiplies_24 : decode cX11_multiplies 24 = .ok (.getfield 98, 3) := by decide +kernel
theorem dX11_multiplies_27 : decode cX11_multiplies 27 = .ok (.invokevirtual 237, 3) := by decide +kernel
theorem dX11_multiplies_30 : decode cX11_multiplies 30 = .ok (.ifCond .ne 5, 3) := by decide +kernel
theorem dX11_multiplies_33 : decode cX11_multiplies 33 = .ok (.iconst 0, 1) := by decide +kernel
theorem dX11_multiplies_34 : decode cX11_multiplies 34 = .ok (.ireturn, 1) := by decide +kernel
theorem dX11_multiplies_35 : decode cX11_multiplies 35 = .ok (.aload_n 0, 1) := by decide +kernel
theorem dX11_multiplies_36 : decode cX11_multiplies 36 = .ok (.invokevirtual 241, 3) := by decide +kernel
theorem dX11_multiplies_39 : decode cX11_multiplies 39 = .ok (.ifCond .ne 5, 3) := by decide +kernel
theorem dX11_multiplies_42 : decode cX11_multiplies 42 = .ok (.iconst 1, 1) := by decide +kernel
theorem dX11_multiplies_43 : decode cX11_multiplies 43 = .ok (.ireturn, 1) := by decide +kernel
theorem dX11_multiplies_44 : decode cX11_multiplies 44 = .ok (.aload_n 0, 1) := by decide +kernel
theorem dX11_multiplies_45 : decode cX11_multiplies 45 = .ok (.getfield 176, 3) := by decide +kernel
theorem dX11_multiplies_48 : decode cX11_multiplies 48 = .ok (.istore 5, 2) := by decide +kernel
theorem dX11_multiplies_50 : decode cX11_multiplies 50 = .ok (.iload 5, 2) := by decide +kernel
theorem dX11_multiplies_52 : decode cX11_multiplies 52 = .ok (.aload_n 0, 1) := by decide +kernel
theorem dX11_multiplies_53 : decode cX11_multiplies 53 = .ok (.getfield 88, 3) := by decide +kernel
theorem dX11_multiplies_56 : decode cX11_multiplies 56 = .ok (.if_icmp .ge 129, 3) := by decide +kernel
theorem dX11_multiplies_59 : decode cX11_multiplies 59 = .ok (.aload_n 0, 1) := by decide +kernel
theorem dX11_multiplies_60 : decode cX11_multiplies 60 = .ok (.iload 5, 2) := by decide +kernel
theorem dX11_multiplies_62 : decode cX11_multiplies 62 = .ok (.invokevirtual 244, 3) := by decide +kernel
theorem dX11_multiplies_65 : decode cX11_multiplies 65 = .ok (.ifCond .ne 18, 3) := by decide +kernel
theorem dX11_multiplies_68 : decode cX11_multiplies 68 = .ok (.aload_n 0, 1) := by decide +kernel
theorem dX11_multiplies_69 : decode cX11_multiplies 69 = .ok (.aload_n 0, 1) := by decide +kernel
theorem dX11_multiplies_70 : decode cX11_multiplies 70 = .ok (.getfield 111, 3) := by decide +kernel
theorem dX11_multiplies_73 : decode cX11_multiplies 73 = .ok (.iload 4, 2) := by decide +kernel
theorem dX11_multiplies_75 : decode cX11_multiplies 75 = .ok (.iload 5, 2) := by decide +kernel
theorem dX11_multiplies_77 : decode cX11_multiplies 77 = .ok (.invokevirtual 247, 3) := by decide +kernel
theorem dX11_multiplies_80 : decode cX11_multiplies 80 = .ok (.goto 99, 3) := by decide +kernel
theorem dX11_multiplies_83 : decode cX11_multiplies 83 = .ok (.aload_n 0, 1) := by decide +kernel
theorem dX11_multiplies_84 : decode cX11_multiplies 84 = .ok (.aload_n 0, 1) := by decide +kernel
theorem dX11_multiplies_85 : decode cX11_multiplies 85 = .ok (.getfield 147, 3) := by decide +kernel
theorem dX11_multiplies_88 : decode cX11_multiplies 88 = .ok (.aload_n 0, 1) := by decide +kernel
theorem dX11_multiplies_89 : decode cX11_multiplies 89 = .ok (.getfield 98, 3) := by decide +kernel
theorem dX11_multiplies_92 : decode cX11_multiplies 92 = .ok (.iload 5, 2) := by decide +kernel
theorem dX11_multiplies_94 : decode cX11_multiplies 94 = .ok (.invokevirtual 133, 3) := by decide +kernel
theorem dX11_multiplies_97 : decode cX11_multiplies 97 = .ok (.lstore 6, 2) := by decide +kernel
theorem dX11_multiplies_99 : decode cX11_multiplies 99 = .ok (.aload_n 0, 1) := by decide +kernel
theorem dX11_multiplies_100 : decode cX11_multiplies 100 = .ok (.aload_n 0, 1) := by decide +kernel
theorem dX11_multiplies_101 : decode cX11_multiplies 101 = .ok (.getfield 98, 3) := by decide +kernel
theorem dX11_multiplies_104 : decode cX11_multiplies 104 = .ok (.iload 5, 2) := by decide +kernel
theorem dX11_multiplies_106 : decode cX11_multiplies 106 = .ok (.invokevirtual 254, 3) := by decide +kernel
theorem dX11_multiplies_109 : decode cX11_multiplies 109 = .ok (.lstore 8, 2) := by decide +kernel
theorem dX11_multiplies_111 : decode cX11_multiplies 111 = .ok (.iload_n 1, 1) := by decide +kernel
theorem dX11_multiplies_112 : decode cX11_multiplies 112 = .ok (.ifCond .eq 14, 3) := by decide +kernel
theorem dX11_multiplies_115 : decode cX11_multiplies 115 = .ok (.lload 6, 2) := by decide +kernel
theorem dX11_multiplies_117 : decode cX11_multiplies 117 = .ok (.aload_n 0, 1) := by decide +kernel
theorem dX11_multiplies_118 : decode cX11_multiplies 118 = .ok (.getfield 98, 3) := by decide +kernel
theorem dX11_multiplies_121 : decode cX11_multiplies 121 = .ok (.invokestatic 206, 3) := by decide +kernel
theorem dX11_multiplies_124 : decode cX11_multiplies 124 = .ok (.lstore 6, 2) := by decide +kernel
theorem dX11_multiplies_126 : decode cX11_multiplies 126 = .ok (.iload_n 2, 1) := by decide +kernel
theorem dX11_multiplies_127 : decode cX11_multiplies 127 = .ok (.ifCond .eq 14, 3) := by decide +kernel
theorem dX11_multiplies_130 : decode cX11_multiplies 130 = .ok (.lload 8, 2) := by decide +kernel
theorem dX11_multiplies_132 : decode cX11_multiplies 132 = .ok (.aload_n 0, 1) := by decide +kernel
theorem dX11_multiplies_133 : decode cX11_multiplies 133 = .ok (.getfield 98, 3) := by decide +kernel
