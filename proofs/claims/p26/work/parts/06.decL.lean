theorem d_L_talks_0 : decode b_L_talks 0 = .ok (.iload_n 2, 1) := by decide +kernel
theorem d_L_talks_1 : decode b_L_talks 1 = .ok (.iconst 5, 1) := by decide +kernel
theorem d_L_talks_2 : decode b_L_talks 2 = .ok (.invokestatic 79, 3) := by decide +kernel
theorem d_L_talks_5 : decode b_L_talks 5 = .ok (.istore 9, 2) := by decide +kernel
theorem d_L_talks_7 : decode b_L_talks 7 = .ok (.iload_n 2, 1) := by decide +kernel
theorem d_L_talks_8 : decode b_L_talks 8 = .ok (.bipush 64, 2) := by decide +kernel
theorem d_L_talks_10 : decode b_L_talks 10 = .ok (.iand, 1) := by decide +kernel
theorem d_L_talks_11 : decode b_L_talks 11 = .ok (.ifCond .ne 12, 3) := by decide +kernel
theorem d_L_talks_14 : decode b_L_talks 14 = .ok (.iload_n 3, 1) := by decide +kernel
theorem d_L_talks_15 : decode b_L_talks 15 = .ok (.bipush 12, 2) := by decide +kernel
theorem d_L_talks_17 : decode b_L_talks 17 = .ok (.invokestatic 79, 3) := by decide +kernel
theorem d_L_talks_20 : decode b_L_talks 20 = .ok (.goto 8, 3) := by decide +kernel
theorem d_L_talks_23 : decode b_L_talks 23 = .ok (.iload_n 3, 1) := by decide +kernel
theorem d_L_talks_24 : decode b_L_talks 24 = .ok (.iconst 3, 1) := by decide +kernel
theorem d_L_talks_25 : decode b_L_talks 25 = .ok (.invokestatic 79, 3) := by decide +kernel
theorem d_L_talks_28 : decode b_L_talks 28 = .ok (.istore 10, 2) := by decide +kernel
theorem d_L_talks_30 : decode b_L_talks 30 = .ok (.iload_n 1, 1) := by decide +kernel
theorem d_L_talks_31 : decode b_L_talks 31 = .ok (.iconst 5, 1) := by decide +kernel
theorem d_L_talks_32 : decode b_L_talks 32 = .ok (.if_icmp .ge 117, 3) := by decide +kernel
theorem d_L_talks_35 : decode b_L_talks 35 = .ok (.iload_n 3, 1) := by decide +kernel
theorem d_L_talks_36 : decode b_L_talks 36 = .ok (.sipush 768, 3) := by decide +kernel
theorem d_L_talks_39 : decode b_L_talks 39 = .ok (.iand, 1) := by decide +kernel
theorem d_L_talks_40 : decode b_L_talks 40 = .ok (.ifCond .ne 7, 3) := by decide +kernel
theorem d_L_talks_43 : decode b_L_talks 43 = .ok (.iconst (-1), 1) := by decide +kernel
theorem d_L_talks_44 : decode b_L_talks 44 = .ok (.goto 24, 3) := by decide +kernel
theorem d_L_talks_47 : decode b_L_talks 47 = .ok (.iload_n 3, 1) := by decide +kernel
theorem d_L_talks_48 : decode b_L_talks 48 = .ok (.bipush 10, 2) := by decide +kernel
theorem d_L_talks_50 : decode b_L_talks 50 = .ok (.ishr, 1) := by decide +kernel
theorem d_L_talks_51 : decode b_L_talks 51 = .ok (.iload_n 3, 1) := by decide +kernel
theorem d_L_talks_52 : decode b_L_talks 52 = .ok (.sipush 1024, 3) := by decide +kernel
theorem d_L_talks_55 : decode b_L_talks 55 = .ok (.iand, 1) := by decide +kernel
theorem d_L_talks_56 : decode b_L_talks 56 = .ok (.ifCond .ne 8, 3) := by decide +kernel
theorem d_L_talks_59 : decode b_L_talks 59 = .ok (.bipush 100, 2) := by decide +kernel
theorem d_L_talks_61 : decode b_L_talks 61 = .ok (.goto 4, 3) := by decide +kernel
theorem d_L_talks_64 : decode b_L_talks 64 = .ok (.iconst 4, 1) := by decide +kernel
theorem d_L_talks_65 : decode b_L_talks 65 = .ok (.invokestatic 79, 3) := by decide +kernel
theorem d_L_talks_68 : decode b_L_talks 68 = .ok (.istore 11, 2) := by decide +kernel
theorem d_L_talks_70 : decode b_L_talks 70 = .ok (.aload 8, 2) := by decide +kernel
theorem d_L_talks_72 : decode b_L_talks 72 = .ok (.iload 10, 2) := by decide +kernel
theorem d_L_talks_74 : decode b_L_talks 74 = .ok (.iload 11, 2) := by decide +kernel
theorem d_L_talks_76 : decode b_L_talks 76 = .ok (.iastore, 1) := by decide +kernel
theorem d_L_talks_77 : decode b_L_talks 77 = .ok (.aload_n 0, 1) := by decide +kernel
theorem d_L_talks_78 : decode b_L_talks 78 = .ok (.bipush 12, 2) := by decide +kernel
theorem d_L_talks_80 : decode b_L_talks 80 = .ok (.bipush (-2), 2) := by decide +kernel
theorem d_L_talks_82 : decode b_L_talks 82 = .ok (.invokestatic 82, 3) := by decide +kernel
theorem d_L_talks_85 : decode b_L_talks 85 = .ok (.bipush (-71), 2) := by decide +kernel
theorem d_L_talks_87 : decode b_L_talks 87 = .ok (.if_icmp .ne 60, 3) := by decide +kernel
theorem d_L_talks_90 : decode b_L_talks 90 = .ok (.aload_n 0, 1) := by decide +kernel
theorem d_L_talks_91 : decode b_L_talks 91 = .ok (.iconst (-1), 1) := by decide +kernel
theorem d_L_talks_92 : decode b_L_talks 92 = .ok (.iconst 0, 1) := by decide +kernel
theorem d_L_talks_93 : decode b_L_talks 93 = .ok (.invokestatic 82, 3) := by decide +kernel
theorem d_L_talks_96 : decode b_L_talks 96 = .ok (.bipush (-71), 2) := by decide +kernel
theorem d_L_talks_98 : decode b_L_talks 98 = .ok (.if_icmp .ne 49, 3) := by decide +kernel
theorem d_L_talks_101 : decode b_L_talks 101 = .ok (.aload_n 0, 1) := by decide +kernel
theorem d_L_talks_102 : decode b_L_talks 102 = .ok (.iload 10, 2) := by decide +kernel
theorem d_L_talks_104 : decode b_L_talks 104 = .ok (.bipush 100, 2) := by decide +kernel
theorem d_L_talks_106 : decode b_L_talks 106 = .ok (.invokestatic 82, 3) := by decide +kernel
theorem d_L_talks_109 : decode b_L_talks 109 = .ok (.bipush (-72), 2) := by decide +kernel
theorem d_L_talks_111 : decode b_L_talks 111 = .ok (.if_icmp .ne 36, 3) := by decide +kernel
theorem d_L_talks_114 : decode b_L_talks 114 = .ok (.aload_n 0, 1) := by decide +kernel
theorem d_L_talks_115 : decode b_L_talks 115 = .ok (.iload 10, 2) := by decide +kernel
theorem d_L_talks_117 : decode b_L_talks 117 = .ok (.bipush (-2), 2) := by decide +kernel
theorem d_L_talks_119 : decode b_L_talks 119 = .ok (.invokestatic 82, 3) := by decide +kernel
theorem d_L_talks_122 : decode b_L_talks 122 = .ok (.bipush (-72), 2) := by decide +kernel
theorem d_L_talks_124 : decode b_L_talks 124 = .ok (.if_icmp .ne 23, 3) := by decide +kernel
theorem d_L_talks_127 : decode b_L_talks 127 = .ok (.aload_n 0, 1) := by decide +kernel
theorem d_L_talks_128 : decode b_L_talks 128 = .ok (.iload 10, 2) := by decide +kernel
theorem d_L_talks_130 : decode b_L_talks 130 = .ok (.iload 11, 2) := by decide +kernel
theorem d_L_talks_132 : decode b_L_talks 132 = .ok (.invokestatic 82, 3) := by decide +kernel
theorem d_L_talks_135 : decode b_L_talks 135 = .ok (.aload 8, 2) := by decide +kernel
theorem d_L_talks_137 : decode b_L_talks 137 = .ok (.invokestatic 85, 3) := by decide +kernel
theorem d_L_talks_140 : decode b_L_talks 140 = .ok (.if_icmp .ne 7, 3) := by decide +kernel
theorem d_L_talks_143 : decode b_L_talks 143 = .ok (.iconst 1, 1) := by decide +kernel
theorem d_L_talks_144 : decode b_L_talks 144 = .ok (.goto 4, 3) := by decide +kernel
theorem d_L_talks_147 : decode b_L_talks 147 = .ok (.iconst 0, 1) := by decide +kernel
theorem d_L_talks_148 : decode b_L_talks 148 = .ok (.ireturn, 1) := by decide +kernel
theorem d_L_talks_149 : decode b_L_talks 149 = .ok (.iload_n 1, 1) := by decide +kernel
theorem d_L_talks_150 : decode b_L_talks 150 = .ok (.iconst 5, 1) := by decide +kernel
theorem d_L_talks_151 : decode b_L_talks 151 = .ok (.if_icmp .ne 79, 3) := by decide +kernel
theorem d_L_talks_154 : decode b_L_talks 154 = .ok (.iload_n 3, 1) := by decide +kernel
theorem d_L_talks_155 : decode b_L_talks 155 = .ok (.iconst 3, 1) := by decide +kernel
theorem d_L_talks_156 : decode b_L_talks 156 = .ok (.invokestatic 79, 3) := by decide +kernel
theorem d_L_talks_159 : decode b_L_talks 159 = .ok (.istore 11, 2) := by decide +kernel
theorem d_L_talks_161 : decode b_L_talks 161 = .ok (.iconst 4, 1) := by decide +kernel
theorem d_L_talks_162 : decode b_L_talks 162 = .ok (.iload 11, 2) := by decide +kernel
theorem d_L_talks_164 : decode b_L_talks 164 = .ok (.imul, 1) := by decide +kernel
theorem d_L_talks_165 : decode b_L_talks 165 = .ok (.istore 12, 2) := by decide +kernel
theorem d_L_talks_167 : decode b_L_talks 167 = .ok (.iload 12, 2) := by decide +kernel
theorem d_L_talks_169 : decode b_L_talks 169 = .ok (.iconst 4, 1) := by decide +kernel
theorem d_L_talks_170 : decode b_L_talks 170 = .ok (.iload 11, 2) := by decide +kernel
theorem d_L_talks_172 : decode b_L_talks 172 = .ok (.imul, 1) := by decide +kernel
theorem d_L_talks_173 : decode b_L_talks 173 = .ok (.iconst 4, 1) := by decide +kernel
theorem d_L_talks_174 : decode b_L_talks 174 = .ok (.iadd, 1) := by decide +kernel
theorem d_L_talks_175 : decode b_L_talks 175 = .ok (.if_icmp .ge 15, 3) := by decide +kernel
theorem d_L_talks_178 : decode b_L_talks 178 = .ok (.aload 8, 2) := by decide +kernel
theorem d_L_talks_180 : decode b_L_talks 180 = .ok (.iload 12, 2) := by decide +kernel
theorem d_L_talks_182 : decode b_L_talks 182 = .ok (.iconst (-1), 1) := by decide +kernel
theorem d_L_talks_183 : decode b_L_talks 183 = .ok (.iastore, 1) := by decide +kernel
theorem d_L_talks_184 : decode b_L_talks 184 = .ok (.iinc 12 1, 3) := by decide +kernel
theorem d_L_talks_187 : decode b_L_talks 187 = .ok (.goto (-20), 3) := by decide +kernel
theorem d_L_talks_190 : decode b_L_talks 190 = .ok (.aload_n 0, 1) := by decide +kernel
theorem d_L_talks_191 : decode b_L_talks 191 = .ok (.iconst 3, 1) := by decide +kernel
theorem d_L_talks_192 : decode b_L_talks 192 = .ok (.invokestatic 89, 3) := by decide +kernel
theorem d_L_talks_195 : decode b_L_talks 195 = .ok (.bipush (-71), 2) := by decide +kernel
theorem d_L_talks_197 : decode b_L_talks 197 = .ok (.if_icmp .ne 31, 3) := by decide +kernel
theorem d_L_talks_200 : decode b_L_talks 200 = .ok (.aload_n 0, 1) := by decide +kernel
theorem d_L_talks_201 : decode b_L_talks 201 = .ok (.iconst (-1), 1) := by decide +kernel
theorem d_L_talks_202 : decode b_L_talks 202 = .ok (.invokestatic 89, 3) := by decide +kernel
theorem d_L_talks_205 : decode b_L_talks 205 = .ok (.bipush (-71), 2) := by decide +kernel
theorem d_L_talks_207 : decode b_L_talks 207 = .ok (.if_icmp .ne 21, 3) := by decide +kernel
theorem d_L_talks_210 : decode b_L_talks 210 = .ok (.aload_n 0, 1) := by decide +kernel
theorem d_L_talks_211 : decode b_L_talks 211 = .ok (.iload 11, 2) := by decide +kernel
theorem d_L_talks_213 : decode b_L_talks 213 = .ok (.invokestatic 89, 3) := by decide +kernel
theorem d_L_talks_216 : decode b_L_talks 216 = .ok (.aload 8, 2) := by decide +kernel
theorem d_L_talks_218 : decode b_L_talks 218 = .ok (.invokestatic 85, 3) := by decide +kernel
theorem d_L_talks_221 : decode b_L_talks 221 = .ok (.if_icmp .ne 7, 3) := by decide +kernel
theorem d_L_talks_224 : decode b_L_talks 224 = .ok (.iconst 1, 1) := by decide +kernel
theorem d_L_talks_225 : decode b_L_talks 225 = .ok (.goto 4, 3) := by decide +kernel
theorem d_L_talks_228 : decode b_L_talks 228 = .ok (.iconst 0, 1) := by decide +kernel
theorem d_L_talks_229 : decode b_L_talks 229 = .ok (.ireturn, 1) := by decide +kernel
theorem d_L_talks_230 : decode b_L_talks 230 = .ok (.iload_n 1, 1) := by decide +kernel
theorem d_L_talks_231 : decode b_L_talks 231 = .ok (.bipush 9, 2) := by decide +kernel
theorem d_L_talks_233 : decode b_L_talks 233 = .ok (.if_icmp .ge 236, 3) := by decide +kernel
theorem d_L_talks_236 : decode b_L_talks 236 = .ok (.iload_n 3, 1) := by decide +kernel
theorem d_L_talks_237 : decode b_L_talks 237 = .ok (.bipush 6, 2) := by decide +kernel
theorem d_L_talks_239 : decode b_L_talks 239 = .ok (.iand, 1) := by decide +kernel
theorem d_L_talks_240 : decode b_L_talks 240 = .ok (.ifCond .le 7, 3) := by decide +kernel
theorem d_L_talks_243 : decode b_L_talks 243 = .ok (.iconst (-1), 1) := by decide +kernel
theorem d_L_talks_244 : decode b_L_talks 244 = .ok (.goto 33, 3) := by decide +kernel
theorem d_L_talks_247 : decode b_L_talks 247 = .ok (.iload_n 3, 1) := by decide +kernel
theorem d_L_talks_248 : decode b_L_talks 248 = .ok (.bipush 8, 2) := by decide +kernel
theorem d_L_talks_250 : decode b_L_talks 250 = .ok (.iand, 1) := by decide +kernel
theorem d_L_talks_251 : decode b_L_talks 251 = .ok (.ifCond .le 11, 3) := by decide +kernel
theorem d_L_talks_254 : decode b_L_talks 254 = .ok (.aload 5, 2) := by decide +kernel
theorem d_L_talks_256 : decode b_L_talks 256 = .ok (.iload 9, 2) := by decide +kernel
theorem d_L_talks_258 : decode b_L_talks 258 = .ok (.iaload, 1) := by decide +kernel
theorem d_L_talks_259 : decode b_L_talks 259 = .ok (.goto 18, 3) := by decide +kernel
theorem d_L_talks_262 : decode b_L_talks 262 = .ok (.aload 5, 2) := by decide +kernel
theorem d_L_talks_264 : decode b_L_talks 264 = .ok (.iload 9, 2) := by decide +kernel
theorem d_L_talks_266 : decode b_L_talks 266 = .ok (.iaload, 1) := by decide +kernel
theorem d_L_talks_267 : decode b_L_talks 267 = .ok (.iconst 1, 1) := by decide +kernel
theorem d_L_talks_268 : decode b_L_talks 268 = .ok (.iadd, 1) := by decide +kernel
theorem d_L_talks_269 : decode b_L_talks 269 = .ok (.iload_n 3, 1) := by decide +kernel
theorem d_L_talks_270 : decode b_L_talks 270 = .ok (.iconst 4, 1) := by decide +kernel
theorem d_L_talks_271 : decode b_L_talks 271 = .ok (.ishr, 1) := by decide +kernel
theorem d_L_talks_272 : decode b_L_talks 272 = .ok (.iconst 3, 1) := by decide +kernel
theorem d_L_talks_273 : decode b_L_talks 273 = .ok (.invokestatic 79, 3) := by decide +kernel
theorem d_L_talks_276 : decode b_L_talks 276 = .ok (.iadd, 1) := by decide +kernel
theorem d_L_talks_277 : decode b_L_talks 277 = .ok (.istore 11, 2) := by decide +kernel
theorem d_L_talks_279 : decode b_L_talks 279 = .ok (.aload_n 0, 1) := by decide +kernel
theorem d_L_talks_280 : decode b_L_talks 280 = .ok (.bipush 8, 2) := by decide +kernel
theorem d_L_talks_282 : decode b_L_talks 282 = .ok (.iconst 0, 1) := by decide +kernel
theorem d_L_talks_283 : decode b_L_talks 283 = .ok (.invokestatic 92, 3) := by decide +kernel
theorem d_L_talks_286 : decode b_L_talks 286 = .ok (.bipush (-71), 2) := by decide +kernel
theorem d_L_talks_288 : decode b_L_talks 288 = .ok (.if_icmp .ne 46, 3) := by decide +kernel
theorem d_L_talks_291 : decode b_L_talks 291 = .ok (.aload_n 0, 1) := by decide +kernel
theorem d_L_talks_292 : decode b_L_talks 292 = .ok (.iconst (-1), 1) := by decide +kernel
theorem d_L_talks_293 : decode b_L_talks 293 = .ok (.iconst (-1), 1) := by decide +kernel
theorem d_L_talks_294 : decode b_L_talks 294 = .ok (.invokestatic 92, 3) := by decide +kernel
theorem d_L_talks_297 : decode b_L_talks 297 = .ok (.bipush (-71), 2) := by decide +kernel
theorem d_L_talks_299 : decode b_L_talks 299 = .ok (.if_icmp .ne 35, 3) := by decide +kernel
theorem d_L_talks_302 : decode b_L_talks 302 = .ok (.aload_n 0, 1) := by decide +kernel
theorem d_L_talks_303 : decode b_L_talks 303 = .ok (.iload 9, 2) := by decide +kernel
theorem d_L_talks_305 : decode b_L_talks 305 = .ok (.bipush (-2), 2) := by decide +kernel
theorem d_L_talks_307 : decode b_L_talks 307 = .ok (.invokestatic 92, 3) := by decide +kernel
theorem d_L_talks_310 : decode b_L_talks 310 = .ok (.bipush (-73), 2) := by decide +kernel
theorem d_L_talks_312 : decode b_L_talks 312 = .ok (.if_icmp .ne 22, 3) := by decide +kernel
theorem d_L_talks_315 : decode b_L_talks 315 = .ok (.aload_n 0, 1) := by decide +kernel
theorem d_L_talks_316 : decode b_L_talks 316 = .ok (.iload 9, 2) := by decide +kernel
theorem d_L_talks_318 : decode b_L_talks 318 = .ok (.aload 5, 2) := by decide +kernel
theorem d_L_talks_320 : decode b_L_talks 320 = .ok (.iload 9, 2) := by decide +kernel
theorem d_L_talks_322 : decode b_L_talks 322 = .ok (.iaload, 1) := by decide +kernel
theorem d_L_talks_323 : decode b_L_talks 323 = .ok (.bipush 7, 2) := by decide +kernel
theorem d_L_talks_325 : decode b_L_talks 325 = .ok (.iadd, 1) := by decide +kernel
theorem d_L_talks_326 : decode b_L_talks 326 = .ok (.invokestatic 92, 3) := by decide +kernel
theorem d_L_talks_329 : decode b_L_talks 329 = .ok (.bipush (-73), 2) := by decide +kernel
theorem d_L_talks_331 : decode b_L_talks 331 = .ok (.if_icmp .eq 5, 3) := by decide +kernel
theorem d_L_talks_334 : decode b_L_talks 334 = .ok (.iconst 0, 1) := by decide +kernel
theorem d_L_talks_335 : decode b_L_talks 335 = .ok (.ireturn, 1) := by decide +kernel
theorem d_L_talks_336 : decode b_L_talks 336 = .ok (.aload 8, 2) := by decide +kernel
theorem d_L_talks_338 : decode b_L_talks 338 = .ok (.invokestatic 85, 3) := by decide +kernel
theorem d_L_talks_341 : decode b_L_talks 341 = .ok (.ifCond .eq 13, 3) := by decide +kernel
theorem d_L_talks_344 : decode b_L_talks 344 = .ok (.iload 11, 2) := by decide +kernel
theorem d_L_talks_346 : decode b_L_talks 346 = .ok (.aload 5, 2) := by decide +kernel
theorem d_L_talks_348 : decode b_L_talks 348 = .ok (.iload 9, 2) := by decide +kernel
theorem d_L_talks_350 : decode b_L_talks 350 = .ok (.iaload, 1) := by decide +kernel
theorem d_L_talks_351 : decode b_L_talks 351 = .ok (.if_icmp .le 22, 3) := by decide +kernel
theorem d_L_talks_354 : decode b_L_talks 354 = .ok (.aload_n 0, 1) := by decide +kernel
theorem d_L_talks_355 : decode b_L_talks 355 = .ok (.iload 9, 2) := by decide +kernel
theorem d_L_talks_357 : decode b_L_talks 357 = .ok (.iload 11, 2) := by decide +kernel
theorem d_L_talks_359 : decode b_L_talks 359 = .ok (.invokestatic 92, 3) := by decide +kernel
theorem d_L_talks_362 : decode b_L_talks 362 = .ok (.bipush (-73), 2) := by decide +kernel
theorem d_L_talks_364 : decode b_L_talks 364 = .ok (.if_icmp .ne 7, 3) := by decide +kernel
theorem d_L_talks_367 : decode b_L_talks 367 = .ok (.iconst 1, 1) := by decide +kernel
theorem d_L_talks_368 : decode b_L_talks 368 = .ok (.goto 4, 3) := by decide +kernel
theorem d_L_talks_371 : decode b_L_talks 371 = .ok (.iconst 0, 1) := by decide +kernel
theorem d_L_talks_372 : decode b_L_talks 372 = .ok (.ireturn, 1) := by decide +kernel
theorem d_L_talks_373 : decode b_L_talks 373 = .ok (.iconst 0, 1) := by decide +kernel
theorem d_L_talks_374 : decode b_L_talks 374 = .ok (.istore 12, 2) := by decide +kernel
theorem d_L_talks_376 : decode b_L_talks 376 = .ok (.iload 12, 2) := by decide +kernel
theorem d_L_talks_378 : decode b_L_talks 378 = .ok (.bipush 12, 2) := by decide +kernel
theorem d_L_talks_380 : decode b_L_talks 380 = .ok (.if_icmp .ge 53, 3) := by decide +kernel
theorem d_L_talks_383 : decode b_L_talks 383 = .ok (.aload 8, 2) := by decide +kernel
theorem d_L_talks_385 : decode b_L_talks 385 = .ok (.iload 12, 2) := by decide +kernel
theorem d_L_talks_387 : decode b_L_talks 387 = .ok (.iaload, 1) := by decide +kernel
theorem d_L_talks_388 : decode b_L_talks 388 = .ok (.bipush (-2), 2) := by decide +kernel
theorem d_L_talks_390 : decode b_L_talks 390 = .ok (.if_icmp .le 37, 3) := by decide +kernel
theorem d_L_talks_393 : decode b_L_talks 393 = .ok (.aload 4, 2) := by decide +kernel
theorem d_L_talks_395 : decode b_L_talks 395 = .ok (.bipush 12, 2) := by decide +kernel
theorem d_L_talks_397 : decode b_L_talks 397 = .ok (.iload 9, 2) := by decide +kernel
theorem d_L_talks_399 : decode b_L_talks 399 = .ok (.imul, 1) := by decide +kernel
theorem d_L_talks_400 : decode b_L_talks 400 = .ok (.iload 12, 2) := by decide +kernel
theorem d_L_talks_402 : decode b_L_talks 402 = .ok (.iadd, 1) := by decide +kernel
theorem d_L_talks_403 : decode b_L_talks 403 = .ok (.aload 4, 2) := by decide +kernel
theorem d_L_talks_405 : decode b_L_talks 405 = .ok (.bipush 12, 2) := by decide +kernel
theorem d_L_talks_407 : decode b_L_talks 407 = .ok (.iload 9, 2) := by decide +kernel
theorem d_L_talks_409 : decode b_L_talks 409 = .ok (.imul, 1) := by decide +kernel
theorem d_L_talks_410 : decode b_L_talks 410 = .ok (.iload 12, 2) := by decide +kernel
theorem d_L_talks_412 : decode b_L_talks 412 = .ok (.iadd, 1) := by decide +kernel
theorem d_L_talks_413 : decode b_L_talks 413 = .ok (.iaload, 1) := by decide +kernel
theorem d_L_talks_414 : decode b_L_talks 414 = .ok (.sipush 16256, 3) := by decide +kernel
theorem d_L_talks_417 : decode b_L_talks 417 = .ok (.iand, 1) := by decide +kernel
theorem d_L_talks_418 : decode b_L_talks 418 = .ok (.aload 8, 2) := by decide +kernel
theorem d_L_talks_420 : decode b_L_talks 420 = .ok (.iload 12, 2) := by decide +kernel
theorem d_L_talks_422 : decode b_L_talks 422 = .ok (.iaload, 1) := by decide +kernel
theorem d_L_talks_423 : decode b_L_talks 423 = .ok (.iconst 1, 1) := by decide +kernel
theorem d_L_talks_424 : decode b_L_talks 424 = .ok (.iadd, 1) := by decide +kernel
theorem d_L_talks_425 : decode b_L_talks 425 = .ok (.ior, 1) := by decide +kernel
theorem d_L_talks_426 : decode b_L_talks 426 = .ok (.iastore, 1) := by decide +kernel
theorem d_L_talks_427 : decode b_L_talks 427 = .ok (.iinc 12 1, 3) := by decide +kernel
theorem d_L_talks_430 : decode b_L_talks 430 = .ok (.goto (-54), 3) := by decide +kernel
theorem d_L_talks_433 : decode b_L_talks 433 = .ok (.aload 8, 2) := by decide +kernel
theorem d_L_talks_435 : decode b_L_talks 435 = .ok (.invokestatic 94, 3) := by decide +kernel
theorem d_L_talks_438 : decode b_L_talks 438 = .ok (.aload 5, 2) := by decide +kernel
theorem d_L_talks_440 : decode b_L_talks 440 = .ok (.iload 9, 2) := by decide +kernel
theorem d_L_talks_442 : decode b_L_talks 442 = .ok (.dup2, 1) := by decide +kernel
theorem d_L_talks_443 : decode b_L_talks 443 = .ok (.iaload, 1) := by decide +kernel
theorem d_L_talks_444 : decode b_L_talks 444 = .ok (.iconst 1, 1) := by decide +kernel
theorem d_L_talks_445 : decode b_L_talks 445 = .ok (.iadd, 1) := by decide +kernel
theorem d_L_talks_446 : decode b_L_talks 446 = .ok (.iastore, 1) := by decide +kernel
theorem d_L_talks_447 : decode b_L_talks 447 = .ok (.aload_n 0, 1) := by decide +kernel
theorem d_L_talks_448 : decode b_L_talks 448 = .ok (.iload 9, 2) := by decide +kernel
theorem d_L_talks_450 : decode b_L_talks 450 = .ok (.iload 11, 2) := by decide +kernel
theorem d_L_talks_452 : decode b_L_talks 452 = .ok (.invokestatic 92, 3) := by decide +kernel
theorem d_L_talks_455 : decode b_L_talks 455 = .ok (.aload 5, 2) := by decide +kernel
theorem d_L_talks_457 : decode b_L_talks 457 = .ok (.iload 9, 2) := by decide +kernel
theorem d_L_talks_459 : decode b_L_talks 459 = .ok (.iaload, 1) := by decide +kernel
theorem d_L_talks_460 : decode b_L_talks 460 = .ok (.if_icmp .ne 7, 3) := by decide +kernel
theorem d_L_talks_463 : decode b_L_talks 463 = .ok (.iconst 1, 1) := by decide +kernel
theorem d_L_talks_464 : decode b_L_talks 464 = .ok (.goto 4, 3) := by decide +kernel
theorem d_L_talks_467 : decode b_L_talks 467 = .ok (.iconst 0, 1) := by decide +kernel
theorem d_L_talks_468 : decode b_L_talks 468 = .ok (.ireturn, 1) := by decide +kernel
theorem d_L_talks_469 : decode b_L_talks 469 = .ok (.iload_n 1, 1) := by decide +kernel
theorem d_L_talks_470 : decode b_L_talks 470 = .ok (.bipush 12, 2) := by decide +kernel
theorem d_L_talks_472 : decode b_L_talks 472 = .ok (.if_icmp .ge 297, 3) := by decide +kernel
theorem d_L_talks_475 : decode b_L_talks 475 = .ok (.iload_n 3, 1) := by decide +kernel
theorem d_L_talks_476 : decode b_L_talks 476 = .ok (.bipush 6, 2) := by decide +kernel
theorem d_L_talks_478 : decode b_L_talks 478 = .ok (.iand, 1) := by decide +kernel
theorem d_L_talks_479 : decode b_L_talks 479 = .ok (.ifCond .le 13, 3) := by decide +kernel
theorem d_L_talks_482 : decode b_L_talks 482 = .ok (.aload 7, 2) := by decide +kernel
theorem d_L_talks_484 : decode b_L_talks 484 = .ok (.iload 9, 2) := by decide +kernel
theorem d_L_talks_486 : decode b_L_talks 486 = .ok (.iaload, 1) := by decide +kernel
theorem d_L_talks_487 : decode b_L_talks 487 = .ok (.iconst 1, 1) := by decide +kernel
theorem d_L_talks_488 : decode b_L_talks 488 = .ok (.iadd, 1) := by decide +kernel
theorem d_L_talks_489 : decode b_L_talks 489 = .ok (.goto 16, 3) := by decide +kernel
theorem d_L_talks_492 : decode b_L_talks 492 = .ok (.iload_n 3, 1) := by decide +kernel
theorem d_L_talks_493 : decode b_L_talks 493 = .ok (.iconst 3, 1) := by decide +kernel
theorem d_L_talks_494 : decode b_L_talks 494 = .ok (.ishr, 1) := by decide +kernel
theorem d_L_talks_495 : decode b_L_talks 495 = .ok (.aload 7, 2) := by decide +kernel
theorem d_L_talks_497 : decode b_L_talks 497 = .ok (.iload 9, 2) := by decide +kernel
theorem d_L_talks_499 : decode b_L_talks 499 = .ok (.iaload, 1) := by decide +kernel
theorem d_L_talks_500 : decode b_L_talks 500 = .ok (.iconst 3, 1) := by decide +kernel
theorem d_L_talks_501 : decode b_L_talks 501 = .ok (.iadd, 1) := by decide +kernel
theorem d_L_talks_502 : decode b_L_talks 502 = .ok (.invokestatic 79, 3) := by decide +kernel
theorem d_L_talks_505 : decode b_L_talks 505 = .ok (.istore 11, 2) := by decide +kernel
theorem d_L_talks_507 : decode b_L_talks 507 = .ok (.aload_n 0, 1) := by decide +kernel
theorem d_L_talks_508 : decode b_L_talks 508 = .ok (.bipush 8, 2) := by decide +kernel
theorem d_L_talks_510 : decode b_L_talks 510 = .ok (.iconst 0, 1) := by decide +kernel
theorem d_L_talks_511 : decode b_L_talks 511 = .ok (.invokestatic 98, 3) := by decide +kernel
theorem d_L_talks_514 : decode b_L_talks 514 = .ok (.bipush (-71), 2) := by decide +kernel
theorem d_L_talks_516 : decode b_L_talks 516 = .ok (.if_icmp .ne 45, 3) := by decide +kernel
theorem d_L_talks_519 : decode b_L_talks 519 = .ok (.aload_n 0, 1) := by decide +kernel
theorem d_L_talks_520 : decode b_L_talks 520 = .ok (.iload 9, 2) := by decide +kernel
theorem d_L_talks_522 : decode b_L_talks 522 = .ok (.iconst 0, 1) := by decide +kernel
theorem d_L_talks_523 : decode b_L_talks 523 = .ok (.invokestatic 98, 3) := by decide +kernel
theorem d_L_talks_526 : decode b_L_talks 526 = .ok (.bipush (-72), 2) := by decide +kernel
theorem d_L_talks_528 : decode b_L_talks 528 = .ok (.if_icmp .ne 33, 3) := by decide +kernel
theorem d_L_talks_531 : decode b_L_talks 531 = .ok (.aload_n 0, 1) := by decide +kernel
theorem d_L_talks_532 : decode b_L_talks 532 = .ok (.iload 9, 2) := by decide +kernel
theorem d_L_talks_534 : decode b_L_talks 534 = .ok (.aload 7, 2) := by decide +kernel
theorem d_L_talks_536 : decode b_L_talks 536 = .ok (.iload 9, 2) := by decide +kernel
theorem d_L_talks_538 : decode b_L_talks 538 = .ok (.iaload, 1) := by decide +kernel
theorem d_L_talks_539 : decode b_L_talks 539 = .ok (.iconst 2, 1) := by decide +kernel
theorem d_L_talks_540 : decode b_L_talks 540 = .ok (.iadd, 1) := by decide +kernel
theorem d_L_talks_541 : decode b_L_talks 541 = .ok (.invokestatic 98, 3) := by decide +kernel
theorem d_L_talks_544 : decode b_L_talks 544 = .ok (.bipush (-72), 2) := by decide +kernel
theorem d_L_talks_546 : decode b_L_talks 546 = .ok (.if_icmp .ne 15, 3) := by decide +kernel
theorem d_L_talks_549 : decode b_L_talks 549 = .ok (.aload_n 0, 1) := by decide +kernel
theorem d_L_talks_550 : decode b_L_talks 550 = .ok (.iload 9, 2) := by decide +kernel
theorem d_L_talks_552 : decode b_L_talks 552 = .ok (.iconst (-1), 1) := by decide +kernel
theorem d_L_talks_553 : decode b_L_talks 553 = .ok (.invokestatic 98, 3) := by decide +kernel
theorem d_L_talks_556 : decode b_L_talks 556 = .ok (.bipush (-72), 2) := by decide +kernel
theorem d_L_talks_558 : decode b_L_talks 558 = .ok (.if_icmp .eq 5, 3) := by decide +kernel
theorem d_L_talks_561 : decode b_L_talks 561 = .ok (.iconst 0, 1) := by decide +kernel
theorem d_L_talks_562 : decode b_L_talks 562 = .ok (.ireturn, 1) := by decide +kernel
theorem d_L_talks_563 : decode b_L_talks 563 = .ok (.iload 11, 2) := by decide +kernel
theorem d_L_talks_565 : decode b_L_talks 565 = .ok (.iconst 1, 1) := by decide +kernel
theorem d_L_talks_566 : decode b_L_talks 566 = .ok (.if_icmp .lt 15, 3) := by decide +kernel
theorem d_L_talks_569 : decode b_L_talks 569 = .ok (.iload 11, 2) := by decide +kernel
theorem d_L_talks_571 : decode b_L_talks 571 = .ok (.aload 7, 2) := by decide +kernel
theorem d_L_talks_573 : decode b_L_talks 573 = .ok (.iload 9, 2) := by decide +kernel
theorem d_L_talks_575 : decode b_L_talks 575 = .ok (.iaload, 1) := by decide +kernel
theorem d_L_talks_576 : decode b_L_talks 576 = .ok (.iconst 1, 1) := by decide +kernel
theorem d_L_talks_577 : decode b_L_talks 577 = .ok (.iadd, 1) := by decide +kernel
theorem d_L_talks_578 : decode b_L_talks 578 = .ok (.if_icmp .le 22, 3) := by decide +kernel
theorem d_L_talks_581 : decode b_L_talks 581 = .ok (.aload_n 0, 1) := by decide +kernel
theorem d_L_talks_582 : decode b_L_talks 582 = .ok (.iload 9, 2) := by decide +kernel
theorem d_L_talks_584 : decode b_L_talks 584 = .ok (.iload 11, 2) := by decide +kernel
theorem d_L_talks_586 : decode b_L_talks 586 = .ok (.invokestatic 98, 3) := by decide +kernel
theorem d_L_talks_589 : decode b_L_talks 589 = .ok (.bipush (-72), 2) := by decide +kernel
theorem d_L_talks_591 : decode b_L_talks 591 = .ok (.if_icmp .ne 7, 3) := by decide +kernel
theorem d_L_talks_594 : decode b_L_talks 594 = .ok (.iconst 1, 1) := by decide +kernel
theorem d_L_talks_595 : decode b_L_talks 595 = .ok (.goto 4, 3) := by decide +kernel
theorem d_L_talks_598 : decode b_L_talks 598 = .ok (.iconst 0, 1) := by decide +kernel
theorem d_L_talks_599 : decode b_L_talks 599 = .ok (.ireturn, 1) := by decide +kernel
theorem d_L_talks_600 : decode b_L_talks 600 = .ok (.aload 6, 2) := by decide +kernel
theorem d_L_talks_602 : decode b_L_talks 602 = .ok (.iload 9, 2) := by decide +kernel
theorem d_L_talks_604 : decode b_L_talks 604 = .ok (.iaload, 1) := by decide +kernel
theorem d_L_talks_605 : decode b_L_talks 605 = .ok (.ifCond .lt 22, 3) := by decide +kernel
theorem d_L_talks_608 : decode b_L_talks 608 = .ok (.aload_n 0, 1) := by decide +kernel
theorem d_L_talks_609 : decode b_L_talks 609 = .ok (.iload 9, 2) := by decide +kernel
theorem d_L_talks_611 : decode b_L_talks 611 = .ok (.iload 11, 2) := by decide +kernel
theorem d_L_talks_613 : decode b_L_talks 613 = .ok (.invokestatic 98, 3) := by decide +kernel
theorem d_L_talks_616 : decode b_L_talks 616 = .ok (.bipush (-73), 2) := by decide +kernel
theorem d_L_talks_618 : decode b_L_talks 618 = .ok (.if_icmp .ne 7, 3) := by decide +kernel
theorem d_L_talks_621 : decode b_L_talks 621 = .ok (.iconst 1, 1) := by decide +kernel
theorem d_L_talks_622 : decode b_L_talks 622 = .ok (.goto 4, 3) := by decide +kernel
theorem d_L_talks_625 : decode b_L_talks 625 = .ok (.iconst 0, 1) := by decide +kernel
theorem d_L_talks_626 : decode b_L_talks 626 = .ok (.ireturn, 1) := by decide +kernel
theorem d_L_talks_627 : decode b_L_talks 627 = .ok (.iload 11, 2) := by decide +kernel
theorem d_L_talks_629 : decode b_L_talks 629 = .ok (.aload 7, 2) := by decide +kernel
theorem d_L_talks_631 : decode b_L_talks 631 = .ok (.iload 9, 2) := by decide +kernel
theorem d_L_talks_633 : decode b_L_talks 633 = .ok (.iaload, 1) := by decide +kernel
theorem d_L_talks_634 : decode b_L_talks 634 = .ok (.if_icmp .le 66, 3) := by decide +kernel
theorem d_L_talks_637 : decode b_L_talks 637 = .ok (.iconst 0, 1) := by decide +kernel
theorem d_L_talks_638 : decode b_L_talks 638 = .ok (.istore 12, 2) := by decide +kernel
theorem d_L_talks_640 : decode b_L_talks 640 = .ok (.iload 12, 2) := by decide +kernel
theorem d_L_talks_642 : decode b_L_talks 642 = .ok (.bipush 12, 2) := by decide +kernel
theorem d_L_talks_644 : decode b_L_talks 644 = .ok (.if_icmp .ge 56, 3) := by decide +kernel
theorem d_L_talks_647 : decode b_L_talks 647 = .ok (.aload 8, 2) := by decide +kernel
theorem d_L_talks_649 : decode b_L_talks 649 = .ok (.iload 12, 2) := by decide +kernel
theorem d_L_talks_651 : decode b_L_talks 651 = .ok (.iaload, 1) := by decide +kernel
theorem d_L_talks_652 : decode b_L_talks 652 = .ok (.bipush (-2), 2) := by decide +kernel
theorem d_L_talks_654 : decode b_L_talks 654 = .ok (.if_icmp .le 40, 3) := by decide +kernel
theorem d_L_talks_657 : decode b_L_talks 657 = .ok (.aload 4, 2) := by decide +kernel
theorem d_L_talks_659 : decode b_L_talks 659 = .ok (.bipush 12, 2) := by decide +kernel
theorem d_L_talks_661 : decode b_L_talks 661 = .ok (.iload 9, 2) := by decide +kernel
theorem d_L_talks_663 : decode b_L_talks 663 = .ok (.imul, 1) := by decide +kernel
theorem d_L_talks_664 : decode b_L_talks 664 = .ok (.iload 12, 2) := by decide +kernel
theorem d_L_talks_666 : decode b_L_talks 666 = .ok (.iadd, 1) := by decide +kernel
theorem d_L_talks_667 : decode b_L_talks 667 = .ok (.aload 4, 2) := by decide +kernel
theorem d_L_talks_669 : decode b_L_talks 669 = .ok (.bipush 12, 2) := by decide +kernel
theorem d_L_talks_671 : decode b_L_talks 671 = .ok (.iload 9, 2) := by decide +kernel
theorem d_L_talks_673 : decode b_L_talks 673 = .ok (.imul, 1) := by decide +kernel
theorem d_L_talks_674 : decode b_L_talks 674 = .ok (.iload 12, 2) := by decide +kernel
theorem d_L_talks_676 : decode b_L_talks 676 = .ok (.iadd, 1) := by decide +kernel
theorem d_L_talks_677 : decode b_L_talks 677 = .ok (.iaload, 1) := by decide +kernel
theorem d_L_talks_678 : decode b_L_talks 678 = .ok (.sipush (-16257), 3) := by decide +kernel
theorem d_L_talks_681 : decode b_L_talks 681 = .ok (.iand, 1) := by decide +kernel
theorem d_L_talks_682 : decode b_L_talks 682 = .ok (.aload 8, 2) := by decide +kernel
theorem d_L_talks_684 : decode b_L_talks 684 = .ok (.iload 12, 2) := by decide +kernel
theorem d_L_talks_686 : decode b_L_talks 686 = .ok (.iaload, 1) := by decide +kernel
theorem d_L_talks_687 : decode b_L_talks 687 = .ok (.iconst 1, 1) := by decide +kernel
theorem d_L_talks_688 : decode b_L_talks 688 = .ok (.iadd, 1) := by decide +kernel
theorem d_L_talks_689 : decode b_L_talks 689 = .ok (.bipush 7, 2) := by decide +kernel
theorem d_L_talks_691 : decode b_L_talks 691 = .ok (.ishl, 1) := by decide +kernel
theorem d_L_talks_692 : decode b_L_talks 692 = .ok (.ior, 1) := by decide +kernel
theorem d_L_talks_693 : decode b_L_talks 693 = .ok (.iastore, 1) := by decide +kernel
theorem d_L_talks_694 : decode b_L_talks 694 = .ok (.iinc 12 1, 3) := by decide +kernel
theorem d_L_talks_697 : decode b_L_talks 697 = .ok (.goto (-57), 3) := by decide +kernel
theorem d_L_talks_700 : decode b_L_talks 700 = .ok (.aload 8, 2) := by decide +kernel
theorem d_L_talks_702 : decode b_L_talks 702 = .ok (.invokestatic 94, 3) := by decide +kernel
theorem d_L_talks_705 : decode b_L_talks 705 = .ok (.iload 11, 2) := by decide +kernel
theorem d_L_talks_707 : decode b_L_talks 707 = .ok (.aload 7, 2) := by decide +kernel
theorem d_L_talks_709 : decode b_L_talks 709 = .ok (.iload 9, 2) := by decide +kernel
theorem d_L_talks_711 : decode b_L_talks 711 = .ok (.iaload, 1) := by decide +kernel
theorem d_L_talks_712 : decode b_L_talks 712 = .ok (.if_icmp .gt 21, 3) := by decide +kernel
theorem d_L_talks_715 : decode b_L_talks 715 = .ok (.aload_n 0, 1) := by decide +kernel
theorem d_L_talks_716 : decode b_L_talks 716 = .ok (.iload 9, 2) := by decide +kernel
theorem d_L_talks_718 : decode b_L_talks 718 = .ok (.iload 11, 2) := by decide +kernel
theorem d_L_talks_720 : decode b_L_talks 720 = .ok (.invokestatic 98, 3) := by decide +kernel
theorem d_L_talks_723 : decode b_L_talks 723 = .ok (.iconst (-1), 1) := by decide +kernel
theorem d_L_talks_724 : decode b_L_talks 724 = .ok (.if_icmp .ne 7, 3) := by decide +kernel
theorem d_L_talks_727 : decode b_L_talks 727 = .ok (.iconst 1, 1) := by decide +kernel
theorem d_L_talks_728 : decode b_L_talks 728 = .ok (.goto 4, 3) := by decide +kernel
theorem d_L_talks_731 : decode b_L_talks 731 = .ok (.iconst 0, 1) := by decide +kernel
theorem d_L_talks_732 : decode b_L_talks 732 = .ok (.ireturn, 1) := by decide +kernel
theorem d_L_talks_733 : decode b_L_talks 733 = .ok (.aload 7, 2) := by decide +kernel
theorem d_L_talks_735 : decode b_L_talks 735 = .ok (.iload 9, 2) := by decide +kernel
theorem d_L_talks_737 : decode b_L_talks 737 = .ok (.dup2, 1) := by decide +kernel
theorem d_L_talks_738 : decode b_L_talks 738 = .ok (.iaload, 1) := by decide +kernel
theorem d_L_talks_739 : decode b_L_talks 739 = .ok (.iconst 1, 1) := by decide +kernel
theorem d_L_talks_740 : decode b_L_talks 740 = .ok (.iadd, 1) := by decide +kernel
theorem d_L_talks_741 : decode b_L_talks 741 = .ok (.iastore, 1) := by decide +kernel
theorem d_L_talks_742 : decode b_L_talks 742 = .ok (.aload_n 0, 1) := by decide +kernel
theorem d_L_talks_743 : decode b_L_talks 743 = .ok (.iload 9, 2) := by decide +kernel
theorem d_L_talks_745 : decode b_L_talks 745 = .ok (.iload 11, 2) := by decide +kernel
theorem d_L_talks_747 : decode b_L_talks 747 = .ok (.invokestatic 98, 3) := by decide +kernel
theorem d_L_talks_750 : decode b_L_talks 750 = .ok (.aload 4, 2) := by decide +kernel
theorem d_L_talks_752 : decode b_L_talks 752 = .ok (.iload 9, 2) := by decide +kernel
theorem d_L_talks_754 : decode b_L_talks 754 = .ok (.invokestatic 100, 3) := by decide +kernel
theorem d_L_talks_757 : decode b_L_talks 757 = .ok (.invokestatic 104, 3) := by decide +kernel
theorem d_L_talks_760 : decode b_L_talks 760 = .ok (.if_icmp .ne 7, 3) := by decide +kernel
theorem d_L_talks_763 : decode b_L_talks 763 = .ok (.iconst 1, 1) := by decide +kernel
theorem d_L_talks_764 : decode b_L_talks 764 = .ok (.goto 4, 3) := by decide +kernel
theorem d_L_talks_767 : decode b_L_talks 767 = .ok (.iconst 0, 1) := by decide +kernel
theorem d_L_talks_768 : decode b_L_talks 768 = .ok (.ireturn, 1) := by decide +kernel
theorem d_L_talks_769 : decode b_L_talks 769 = .ok (.iload_n 1, 1) := by decide +kernel
theorem d_L_talks_770 : decode b_L_talks 770 = .ok (.bipush 12, 2) := by decide +kernel
theorem d_L_talks_772 : decode b_L_talks 772 = .ok (.if_icmp .ne 143, 3) := by decide +kernel
theorem d_L_talks_775 : decode b_L_talks 775 = .ok (.aload 6, 2) := by decide +kernel
theorem d_L_talks_777 : decode b_L_talks 777 = .ok (.iload 9, 2) := by decide +kernel
theorem d_L_talks_779 : decode b_L_talks 779 = .ok (.iaload, 1) := by decide +kernel
theorem d_L_talks_780 : decode b_L_talks 780 = .ok (.ifCond .lt 31, 3) := by decide +kernel
theorem d_L_talks_783 : decode b_L_talks 783 = .ok (.aload_n 0, 1) := by decide +kernel
theorem d_L_talks_784 : decode b_L_talks 784 = .ok (.iload 9, 2) := by decide +kernel
theorem d_L_talks_786 : decode b_L_talks 786 = .ok (.invokestatic 107, 3) := by decide +kernel
theorem d_L_talks_789 : decode b_L_talks 789 = .ok (.bipush (-73), 2) := by decide +kernel
theorem d_L_talks_791 : decode b_L_talks 791 = .ok (.if_icmp .ne 18, 3) := by decide +kernel
theorem d_L_talks_794 : decode b_L_talks 794 = .ok (.aload_n 0, 1) := by decide +kernel
theorem d_L_talks_795 : decode b_L_talks 795 = .ok (.bipush 8, 2) := by decide +kernel
theorem d_L_talks_797 : decode b_L_talks 797 = .ok (.invokestatic 107, 3) := by decide +kernel
theorem d_L_talks_800 : decode b_L_talks 800 = .ok (.bipush (-71), 2) := by decide +kernel
theorem d_L_talks_802 : decode b_L_talks 802 = .ok (.if_icmp .ne 7, 3) := by decide +kernel
theorem d_L_talks_805 : decode b_L_talks 805 = .ok (.iconst 1, 1) := by decide +kernel
theorem d_L_talks_806 : decode b_L_talks 806 = .ok (.goto 4, 3) := by decide +kernel
theorem d_L_talks_809 : decode b_L_talks 809 = .ok (.iconst 0, 1) := by decide +kernel
theorem d_L_talks_810 : decode b_L_talks 810 = .ok (.ireturn, 1) := by decide +kernel
theorem d_L_talks_811 : decode b_L_talks 811 = .ok (.aload 4, 2) := by decide +kernel
theorem d_L_talks_813 : decode b_L_talks 813 = .ok (.iload 9, 2) := by decide +kernel
theorem d_L_talks_815 : decode b_L_talks 815 = .ok (.invokestatic 100, 3) := by decide +kernel
theorem d_L_talks_818 : decode b_L_talks 818 = .ok (.istore 11, 2) := by decide +kernel
theorem d_L_talks_820 : decode b_L_talks 820 = .ok (.iconst 0, 1) := by decide +kernel
theorem d_L_talks_821 : decode b_L_talks 821 = .ok (.istore 12, 2) := by decide +kernel
theorem d_L_talks_823 : decode b_L_talks 823 = .ok (.iload 12, 2) := by decide +kernel
theorem d_L_talks_825 : decode b_L_talks 825 = .ok (.bipush 12, 2) := by decide +kernel
theorem d_L_talks_827 : decode b_L_talks 827 = .ok (.if_icmp .ge 49, 3) := by decide +kernel
theorem d_L_talks_830 : decode b_L_talks 830 = .ok (.iload 11, 2) := by decide +kernel
theorem d_L_talks_832 : decode b_L_talks 832 = .ok (.iload 12, 2) := by decide +kernel
theorem d_L_talks_834 : decode b_L_talks 834 = .ok (.ishr, 1) := by decide +kernel
theorem d_L_talks_835 : decode b_L_talks 835 = .ok (.iconst 1, 1) := by decide +kernel
theorem d_L_talks_836 : decode b_L_talks 836 = .ok (.iand, 1) := by decide +kernel
theorem d_L_talks_837 : decode b_L_talks 837 = .ok (.iconst 1, 1) := by decide +kernel
theorem d_L_talks_838 : decode b_L_talks 838 = .ok (.if_icmp .ne 32, 3) := by decide +kernel
theorem d_L_talks_841 : decode b_L_talks 841 = .ok (.aload 4, 2) := by decide +kernel
theorem d_L_talks_843 : decode b_L_talks 843 = .ok (.bipush 12, 2) := by decide +kernel
theorem d_L_talks_845 : decode b_L_talks 845 = .ok (.iload 9, 2) := by decide +kernel
theorem d_L_talks_847 : decode b_L_talks 847 = .ok (.imul, 1) := by decide +kernel
theorem d_L_talks_848 : decode b_L_talks 848 = .ok (.iload 12, 2) := by decide +kernel
theorem d_L_talks_850 : decode b_L_talks 850 = .ok (.iadd, 1) := by decide +kernel
theorem d_L_talks_851 : decode b_L_talks 851 = .ok (.aload 4, 2) := by decide +kernel
theorem d_L_talks_853 : decode b_L_talks 853 = .ok (.bipush 12, 2) := by decide +kernel
theorem d_L_talks_855 : decode b_L_talks 855 = .ok (.iload 9, 2) := by decide +kernel
theorem d_L_talks_857 : decode b_L_talks 857 = .ok (.imul, 1) := by decide +kernel
theorem d_L_talks_858 : decode b_L_talks 858 = .ok (.iload 12, 2) := by decide +kernel
theorem d_L_talks_860 : decode b_L_talks 860 = .ok (.iadd, 1) := by decide +kernel
theorem d_L_talks_861 : decode b_L_talks 861 = .ok (.iaload, 1) := by decide +kernel
theorem d_L_talks_862 : decode b_L_talks 862 = .ok (.bipush 127, 2) := by decide +kernel
theorem d_L_talks_864 : decode b_L_talks 864 = .ok (.iand, 1) := by decide +kernel
theorem d_L_talks_865 : decode b_L_talks 865 = .ok (.sipush 129, 3) := by decide +kernel
theorem d_L_talks_868 : decode b_L_talks 868 = .ok (.imul, 1) := by decide +kernel
theorem d_L_talks_869 : decode b_L_talks 869 = .ok (.iastore, 1) := by decide +kernel
theorem d_L_talks_870 : decode b_L_talks 870 = .ok (.iinc 12 1, 3) := by decide +kernel
theorem d_L_talks_873 : decode b_L_talks 873 = .ok (.goto (-50), 3) := by decide +kernel
theorem d_L_talks_876 : decode b_L_talks 876 = .ok (.aload 7, 2) := by decide +kernel
theorem d_L_talks_878 : decode b_L_talks 878 = .ok (.iload 9, 2) := by decide +kernel
theorem d_L_talks_880 : decode b_L_talks 880 = .ok (.dup2, 1) := by decide +kernel
theorem d_L_talks_881 : decode b_L_talks 881 = .ok (.iaload, 1) := by decide +kernel
theorem d_L_talks_882 : decode b_L_talks 882 = .ok (.iconst 1, 1) := by decide +kernel
theorem d_L_talks_883 : decode b_L_talks 883 = .ok (.iadd, 1) := by decide +kernel
theorem d_L_talks_884 : decode b_L_talks 884 = .ok (.iastore, 1) := by decide +kernel
theorem d_L_talks_885 : decode b_L_talks 885 = .ok (.aload_n 0, 1) := by decide +kernel
theorem d_L_talks_886 : decode b_L_talks 886 = .ok (.iconst (-1), 1) := by decide +kernel
theorem d_L_talks_887 : decode b_L_talks 887 = .ok (.invokestatic 107, 3) := by decide +kernel
theorem d_L_talks_890 : decode b_L_talks 890 = .ok (.bipush (-71), 2) := by decide +kernel
theorem d_L_talks_892 : decode b_L_talks 892 = .ok (.if_icmp .ne 21, 3) := by decide +kernel
theorem d_L_talks_895 : decode b_L_talks 895 = .ok (.aload_n 0, 1) := by decide +kernel
theorem d_L_talks_896 : decode b_L_talks 896 = .ok (.iload 9, 2) := by decide +kernel
theorem d_L_talks_898 : decode b_L_talks 898 = .ok (.invokestatic 107, 3) := by decide +kernel
theorem d_L_talks_901 : decode b_L_talks 901 = .ok (.iload 11, 2) := by decide +kernel
theorem d_L_talks_903 : decode b_L_talks 903 = .ok (.invokestatic 104, 3) := by decide +kernel
theorem d_L_talks_906 : decode b_L_talks 906 = .ok (.if_icmp .ne 7, 3) := by decide +kernel
theorem d_L_talks_909 : decode b_L_talks 909 = .ok (.iconst 1, 1) := by decide +kernel
theorem d_L_talks_910 : decode b_L_talks 910 = .ok (.goto 4, 3) := by decide +kernel
theorem d_L_talks_913 : decode b_L_talks 913 = .ok (.iconst 0, 1) := by decide +kernel
theorem d_L_talks_914 : decode b_L_talks 914 = .ok (.ireturn, 1) := by decide +kernel
theorem d_L_talks_915 : decode b_L_talks 915 = .ok (.iload_n 1, 1) := by decide +kernel
theorem d_L_talks_916 : decode b_L_talks 916 = .ok (.bipush 16, 2) := by decide +kernel
theorem d_L_talks_918 : decode b_L_talks 918 = .ok (.if_icmp .ge 215, 3) := by decide +kernel
theorem d_L_talks_921 : decode b_L_talks 921 = .ok (.iconst 1, 1) := by decide +kernel
theorem d_L_talks_922 : decode b_L_talks 922 = .ok (.iload_n 3, 1) := by decide +kernel
theorem d_L_talks_923 : decode b_L_talks 923 = .ok (.iconst 4, 1) := by decide +kernel
theorem d_L_talks_924 : decode b_L_talks 924 = .ok (.ishr, 1) := by decide +kernel
theorem d_L_talks_925 : decode b_L_talks 925 = .ok (.bipush 9, 2) := by decide +kernel
theorem d_L_talks_927 : decode b_L_talks 927 = .ok (.invokestatic 79, 3) := by decide +kernel
theorem d_L_talks_930 : decode b_L_talks 930 = .ok (.iadd, 1) := by decide +kernel
theorem d_L_talks_931 : decode b_L_talks 931 = .ok (.istore 11, 2) := by decide +kernel
theorem d_L_talks_933 : decode b_L_talks 933 = .ok (.iconst 0, 1) := by decide +kernel
theorem d_L_talks_934 : decode b_L_talks 934 = .ok (.istore 12, 2) := by decide +kernel
theorem d_L_talks_936 : decode b_L_talks 936 = .ok (.iload 12, 2) := by decide +kernel
theorem d_L_talks_938 : decode b_L_talks 938 = .ok (.bipush 12, 2) := by decide +kernel
theorem d_L_talks_940 : decode b_L_talks 940 = .ok (.if_icmp .ge 41, 3) := by decide +kernel
theorem d_L_talks_943 : decode b_L_talks 943 = .ok (.iload_n 2, 1) := by decide +kernel
theorem d_L_talks_944 : decode b_L_talks 944 = .ok (.sipush 128, 3) := by decide +kernel
theorem d_L_talks_947 : decode b_L_talks 947 = .ok (.iand, 1) := by decide +kernel
theorem d_L_talks_948 : decode b_L_talks 948 = .ok (.ifCond .le 33, 3) := by decide +kernel
theorem d_L_talks_951 : decode b_L_talks 951 = .ok (.aload 4, 2) := by decide +kernel
theorem d_L_talks_953 : decode b_L_talks 953 = .ok (.iload 9, 2) := by decide +kernel
theorem d_L_talks_955 : decode b_L_talks 955 = .ok (.invokestatic 100, 3) := by decide +kernel
theorem d_L_talks_958 : decode b_L_talks 958 = .ok (.iload 10, 2) := by decide +kernel
theorem d_L_talks_960 : decode b_L_talks 960 = .ok (.ishr, 1) := by decide +kernel
theorem d_L_talks_961 : decode b_L_talks 961 = .ok (.iconst 1, 1) := by decide +kernel
theorem d_L_talks_962 : decode b_L_talks 962 = .ok (.iand, 1) := by decide +kernel
theorem d_L_talks_963 : decode b_L_talks 963 = .ok (.ifCond .ne 18, 3) := by decide +kernel
theorem d_L_talks_966 : decode b_L_talks 966 = .ok (.iload 10, 2) := by decide +kernel
theorem d_L_talks_968 : decode b_L_talks 968 = .ok (.iconst 1, 1) := by decide +kernel
theorem d_L_talks_969 : decode b_L_talks 969 = .ok (.iadd, 1) := by decide +kernel
theorem d_L_talks_970 : decode b_L_talks 970 = .ok (.bipush 12, 2) := by decide +kernel
theorem d_L_talks_972 : decode b_L_talks 972 = .ok (.irem, 1) := by decide +kernel
theorem d_L_talks_973 : decode b_L_talks 973 = .ok (.istore 10, 2) := by decide +kernel
theorem d_L_talks_975 : decode b_L_talks 975 = .ok (.iinc 12 1, 3) := by decide +kernel
theorem d_L_talks_978 : decode b_L_talks 978 = .ok (.goto (-42), 3) := by decide +kernel
theorem d_L_talks_981 : decode b_L_talks 981 = .ok (.aload_n 0, 1) := by decide +kernel
theorem d_L_talks_982 : decode b_L_talks 982 = .ok (.iload 9, 2) := by decide +kernel
theorem d_L_talks_984 : decode b_L_talks 984 = .ok (.bipush 12, 2) := by decide +kernel
theorem d_L_talks_986 : decode b_L_talks 986 = .ok (.iconst 0, 1) := by decide +kernel
theorem d_L_talks_987 : decode b_L_talks 987 = .ok (.invokestatic 109, 3) := by decide +kernel
theorem d_L_talks_990 : decode b_L_talks 990 = .ok (.bipush (-71), 2) := by decide +kernel
theorem d_L_talks_992 : decode b_L_talks 992 = .ok (.if_icmp .ne 46, 3) := by decide +kernel
theorem d_L_talks_995 : decode b_L_talks 995 = .ok (.aload_n 0, 1) := by decide +kernel
theorem d_L_talks_996 : decode b_L_talks 996 = .ok (.bipush 8, 2) := by decide +kernel
theorem d_L_talks_998 : decode b_L_talks 998 = .ok (.iload 10, 2) := by decide +kernel
theorem d_L_talks_1000 : decode b_L_talks 1000 = .ok (.iconst 0, 1) := by decide +kernel
theorem d_L_talks_1001 : decode b_L_talks 1001 = .ok (.invokestatic 109, 3) := by decide +kernel
theorem d_L_talks_1004 : decode b_L_talks 1004 = .ok (.bipush (-71), 2) := by decide +kernel
theorem d_L_talks_1006 : decode b_L_talks 1006 = .ok (.if_icmp .ne 32, 3) := by decide +kernel
theorem d_L_talks_1009 : decode b_L_talks 1009 = .ok (.aload_n 0, 1) := by decide +kernel
theorem d_L_talks_1010 : decode b_L_talks 1010 = .ok (.iload 9, 2) := by decide +kernel
theorem d_L_talks_1012 : decode b_L_talks 1012 = .ok (.iload 10, 2) := by decide +kernel
theorem d_L_talks_1014 : decode b_L_talks 1014 = .ok (.iconst 0, 1) := by decide +kernel
theorem d_L_talks_1015 : decode b_L_talks 1015 = .ok (.invokestatic 109, 3) := by decide +kernel
theorem d_L_talks_1018 : decode b_L_talks 1018 = .ok (.bipush (-72), 2) := by decide +kernel
theorem d_L_talks_1020 : decode b_L_talks 1020 = .ok (.if_icmp .ne 18, 3) := by decide +kernel
theorem d_L_talks_1023 : decode b_L_talks 1023 = .ok (.aload_n 0, 1) := by decide +kernel
theorem d_L_talks_1024 : decode b_L_talks 1024 = .ok (.iload 9, 2) := by decide +kernel
theorem d_L_talks_1026 : decode b_L_talks 1026 = .ok (.iload 10, 2) := by decide +kernel
theorem d_L_talks_1028 : decode b_L_talks 1028 = .ok (.bipush 10, 2) := by decide +kernel
theorem d_L_talks_1030 : decode b_L_talks 1030 = .ok (.invokestatic 109, 3) := by decide +kernel
theorem d_L_talks_1033 : decode b_L_talks 1033 = .ok (.bipush (-72), 2) := by decide +kernel
theorem d_L_talks_1035 : decode b_L_talks 1035 = .ok (.if_icmp .eq 5, 3) := by decide +kernel
theorem d_L_talks_1038 : decode b_L_talks 1038 = .ok (.iconst 0, 1) := by decide +kernel
theorem d_L_talks_1039 : decode b_L_talks 1039 = .ok (.ireturn, 1) := by decide +kernel
theorem d_L_talks_1040 : decode b_L_talks 1040 = .ok (.aload 6, 2) := by decide +kernel
theorem d_L_talks_1042 : decode b_L_talks 1042 = .ok (.iload 9, 2) := by decide +kernel
theorem d_L_talks_1044 : decode b_L_talks 1044 = .ok (.iaload, 1) := by decide +kernel
theorem d_L_talks_1045 : decode b_L_talks 1045 = .ok (.ifCond .ge 18, 3) := by decide +kernel
theorem d_L_talks_1048 : decode b_L_talks 1048 = .ok (.aload 4, 2) := by decide +kernel
theorem d_L_talks_1050 : decode b_L_talks 1050 = .ok (.iload 9, 2) := by decide +kernel
theorem d_L_talks_1052 : decode b_L_talks 1052 = .ok (.invokestatic 100, 3) := by decide +kernel
theorem d_L_talks_1055 : decode b_L_talks 1055 = .ok (.iload 10, 2) := by decide +kernel
theorem d_L_talks_1057 : decode b_L_talks 1057 = .ok (.ishr, 1) := by decide +kernel
theorem d_L_talks_1058 : decode b_L_talks 1058 = .ok (.iconst 1, 1) := by decide +kernel
theorem d_L_talks_1059 : decode b_L_talks 1059 = .ok (.iand, 1) := by decide +kernel
theorem d_L_talks_1060 : decode b_L_talks 1060 = .ok (.ifCond .ne 24, 3) := by decide +kernel
theorem d_L_talks_1063 : decode b_L_talks 1063 = .ok (.aload_n 0, 1) := by decide +kernel
theorem d_L_talks_1064 : decode b_L_talks 1064 = .ok (.iload 9, 2) := by decide +kernel
theorem d_L_talks_1066 : decode b_L_talks 1066 = .ok (.iload 10, 2) := by decide +kernel
theorem d_L_talks_1068 : decode b_L_talks 1068 = .ok (.iload 11, 2) := by decide +kernel
theorem d_L_talks_1070 : decode b_L_talks 1070 = .ok (.invokestatic 109, 3) := by decide +kernel
theorem d_L_talks_1073 : decode b_L_talks 1073 = .ok (.bipush (-73), 2) := by decide +kernel
theorem d_L_talks_1075 : decode b_L_talks 1075 = .ok (.if_icmp .ne 7, 3) := by decide +kernel
theorem d_L_talks_1078 : decode b_L_talks 1078 = .ok (.iconst 1, 1) := by decide +kernel
theorem d_L_talks_1079 : decode b_L_talks 1079 = .ok (.goto 4, 3) := by decide +kernel
theorem d_L_talks_1082 : decode b_L_talks 1082 = .ok (.iconst 0, 1) := by decide +kernel
theorem d_L_talks_1083 : decode b_L_talks 1083 = .ok (.ireturn, 1) := by decide +kernel
theorem d_L_talks_1084 : decode b_L_talks 1084 = .ok (.aload 4, 2) := by decide +kernel
theorem d_L_talks_1086 : decode b_L_talks 1086 = .ok (.bipush 12, 2) := by decide +kernel
theorem d_L_talks_1088 : decode b_L_talks 1088 = .ok (.iload 9, 2) := by decide +kernel
theorem d_L_talks_1090 : decode b_L_talks 1090 = .ok (.imul, 1) := by decide +kernel
theorem d_L_talks_1091 : decode b_L_talks 1091 = .ok (.iload 10, 2) := by decide +kernel
theorem d_L_talks_1093 : decode b_L_talks 1093 = .ok (.iadd, 1) := by decide +kernel
theorem d_L_talks_1094 : decode b_L_talks 1094 = .ok (.dup2, 1) := by decide +kernel
theorem d_L_talks_1095 : decode b_L_talks 1095 = .ok (.iaload, 1) := by decide +kernel
theorem d_L_talks_1096 : decode b_L_talks 1096 = .ok (.sipush 16384, 3) := by decide +kernel
theorem d_L_talks_1099 : decode b_L_talks 1099 = .ok (.iload 11, 2) := by decide +kernel
theorem d_L_talks_1101 : decode b_L_talks 1101 = .ok (.imul, 1) := by decide +kernel
theorem d_L_talks_1102 : decode b_L_talks 1102 = .ok (.iadd, 1) := by decide +kernel
theorem d_L_talks_1103 : decode b_L_talks 1103 = .ok (.iastore, 1) := by decide +kernel
theorem d_L_talks_1104 : decode b_L_talks 1104 = .ok (.aload_n 0, 1) := by decide +kernel
theorem d_L_talks_1105 : decode b_L_talks 1105 = .ok (.iload 9, 2) := by decide +kernel
theorem d_L_talks_1107 : decode b_L_talks 1107 = .ok (.iload 10, 2) := by decide +kernel
theorem d_L_talks_1109 : decode b_L_talks 1109 = .ok (.iload 11, 2) := by decide +kernel
theorem d_L_talks_1111 : decode b_L_talks 1111 = .ok (.invokestatic 109, 3) := by decide +kernel
theorem d_L_talks_1114 : decode b_L_talks 1114 = .ok (.aload 4, 2) := by decide +kernel
theorem d_L_talks_1116 : decode b_L_talks 1116 = .ok (.iload 9, 2) := by decide +kernel
theorem d_L_talks_1118 : decode b_L_talks 1118 = .ok (.invokestatic 100, 3) := by decide +kernel
theorem d_L_talks_1121 : decode b_L_talks 1121 = .ok (.invokestatic 104, 3) := by decide +kernel
theorem d_L_talks_1124 : decode b_L_talks 1124 = .ok (.if_icmp .ne 7, 3) := by decide +kernel
theorem d_L_talks_1127 : decode b_L_talks 1127 = .ok (.iconst 1, 1) := by decide +kernel
theorem d_L_talks_1128 : decode b_L_talks 1128 = .ok (.goto 4, 3) := by decide +kernel
theorem d_L_talks_1131 : decode b_L_talks 1131 = .ok (.iconst 0, 1) := by decide +kernel
theorem d_L_talks_1132 : decode b_L_talks 1132 = .ok (.ireturn, 1) := by decide +kernel
theorem d_L_talks_1133 : decode b_L_talks 1133 = .ok (.iload_n 1, 1) := by decide +kernel
theorem d_L_talks_1134 : decode b_L_talks 1134 = .ok (.bipush 16, 2) := by decide +kernel
theorem d_L_talks_1136 : decode b_L_talks 1136 = .ok (.if_icmp .ne 77, 3) := by decide +kernel
theorem d_L_talks_1139 : decode b_L_talks 1139 = .ok (.aload 6, 2) := by decide +kernel
theorem d_L_talks_1141 : decode b_L_talks 1141 = .ok (.iload 9, 2) := by decide +kernel
theorem d_L_talks_1143 : decode b_L_talks 1143 = .ok (.iaload, 1) := by decide +kernel
theorem d_L_talks_1144 : decode b_L_talks 1144 = .ok (.ifCond .ge 7, 3) := by decide +kernel
theorem d_L_talks_1147 : decode b_L_talks 1147 = .ok (.iconst 1, 1) := by decide +kernel
theorem d_L_talks_1148 : decode b_L_talks 1148 = .ok (.goto 4, 3) := by decide +kernel
theorem d_L_talks_1151 : decode b_L_talks 1151 = .ok (.iconst 0, 1) := by decide +kernel
theorem d_L_talks_1152 : decode b_L_talks 1152 = .ok (.istore 11, 2) := by decide +kernel
theorem d_L_talks_1154 : decode b_L_talks 1154 = .ok (.aload 6, 2) := by decide +kernel
theorem d_L_talks_1156 : decode b_L_talks 1156 = .ok (.iload 9, 2) := by decide +kernel
theorem d_L_talks_1158 : decode b_L_talks 1158 = .ok (.iload 11, 2) := by decide +kernel
theorem d_L_talks_1160 : decode b_L_talks 1160 = .ok (.ifCond .eq 11, 3) := by decide +kernel
theorem d_L_talks_1163 : decode b_L_talks 1163 = .ok (.aload 5, 2) := by decide +kernel
theorem d_L_talks_1165 : decode b_L_talks 1165 = .ok (.iload 9, 2) := by decide +kernel
theorem d_L_talks_1167 : decode b_L_talks 1167 = .ok (.iaload, 1) := by decide +kernel
theorem d_L_talks_1168 : decode b_L_talks 1168 = .ok (.goto 8, 3) := by decide +kernel
theorem d_L_talks_1171 : decode b_L_talks 1171 = .ok (.aload 6, 2) := by decide +kernel
theorem d_L_talks_1173 : decode b_L_talks 1173 = .ok (.iload 9, 2) := by decide +kernel
theorem d_L_talks_1175 : decode b_L_talks 1175 = .ok (.iaload, 1) := by decide +kernel
theorem d_L_talks_1176 : decode b_L_talks 1176 = .ok (.iastore, 1) := by decide +kernel
theorem d_L_talks_1177 : decode b_L_talks 1177 = .ok (.aload_n 0, 1) := by decide +kernel
theorem d_L_talks_1178 : decode b_L_talks 1178 = .ok (.bipush 8, 2) := by decide +kernel
theorem d_L_talks_1180 : decode b_L_talks 1180 = .ok (.invokestatic 112, 3) := by decide +kernel
theorem d_L_talks_1183 : decode b_L_talks 1183 = .ok (.bipush (-71), 2) := by decide +kernel
theorem d_L_talks_1185 : decode b_L_talks 1185 = .ok (.if_icmp .ne 26, 3) := by decide +kernel
theorem d_L_talks_1188 : decode b_L_talks 1188 = .ok (.aload_n 0, 1) := by decide +kernel
theorem d_L_talks_1189 : decode b_L_talks 1189 = .ok (.iload 9, 2) := by decide +kernel
theorem d_L_talks_1191 : decode b_L_talks 1191 = .ok (.invokestatic 112, 3) := by decide +kernel
theorem d_L_talks_1194 : decode b_L_talks 1194 = .ok (.iload 11, 2) := by decide +kernel
theorem d_L_talks_1196 : decode b_L_talks 1196 = .ok (.ifCond .eq 7, 3) := by decide +kernel
theorem d_L_talks_1199 : decode b_L_talks 1199 = .ok (.iconst 1, 1) := by decide +kernel
theorem d_L_talks_1200 : decode b_L_talks 1200 = .ok (.goto 4, 3) := by decide +kernel
theorem d_L_talks_1203 : decode b_L_talks 1203 = .ok (.iconst 0, 1) := by decide +kernel
theorem d_L_talks_1204 : decode b_L_talks 1204 = .ok (.if_icmp .ne 7, 3) := by decide +kernel
theorem d_L_talks_1207 : decode b_L_talks 1207 = .ok (.iconst 1, 1) := by decide +kernel
theorem d_L_talks_1208 : decode b_L_talks 1208 = .ok (.goto 4, 3) := by decide +kernel
theorem d_L_talks_1211 : decode b_L_talks 1211 = .ok (.iconst 0, 1) := by decide +kernel
theorem d_L_talks_1212 : decode b_L_talks 1212 = .ok (.ireturn, 1) := by decide +kernel
theorem d_L_talks_1213 : decode b_L_talks 1213 = .ok (.aload 6, 2) := by decide +kernel
theorem d_L_talks_1215 : decode b_L_talks 1215 = .ok (.iload 9, 2) := by decide +kernel
theorem d_L_talks_1217 : decode b_L_talks 1217 = .ok (.iaload, 1) := by decide +kernel
theorem d_L_talks_1218 : decode b_L_talks 1218 = .ok (.ifCond .ge 7, 3) := by decide +kernel
theorem d_L_talks_1221 : decode b_L_talks 1221 = .ok (.iconst 0, 1) := by decide +kernel
theorem d_L_talks_1222 : decode b_L_talks 1222 = .ok (.goto 14, 3) := by decide +kernel
theorem d_L_talks_1225 : decode b_L_talks 1225 = .ok (.aload 5, 2) := by decide +kernel
theorem d_L_talks_1227 : decode b_L_talks 1227 = .ok (.iload 9, 2) := by decide +kernel
theorem d_L_talks_1229 : decode b_L_talks 1229 = .ok (.iaload, 1) := by decide +kernel
theorem d_L_talks_1230 : decode b_L_talks 1230 = .ok (.aload 6, 2) := by decide +kernel
theorem d_L_talks_1232 : decode b_L_talks 1232 = .ok (.iload 9, 2) := by decide +kernel
theorem d_L_talks_1234 : decode b_L_talks 1234 = .ok (.iaload, 1) := by decide +kernel
theorem d_L_talks_1235 : decode b_L_talks 1235 = .ok (.isub, 1) := by decide +kernel
theorem d_L_talks_1236 : decode b_L_talks 1236 = .ok (.istore 11, 2) := by decide +kernel
theorem d_L_talks_1238 : decode b_L_talks 1238 = .ok (.aload 6, 2) := by decide +kernel
theorem d_L_talks_1240 : decode b_L_talks 1240 = .ok (.iload 9, 2) := by decide +kernel
theorem d_L_talks_1242 : decode b_L_talks 1242 = .ok (.iconst (-1), 1) := by decide +kernel
theorem d_L_talks_1243 : decode b_L_talks 1243 = .ok (.iastore, 1) := by decide +kernel
theorem d_L_talks_1244 : decode b_L_talks 1244 = .ok (.aload_n 0, 1) := by decide +kernel
theorem d_L_talks_1245 : decode b_L_talks 1245 = .ok (.iconst (-1), 1) := by decide +kernel
theorem d_L_talks_1246 : decode b_L_talks 1246 = .ok (.invokestatic 114, 3) := by decide +kernel
theorem d_L_talks_1249 : decode b_L_talks 1249 = .ok (.bipush (-71), 2) := by decide +kernel
theorem d_L_talks_1251 : decode b_L_talks 1251 = .ok (.if_icmp .ne 18, 3) := by decide +kernel
theorem d_L_talks_1254 : decode b_L_talks 1254 = .ok (.aload_n 0, 1) := by decide +kernel
theorem d_L_talks_1255 : decode b_L_talks 1255 = .ok (.iload 9, 2) := by decide +kernel
theorem d_L_talks_1257 : decode b_L_talks 1257 = .ok (.invokestatic 114, 3) := by decide +kernel
theorem d_L_talks_1260 : decode b_L_talks 1260 = .ok (.iload 11, 2) := by decide +kernel
theorem d_L_talks_1262 : decode b_L_talks 1262 = .ok (.if_icmp .ne 7, 3) := by decide +kernel
theorem d_L_talks_1265 : decode b_L_talks 1265 = .ok (.iconst 1, 1) := by decide +kernel
theorem d_L_talks_1266 : decode b_L_talks 1266 = .ok (.goto 4, 3) := by decide +kernel
theorem d_L_talks_1269 : decode b_L_talks 1269 = .ok (.iconst 0, 1) := by decide +kernel
theorem d_L_talks_1270 : decode b_L_talks 1270 = .ok (.ireturn, 1) := by decide +kernel
theorem d_L_works_0 : decode b_L_works 0 = .ok (.iload_n 2, 1) := by decide +kernel
theorem d_L_works_1 : decode b_L_works 1 = .ok (.iconst 4, 1) := by decide +kernel
theorem d_L_works_2 : decode b_L_works 2 = .ok (.invokestatic 79, 3) := by decide +kernel
theorem d_L_works_5 : decode b_L_works 5 = .ok (.istore 11, 2) := by decide +kernel
theorem d_L_works_7 : decode b_L_works 7 = .ok (.iload_n 2, 1) := by decide +kernel
theorem d_L_works_8 : decode b_L_works 8 = .ok (.bipush 64, 2) := by decide +kernel
theorem d_L_works_10 : decode b_L_works 10 = .ok (.iand, 1) := by decide +kernel
theorem d_L_works_11 : decode b_L_works 11 = .ok (.ifCond .ne 12, 3) := by decide +kernel
theorem d_L_works_14 : decode b_L_works 14 = .ok (.iload_n 3, 1) := by decide +kernel
theorem d_L_works_15 : decode b_L_works 15 = .ok (.bipush 12, 2) := by decide +kernel
theorem d_L_works_17 : decode b_L_works 17 = .ok (.invokestatic 79, 3) := by decide +kernel
theorem d_L_works_20 : decode b_L_works 20 = .ok (.goto 8, 3) := by decide +kernel
theorem d_L_works_23 : decode b_L_works 23 = .ok (.iload_n 3, 1) := by decide +kernel
theorem d_L_works_24 : decode b_L_works 24 = .ok (.iconst 3, 1) := by decide +kernel
theorem d_L_works_25 : decode b_L_works 25 = .ok (.invokestatic 79, 3) := by decide +kernel
theorem d_L_works_28 : decode b_L_works 28 = .ok (.istore 12, 2) := by decide +kernel
theorem d_L_works_30 : decode b_L_works 30 = .ok (.iload_n 1, 1) := by decide +kernel
theorem d_L_works_31 : decode b_L_works 31 = .ok (.ifCond .ne 169, 3) := by decide +kernel
theorem d_L_works_34 : decode b_L_works 34 = .ok (.iload_n 3, 1) := by decide +kernel
theorem d_L_works_35 : decode b_L_works 35 = .ok (.iconst 4, 1) := by decide +kernel
theorem d_L_works_36 : decode b_L_works 36 = .ok (.ishr, 1) := by decide +kernel
theorem d_L_works_37 : decode b_L_works 37 = .ok (.iload_n 3, 1) := by decide +kernel
theorem d_L_works_38 : decode b_L_works 38 = .ok (.bipush 8, 2) := by decide +kernel
theorem d_L_works_40 : decode b_L_works 40 = .ok (.iand, 1) := by decide +kernel
theorem d_L_works_41 : decode b_L_works 41 = .ok (.ifCond .ne 8, 3) := by decide +kernel
theorem d_L_works_44 : decode b_L_works 44 = .ok (.bipush 100, 2) := by decide +kernel
theorem d_L_works_46 : decode b_L_works 46 = .ok (.goto 4, 3) := by decide +kernel
theorem d_L_works_49 : decode b_L_works 49 = .ok (.iconst 4, 1) := by decide +kernel
theorem d_L_works_50 : decode b_L_works 50 = .ok (.invokestatic 79, 3) := by decide +kernel
theorem d_L_works_53 : decode b_L_works 53 = .ok (.istore 13, 2) := by decide +kernel
theorem d_L_works_55 : decode b_L_works 55 = .ok (.iload 13, 2) := by decide +kernel
theorem d_L_works_57 : decode b_L_works 57 = .ok (.iload_n 3, 1) := by decide +kernel
theorem d_L_works_58 : decode b_L_works 58 = .ok (.bipush 12, 2) := by decide +kernel
theorem d_L_works_60 : decode b_L_works 60 = .ok (.ishr, 1) := by decide +kernel
theorem d_L_works_61 : decode b_L_works 61 = .ok (.bipush 100, 2) := by decide +kernel
theorem d_L_works_63 : decode b_L_works 63 = .ok (.iload 13, 2) := by decide +kernel
theorem d_L_works_65 : decode b_L_works 65 = .ok (.isub, 1) := by decide +kernel
theorem d_L_works_66 : decode b_L_works 66 = .ok (.invokestatic 79, 3) := by decide +kernel
theorem d_L_works_69 : decode b_L_works 69 = .ok (.iadd, 1) := by decide +kernel
theorem d_L_works_70 : decode b_L_works 70 = .ok (.istore 14, 2) := by decide +kernel
theorem d_L_works_72 : decode b_L_works 72 = .ok (.aload 6, 2) := by decide +kernel
theorem d_L_works_74 : decode b_L_works 74 = .ok (.iload 11, 2) := by decide +kernel
theorem d_L_works_76 : decode b_L_works 76 = .ok (.iload 12, 2) := by decide +kernel
theorem d_L_works_78 : decode b_L_works 78 = .ok (.bipush 16, 2) := by decide +kernel
theorem d_L_works_80 : decode b_L_works 80 = .ok (.iload 13, 2) := by decide +kernel
theorem d_L_works_82 : decode b_L_works 82 = .ok (.imul, 1) := by decide +kernel
theorem d_L_works_83 : decode b_L_works 83 = .ok (.iadd, 1) := by decide +kernel
theorem d_L_works_84 : decode b_L_works 84 = .ok (.sipush 2048, 3) := by decide +kernel
theorem d_L_works_87 : decode b_L_works 87 = .ok (.iload 14, 2) := by decide +kernel
theorem d_L_works_89 : decode b_L_works 89 = .ok (.imul, 1) := by decide +kernel
theorem d_L_works_90 : decode b_L_works 90 = .ok (.iadd, 1) := by decide +kernel
theorem d_L_works_91 : decode b_L_works 91 = .ok (.iastore, 1) := by decide +kernel
theorem d_L_works_92 : decode b_L_works 92 = .ok (.aload_n 0, 1) := by decide +kernel
theorem d_L_works_93 : decode b_L_works 93 = .ok (.iconst 4, 1) := by decide +kernel
theorem d_L_works_94 : decode b_L_works 94 = .ok (.iload 12, 2) := by decide +kernel
theorem d_L_works_96 : decode b_L_works 96 = .ok (.iconst 5, 1) := by decide +kernel
theorem d_L_works_97 : decode b_L_works 97 = .ok (.iconst 4, 1) := by decide +kernel
theorem d_L_works_98 : decode b_L_works 98 = .ok (.invokestatic 116, 3) := by decide +kernel
theorem d_L_works_101 : decode b_L_works 101 = .ok (.bipush (-71), 2) := by decide +kernel
theorem d_L_works_103 : decode b_L_works 103 = .ok (.if_icmp .ne 95, 3) := by decide +kernel
theorem d_L_works_106 : decode b_L_works 106 = .ok (.aload_n 0, 1) := by decide +kernel
theorem d_L_works_107 : decode b_L_works 107 = .ok (.iload 11, 2) := by decide +kernel
theorem d_L_works_109 : decode b_L_works 109 = .ok (.bipush 12, 2) := by decide +kernel
theorem d_L_works_111 : decode b_L_works 111 = .ok (.iconst 0, 1) := by decide +kernel
theorem d_L_works_112 : decode b_L_works 112 = .ok (.iconst 0, 1) := by decide +kernel
theorem d_L_works_113 : decode b_L_works 113 = .ok (.invokestatic 116, 3) := by decide +kernel
theorem d_L_works_116 : decode b_L_works 116 = .ok (.bipush (-71), 2) := by decide +kernel
theorem d_L_works_118 : decode b_L_works 118 = .ok (.if_icmp .ne 80, 3) := by decide +kernel
theorem d_L_works_121 : decode b_L_works 121 = .ok (.aload_n 0, 1) := by decide +kernel
theorem d_L_works_122 : decode b_L_works 122 = .ok (.iload 11, 2) := by decide +kernel
theorem d_L_works_124 : decode b_L_works 124 = .ok (.iload 12, 2) := by decide +kernel
theorem d_L_works_126 : decode b_L_works 126 = .ok (.iconst 5, 1) := by decide +kernel
theorem d_L_works_127 : decode b_L_works 127 = .ok (.iconst 4, 1) := by decide +kernel
theorem d_L_works_128 : decode b_L_works 128 = .ok (.invokestatic 116, 3) := by decide +kernel
theorem d_L_works_131 : decode b_L_works 131 = .ok (.bipush (-72), 2) := by decide +kernel
theorem d_L_works_133 : decode b_L_works 133 = .ok (.if_icmp .ne 65, 3) := by decide +kernel
theorem d_L_works_136 : decode b_L_works 136 = .ok (.aload_n 0, 1) := by decide +kernel
theorem d_L_works_137 : decode b_L_works 137 = .ok (.iload 11, 2) := by decide +kernel
theorem d_L_works_139 : decode b_L_works 139 = .ok (.iload 12, 2) := by decide +kernel
theorem d_L_works_141 : decode b_L_works 141 = .ok (.iconst 0, 1) := by decide +kernel
theorem d_L_works_142 : decode b_L_works 142 = .ok (.bipush 100, 2) := by decide +kernel
theorem d_L_works_144 : decode b_L_works 144 = .ok (.invokestatic 116, 3) := by decide +kernel
theorem d_L_works_147 : decode b_L_works 147 = .ok (.bipush (-72), 2) := by decide +kernel
theorem d_L_works_149 : decode b_L_works 149 = .ok (.if_icmp .ne 49, 3) := by decide +kernel
theorem d_L_works_152 : decode b_L_works 152 = .ok (.aload_n 0, 1) := by decide +kernel
theorem d_L_works_153 : decode b_L_works 153 = .ok (.iload 11, 2) := by decide +kernel
theorem d_L_works_155 : decode b_L_works 155 = .ok (.iload 12, 2) := by decide +kernel
theorem d_L_works_157 : decode b_L_works 157 = .ok (.iconst (-1), 1) := by decide +kernel
theorem d_L_works_158 : decode b_L_works 158 = .ok (.iconst 4, 1) := by decide +kernel
theorem d_L_works_159 : decode b_L_works 159 = .ok (.invokestatic 116, 3) := by decide +kernel
theorem d_L_works_162 : decode b_L_works 162 = .ok (.bipush (-72), 2) := by decide +kernel
theorem d_L_works_164 : decode b_L_works 164 = .ok (.if_icmp .ne 34, 3) := by decide +kernel
theorem d_L_works_167 : decode b_L_works 167 = .ok (.aload_n 0, 1) := by decide +kernel
theorem d_L_works_168 : decode b_L_works 168 = .ok (.iload 11, 2) := by decide +kernel
theorem d_L_works_170 : decode b_L_works 170 = .ok (.iload 12, 2) := by decide +kernel
theorem d_L_works_172 : decode b_L_works 172 = .ok (.iload 13, 2) := by decide +kernel
theorem d_L_works_174 : decode b_L_works 174 = .ok (.iload 14, 2) := by decide +kernel
theorem d_L_works_176 : decode b_L_works 176 = .ok (.invokestatic 116, 3) := by decide +kernel
theorem d_L_works_179 : decode b_L_works 179 = .ok (.aload 4, 2) := by decide +kernel
theorem d_L_works_181 : decode b_L_works 181 = .ok (.aload 6, 2) := by decide +kernel
theorem d_L_works_183 : decode b_L_works 183 = .ok (.iload 11, 2) := by decide +kernel
theorem d_L_works_185 : decode b_L_works 185 = .ok (.invokestatic 75, 3) := by decide +kernel
theorem d_L_works_188 : decode b_L_works 188 = .ok (.invokestatic 104, 3) := by decide +kernel
theorem d_L_works_191 : decode b_L_works 191 = .ok (.if_icmp .ne 7, 3) := by decide +kernel
theorem d_L_works_194 : decode b_L_works 194 = .ok (.iconst 1, 1) := by decide +kernel
theorem d_L_works_195 : decode b_L_works 195 = .ok (.goto 4, 3) := by decide +kernel
theorem d_L_works_198 : decode b_L_works 198 = .ok (.iconst 0, 1) := by decide +kernel
theorem d_L_works_199 : decode b_L_works 199 = .ok (.ireturn, 1) := by decide +kernel
theorem d_L_works_200 : decode b_L_works 200 = .ok (.iload_n 1, 1) := by decide +kernel
theorem d_L_works_201 : decode b_L_works 201 = .ok (.iconst 1, 1) := by decide +kernel
theorem d_L_works_202 : decode b_L_works 202 = .ok (.if_icmp .ne 307, 3) := by decide +kernel
theorem d_L_works_205 : decode b_L_works 205 = .ok (.iload_n 3, 1) := by decide +kernel
theorem d_L_works_206 : decode b_L_works 206 = .ok (.iconst 4, 1) := by decide +kernel
theorem d_L_works_207 : decode b_L_works 207 = .ok (.ishr, 1) := by decide +kernel
theorem d_L_works_208 : decode b_L_works 208 = .ok (.iload_n 3, 1) := by decide +kernel
theorem d_L_works_209 : decode b_L_works 209 = .ok (.bipush 8, 2) := by decide +kernel
theorem d_L_works_211 : decode b_L_works 211 = .ok (.iand, 1) := by decide +kernel
theorem d_L_works_212 : decode b_L_works 212 = .ok (.ifCond .ne 8, 3) := by decide +kernel
theorem d_L_works_215 : decode b_L_works 215 = .ok (.bipush 100, 2) := by decide +kernel
theorem d_L_works_217 : decode b_L_works 217 = .ok (.goto 4, 3) := by decide +kernel
theorem d_L_works_220 : decode b_L_works 220 = .ok (.iconst 4, 1) := by decide +kernel
theorem d_L_works_221 : decode b_L_works 221 = .ok (.invokestatic 79, 3) := by decide +kernel
theorem d_L_works_224 : decode b_L_works 224 = .ok (.istore 13, 2) := by decide +kernel
theorem d_L_works_226 : decode b_L_works 226 = .ok (.iconst 1, 1) := by decide +kernel
theorem d_L_works_227 : decode b_L_works 227 = .ok (.iload_n 2, 1) := by decide +kernel
theorem d_L_works_228 : decode b_L_works 228 = .ok (.bipush 8, 2) := by decide +kernel
theorem d_L_works_230 : decode b_L_works 230 = .ok (.ishr, 1) := by decide +kernel
theorem d_L_works_231 : decode b_L_works 231 = .ok (.iload_n 2, 1) := by decide +kernel
theorem d_L_works_232 : decode b_L_works 232 = .ok (.sipush 128, 3) := by decide +kernel
theorem d_L_works_235 : decode b_L_works 235 = .ok (.iand, 1) := by decide +kernel
theorem d_L_works_236 : decode b_L_works 236 = .ok (.ifCond .ne 8, 3) := by decide +kernel
theorem d_L_works_239 : decode b_L_works 239 = .ok (.bipush 8, 2) := by decide +kernel
theorem d_L_works_241 : decode b_L_works 241 = .ok (.goto 4, 3) := by decide +kernel
theorem d_L_works_244 : decode b_L_works 244 = .ok (.iconst 2, 1) := by decide +kernel
theorem d_L_works_245 : decode b_L_works 245 = .ok (.invokestatic 79, 3) := by decide +kernel
theorem d_L_works_248 : decode b_L_works 248 = .ok (.iadd, 1) := by decide +kernel
theorem d_L_works_249 : decode b_L_works 249 = .ok (.istore 14, 2) := by decide +kernel
theorem d_L_works_251 : decode b_L_works 251 = .ok (.iconst 1, 1) := by decide +kernel
theorem d_L_works_252 : decode b_L_works 252 = .ok (.iload_n 2, 1) := by decide +kernel
theorem d_L_works_253 : decode b_L_works 253 = .ok (.bipush 12, 2) := by decide +kernel
theorem d_L_works_255 : decode b_L_works 255 = .ok (.ishr, 1) := by decide +kernel
theorem d_L_works_256 : decode b_L_works 256 = .ok (.iload_n 2, 1) := by decide +kernel
theorem d_L_works_257 : decode b_L_works 257 = .ok (.bipush 32, 2) := by decide +kernel
theorem d_L_works_259 : decode b_L_works 259 = .ok (.iand, 1) := by decide +kernel
theorem d_L_works_260 : decode b_L_works 260 = .ok (.ifCond .ne 8, 3) := by decide +kernel
theorem d_L_works_263 : decode b_L_works 263 = .ok (.bipush 8, 2) := by decide +kernel
theorem d_L_works_265 : decode b_L_works 265 = .ok (.goto 4, 3) := by decide +kernel
theorem d_L_works_268 : decode b_L_works 268 = .ok (.iconst 2, 1) := by decide +kernel
theorem d_L_works_269 : decode b_L_works 269 = .ok (.invokestatic 79, 3) := by decide +kernel
theorem d_L_works_272 : decode b_L_works 272 = .ok (.iadd, 1) := by decide +kernel
theorem d_L_works_273 : decode b_L_works 273 = .ok (.istore 15, 2) := by decide +kernel
theorem d_L_works_275 : decode b_L_works 275 = .ok (.aload_n 0, 1) := by decide +kernel
theorem d_L_works_276 : decode b_L_works 276 = .ok (.iconst 4, 1) := by decide +kernel
theorem d_L_works_277 : decode b_L_works 277 = .ok (.iload 12, 2) := by decide +kernel
theorem d_L_works_279 : decode b_L_works 279 = .ok (.iload 13, 2) := by decide +kernel
theorem d_L_works_281 : decode b_L_works 281 = .ok (.iload 14, 2) := by decide +kernel
theorem d_L_works_283 : decode b_L_works 283 = .ok (.iconst 0, 1) := by decide +kernel
theorem d_L_works_284 : decode b_L_works 284 = .ok (.invokestatic 119, 3) := by decide +kernel
theorem d_L_works_287 : decode b_L_works 287 = .ok (.bipush (-71), 2) := by decide +kernel
theorem d_L_works_289 : decode b_L_works 289 = .ok (.if_icmp .ne 114, 3) := by decide +kernel
theorem d_L_works_292 : decode b_L_works 292 = .ok (.aload_n 0, 1) := by decide +kernel
theorem d_L_works_293 : decode b_L_works 293 = .ok (.iload 11, 2) := by decide +kernel
theorem d_L_works_295 : decode b_L_works 295 = .ok (.iconst (-1), 1) := by decide +kernel
theorem d_L_works_296 : decode b_L_works 296 = .ok (.iload 13, 2) := by decide +kernel
theorem d_L_works_298 : decode b_L_works 298 = .ok (.iload 14, 2) := by decide +kernel
theorem d_L_works_300 : decode b_L_works 300 = .ok (.iload 15, 2) := by decide +kernel
theorem d_L_works_302 : decode b_L_works 302 = .ok (.invokestatic 119, 3) := by decide +kernel
theorem d_L_works_305 : decode b_L_works 305 = .ok (.bipush (-71), 2) := by decide +kernel
theorem d_L_works_307 : decode b_L_works 307 = .ok (.if_icmp .ne 96, 3) := by decide +kernel
theorem d_L_works_310 : decode b_L_works 310 = .ok (.aload_n 0, 1) := by decide +kernel
theorem d_L_works_311 : decode b_L_works 311 = .ok (.iload 11, 2) := by decide +kernel
theorem d_L_works_313 : decode b_L_works 313 = .ok (.iload 12, 2) := by decide +kernel
theorem d_L_works_315 : decode b_L_works 315 = .ok (.bipush 100, 2) := by decide +kernel
theorem d_L_works_317 : decode b_L_works 317 = .ok (.iload 14, 2) := by decide +kernel
theorem d_L_works_319 : decode b_L_works 319 = .ok (.iload 15, 2) := by decide +kernel
theorem d_L_works_321 : decode b_L_works 321 = .ok (.invokestatic 119, 3) := by decide +kernel
theorem d_L_works_324 : decode b_L_works 324 = .ok (.bipush (-72), 2) := by decide +kernel
theorem d_L_works_326 : decode b_L_works 326 = .ok (.if_icmp .ne 77, 3) := by decide +kernel
theorem d_L_works_329 : decode b_L_works 329 = .ok (.aload_n 0, 1) := by decide +kernel
theorem d_L_works_330 : decode b_L_works 330 = .ok (.iload 11, 2) := by decide +kernel
theorem d_L_works_332 : decode b_L_works 332 = .ok (.iload 12, 2) := by decide +kernel
theorem d_L_works_334 : decode b_L_works 334 = .ok (.iload 13, 2) := by decide +kernel
theorem d_L_works_336 : decode b_L_works 336 = .ok (.iconst 0, 1) := by decide +kernel
theorem d_L_works_337 : decode b_L_works 337 = .ok (.iload 15, 2) := by decide +kernel
theorem d_L_works_339 : decode b_L_works 339 = .ok (.invokestatic 119, 3) := by decide +kernel
theorem d_L_works_342 : decode b_L_works 342 = .ok (.bipush (-72), 2) := by decide +kernel
theorem d_L_works_344 : decode b_L_works 344 = .ok (.if_icmp .ne 59, 3) := by decide +kernel
theorem d_L_works_347 : decode b_L_works 347 = .ok (.aload_n 0, 1) := by decide +kernel
theorem d_L_works_348 : decode b_L_works 348 = .ok (.iload 11, 2) := by decide +kernel
theorem d_L_works_350 : decode b_L_works 350 = .ok (.iload 12, 2) := by decide +kernel
theorem d_L_works_352 : decode b_L_works 352 = .ok (.iload 13, 2) := by decide +kernel
theorem d_L_works_354 : decode b_L_works 354 = .ok (.bipush 9, 2) := by decide +kernel
theorem d_L_works_356 : decode b_L_works 356 = .ok (.iload 15, 2) := by decide +kernel
theorem d_L_works_358 : decode b_L_works 358 = .ok (.invokestatic 119, 3) := by decide +kernel
theorem d_L_works_361 : decode b_L_works 361 = .ok (.bipush (-72), 2) := by decide +kernel
theorem d_L_works_363 : decode b_L_works 363 = .ok (.if_icmp .ne 40, 3) := by decide +kernel
theorem d_L_works_366 : decode b_L_works 366 = .ok (.aload_n 0, 1) := by decide +kernel
theorem d_L_works_367 : decode b_L_works 367 = .ok (.iload 11, 2) := by decide +kernel
theorem d_L_works_369 : decode b_L_works 369 = .ok (.iload 12, 2) := by decide +kernel
theorem d_L_works_371 : decode b_L_works 371 = .ok (.iload 13, 2) := by decide +kernel
theorem d_L_works_373 : decode b_L_works 373 = .ok (.iload 14, 2) := by decide +kernel
theorem d_L_works_375 : decode b_L_works 375 = .ok (.bipush 9, 2) := by decide +kernel
theorem d_L_works_377 : decode b_L_works 377 = .ok (.invokestatic 119, 3) := by decide +kernel
theorem d_L_works_380 : decode b_L_works 380 = .ok (.bipush (-72), 2) := by decide +kernel
theorem d_L_works_382 : decode b_L_works 382 = .ok (.if_icmp .ne 21, 3) := by decide +kernel
theorem d_L_works_385 : decode b_L_works 385 = .ok (.aload_n 0, 1) := by decide +kernel
theorem d_L_works_386 : decode b_L_works 386 = .ok (.iload 11, 2) := by decide +kernel
theorem d_L_works_388 : decode b_L_works 388 = .ok (.iload 12, 2) := by decide +kernel
theorem d_L_works_390 : decode b_L_works 390 = .ok (.iconst (-1), 1) := by decide +kernel
theorem d_L_works_391 : decode b_L_works 391 = .ok (.iload 14, 2) := by decide +kernel
theorem d_L_works_393 : decode b_L_works 393 = .ok (.iload 15, 2) := by decide +kernel
theorem d_L_works_395 : decode b_L_works 395 = .ok (.invokestatic 119, 3) := by decide +kernel
theorem d_L_works_398 : decode b_L_works 398 = .ok (.bipush (-72), 2) := by decide +kernel
theorem d_L_works_400 : decode b_L_works 400 = .ok (.if_icmp .eq 5, 3) := by decide +kernel
theorem d_L_works_403 : decode b_L_works 403 = .ok (.iconst 0, 1) := by decide +kernel
theorem d_L_works_404 : decode b_L_works 404 = .ok (.ireturn, 1) := by decide +kernel
theorem d_L_works_405 : decode b_L_works 405 = .ok (.aload 10, 2) := by decide +kernel
theorem d_L_works_407 : decode b_L_works 407 = .ok (.iconst 0, 1) := by decide +kernel
theorem d_L_works_408 : decode b_L_works 408 = .ok (.iaload, 1) := by decide +kernel
theorem d_L_works_409 : decode b_L_works 409 = .ok (.bipush 8, 2) := by decide +kernel
theorem d_L_works_411 : decode b_L_works 411 = .ok (.if_icmp .ne 28, 3) := by decide +kernel
theorem d_L_works_414 : decode b_L_works 414 = .ok (.aload_n 0, 1) := by decide +kernel
theorem d_L_works_415 : decode b_L_works 415 = .ok (.iload 11, 2) := by decide +kernel
theorem d_L_works_417 : decode b_L_works 417 = .ok (.iload 12, 2) := by decide +kernel
theorem d_L_works_419 : decode b_L_works 419 = .ok (.iload 13, 2) := by decide +kernel
theorem d_L_works_421 : decode b_L_works 421 = .ok (.iload 14, 2) := by decide +kernel
theorem d_L_works_423 : decode b_L_works 423 = .ok (.iload 15, 2) := by decide +kernel
theorem d_L_works_425 : decode b_L_works 425 = .ok (.invokestatic 119, 3) := by decide +kernel
theorem d_L_works_428 : decode b_L_works 428 = .ok (.bipush (-73), 2) := by decide +kernel
theorem d_L_works_430 : decode b_L_works 430 = .ok (.if_icmp .ne 7, 3) := by decide +kernel
theorem d_L_works_433 : decode b_L_works 433 = .ok (.iconst 1, 1) := by decide +kernel
theorem d_L_works_434 : decode b_L_works 434 = .ok (.goto 4, 3) := by decide +kernel
theorem d_L_works_437 : decode b_L_works 437 = .ok (.iconst 0, 1) := by decide +kernel
theorem d_L_works_438 : decode b_L_works 438 = .ok (.ireturn, 1) := by decide +kernel
theorem d_L_works_439 : decode b_L_works 439 = .ok (.aload 7, 2) := by decide +kernel
theorem d_L_works_441 : decode b_L_works 441 = .ok (.aload 10, 2) := by decide +kernel
theorem d_L_works_443 : decode b_L_works 443 = .ok (.iconst 0, 1) := by decide +kernel
theorem d_L_works_444 : decode b_L_works 444 = .ok (.iaload, 1) := by decide +kernel
theorem d_L_works_445 : decode b_L_works 445 = .ok (.iload 11, 2) := by decide +kernel
theorem d_L_works_447 : decode b_L_works 447 = .ok (.iconst 4, 1) := by decide +kernel
theorem d_L_works_448 : decode b_L_works 448 = .ok (.iload 12, 2) := by decide +kernel
theorem d_L_works_450 : decode b_L_works 450 = .ok (.imul, 1) := by decide +kernel
theorem d_L_works_451 : decode b_L_works 451 = .ok (.iadd, 1) := by decide +kernel
theorem d_L_works_452 : decode b_L_works 452 = .ok (.bipush 64, 2) := by decide +kernel
theorem d_L_works_454 : decode b_L_works 454 = .ok (.iload 13, 2) := by decide +kernel
theorem d_L_works_456 : decode b_L_works 456 = .ok (.imul, 1) := by decide +kernel
theorem d_L_works_457 : decode b_L_works 457 = .ok (.iadd, 1) := by decide +kernel
theorem d_L_works_458 : decode b_L_works 458 = .ok (.sipush 8192, 3) := by decide +kernel
theorem d_L_works_461 : decode b_L_works 461 = .ok (.iload 14, 2) := by decide +kernel
theorem d_L_works_463 : decode b_L_works 463 = .ok (.imul, 1) := by decide +kernel
theorem d_L_works_464 : decode b_L_works 464 = .ok (.iadd, 1) := by decide +kernel
theorem d_L_works_465 : decode b_L_works 465 = .ok (.ldc 122, 2) := by decide +kernel
theorem d_L_works_467 : decode b_L_works 467 = .ok (.iload 15, 2) := by decide +kernel
theorem d_L_works_469 : decode b_L_works 469 = .ok (.imul, 1) := by decide +kernel
theorem d_L_works_470 : decode b_L_works 470 = .ok (.iadd, 1) := by decide +kernel
theorem d_L_works_471 : decode b_L_works 471 = .ok (.iastore, 1) := by decide +kernel
theorem d_L_works_472 : decode b_L_works 472 = .ok (.aload 10, 2) := by decide +kernel
theorem d_L_works_474 : decode b_L_works 474 = .ok (.iconst 0, 1) := by decide +kernel
theorem d_L_works_475 : decode b_L_works 475 = .ok (.dup2, 1) := by decide +kernel
theorem d_L_works_476 : decode b_L_works 476 = .ok (.iaload, 1) := by decide +kernel
theorem d_L_works_477 : decode b_L_works 477 = .ok (.iconst 1, 1) := by decide +kernel
theorem d_L_works_478 : decode b_L_works 478 = .ok (.iadd, 1) := by decide +kernel
theorem d_L_works_479 : decode b_L_works 479 = .ok (.iastore, 1) := by decide +kernel
theorem d_L_works_480 : decode b_L_works 480 = .ok (.aload_n 0, 1) := by decide +kernel
theorem d_L_works_481 : decode b_L_works 481 = .ok (.iload 11, 2) := by decide +kernel
theorem d_L_works_483 : decode b_L_works 483 = .ok (.iload 12, 2) := by decide +kernel
theorem d_L_works_485 : decode b_L_works 485 = .ok (.iload 13, 2) := by decide +kernel
theorem d_L_works_487 : decode b_L_works 487 = .ok (.iload 14, 2) := by decide +kernel
theorem d_L_works_489 : decode b_L_works 489 = .ok (.iload 15, 2) := by decide +kernel
theorem d_L_works_491 : decode b_L_works 491 = .ok (.invokestatic 119, 3) := by decide +kernel
theorem d_L_works_494 : decode b_L_works 494 = .ok (.aload 10, 2) := by decide +kernel
theorem d_L_works_496 : decode b_L_works 496 = .ok (.iconst 0, 1) := by decide +kernel
theorem d_L_works_497 : decode b_L_works 497 = .ok (.iaload, 1) := by decide +kernel
theorem d_L_works_498 : decode b_L_works 498 = .ok (.iconst 1, 1) := by decide +kernel
theorem d_L_works_499 : decode b_L_works 499 = .ok (.isub, 1) := by decide +kernel
theorem d_L_works_500 : decode b_L_works 500 = .ok (.if_icmp .ne 7, 3) := by decide +kernel
theorem d_L_works_503 : decode b_L_works 503 = .ok (.iconst 1, 1) := by decide +kernel
theorem d_L_works_504 : decode b_L_works 504 = .ok (.goto 4, 3) := by decide +kernel
theorem d_L_works_507 : decode b_L_works 507 = .ok (.iconst 0, 1) := by decide +kernel
theorem d_L_works_508 : decode b_L_works 508 = .ok (.ireturn, 1) := by decide +kernel
theorem d_L_works_509 : decode b_L_works 509 = .ok (.iload_n 1, 1) := by decide +kernel
theorem d_L_works_510 : decode b_L_works 510 = .ok (.iconst 5, 1) := by decide +kernel
theorem d_L_works_511 : decode b_L_works 511 = .ok (.if_icmp .ge 33, 3) := by decide +kernel
theorem d_L_works_514 : decode b_L_works 514 = .ok (.aload_n 0, 1) := by decide +kernel
theorem d_L_works_515 : decode b_L_works 515 = .ok (.invokevirtual 123, 3) := by decide +kernel
theorem d_L_works_518 : decode b_L_works 518 = .ok (.aload 4, 2) := by decide +kernel
theorem d_L_works_520 : decode b_L_works 520 = .ok (.aload 5, 2) := by decide +kernel
theorem d_L_works_522 : decode b_L_works 522 = .ok (.aload 6, 2) := by decide +kernel
theorem d_L_works_524 : decode b_L_works 524 = .ok (.aload 7, 2) := by decide +kernel
theorem d_L_works_526 : decode b_L_works 526 = .ok (.aload 8, 2) := by decide +kernel
theorem d_L_works_528 : decode b_L_works 528 = .ok (.aload 9, 2) := by decide +kernel
theorem d_L_works_530 : decode b_L_works 530 = .ok (.aload 10, 2) := by decide +kernel
theorem d_L_works_532 : decode b_L_works 532 = .ok (.invokestatic 127, 3) := by decide +kernel
theorem d_L_works_535 : decode b_L_works 535 = .ok (.if_icmp .ne 7, 3) := by decide +kernel
theorem d_L_works_538 : decode b_L_works 538 = .ok (.iconst 1, 1) := by decide +kernel
theorem d_L_works_539 : decode b_L_works 539 = .ok (.goto 4, 3) := by decide +kernel
theorem d_L_works_542 : decode b_L_works 542 = .ok (.iconst 0, 1) := by decide +kernel
theorem d_L_works_543 : decode b_L_works 543 = .ok (.ireturn, 1) := by decide +kernel
theorem d_L_works_544 : decode b_L_works 544 = .ok (.iload_n 2, 1) := by decide +kernel
theorem d_L_works_545 : decode b_L_works 545 = .ok (.aload 10, 2) := by decide +kernel
theorem d_L_works_547 : decode b_L_works 547 = .ok (.iconst 0, 1) := by decide +kernel
theorem d_L_works_548 : decode b_L_works 548 = .ok (.iaload, 1) := by decide +kernel
theorem d_L_works_549 : decode b_L_works 549 = .ok (.iconst 1, 1) := by decide +kernel
theorem d_L_works_550 : decode b_L_works 550 = .ok (.iadd, 1) := by decide +kernel
theorem d_L_works_551 : decode b_L_works 551 = .ok (.invokestatic 79, 3) := by decide +kernel
theorem d_L_works_554 : decode b_L_works 554 = .ok (.istore 13, 2) := by decide +kernel
theorem d_L_works_556 : decode b_L_works 556 = .ok (.iload 13, 2) := by decide +kernel
theorem d_L_works_558 : decode b_L_works 558 = .ok (.aload 10, 2) := by decide +kernel
theorem d_L_works_560 : decode b_L_works 560 = .ok (.iconst 0, 1) := by decide +kernel
theorem d_L_works_561 : decode b_L_works 561 = .ok (.iaload, 1) := by decide +kernel
theorem d_L_works_562 : decode b_L_works 562 = .ok (.if_icmp .ne 30, 3) := by decide +kernel
theorem d_L_works_565 : decode b_L_works 565 = .ok (.aload_n 0, 1) := by decide +kernel
theorem d_L_works_566 : decode b_L_works 566 = .ok (.iload 13, 2) := by decide +kernel
theorem d_L_works_568 : decode b_L_works 568 = .ok (.invokestatic 131, 3) := by decide +kernel
theorem d_L_works_571 : decode b_L_works 571 = .ok (.bipush (-71), 2) := by decide +kernel
theorem d_L_works_573 : decode b_L_works 573 = .ok (.if_icmp .ne 17, 3) := by decide +kernel
theorem d_L_works_576 : decode b_L_works 576 = .ok (.aload_n 0, 1) := by decide +kernel
theorem d_L_works_577 : decode b_L_works 577 = .ok (.iconst (-1), 1) := by decide +kernel
theorem d_L_works_578 : decode b_L_works 578 = .ok (.invokestatic 131, 3) := by decide +kernel
theorem d_L_works_581 : decode b_L_works 581 = .ok (.bipush (-71), 2) := by decide +kernel
theorem d_L_works_583 : decode b_L_works 583 = .ok (.if_icmp .ne 7, 3) := by decide +kernel
theorem d_L_works_586 : decode b_L_works 586 = .ok (.iconst 1, 1) := by decide +kernel
theorem d_L_works_587 : decode b_L_works 587 = .ok (.goto 4, 3) := by decide +kernel
theorem d_L_works_590 : decode b_L_works 590 = .ok (.iconst 0, 1) := by decide +kernel
theorem d_L_works_591 : decode b_L_works 591 = .ok (.ireturn, 1) := by decide +kernel
theorem d_L_works_592 : decode b_L_works 592 = .ok (.aload 9, 2) := by decide +kernel
theorem d_L_works_594 : decode b_L_works 594 = .ok (.iload 13, 2) := by decide +kernel
theorem d_L_works_596 : decode b_L_works 596 = .ok (.iaload, 1) := by decide +kernel
theorem d_L_works_597 : decode b_L_works 597 = .ok (.ifCond .le 20, 3) := by decide +kernel
theorem d_L_works_600 : decode b_L_works 600 = .ok (.aload_n 0, 1) := by decide +kernel
theorem d_L_works_601 : decode b_L_works 601 = .ok (.iload 13, 2) := by decide +kernel
theorem d_L_works_603 : decode b_L_works 603 = .ok (.invokestatic 131, 3) := by decide +kernel
theorem d_L_works_606 : decode b_L_works 606 = .ok (.bipush (-73), 2) := by decide +kernel
theorem d_L_works_608 : decode b_L_works 608 = .ok (.if_icmp .ne 7, 3) := by decide +kernel
theorem d_L_works_611 : decode b_L_works 611 = .ok (.iconst 1, 1) := by decide +kernel
theorem d_L_works_612 : decode b_L_works 612 = .ok (.goto 4, 3) := by decide +kernel
theorem d_L_works_615 : decode b_L_works 615 = .ok (.iconst 0, 1) := by decide +kernel
theorem d_L_works_616 : decode b_L_works 616 = .ok (.ireturn, 1) := by decide +kernel
theorem d_L_works_617 : decode b_L_works 617 = .ok (.iload_n 3, 1) := by decide +kernel
theorem d_L_works_618 : decode b_L_works 618 = .ok (.bipush 6, 2) := by decide +kernel
theorem d_L_works_620 : decode b_L_works 620 = .ok (.iand, 1) := by decide +kernel
theorem d_L_works_621 : decode b_L_works 621 = .ok (.ifCond .le 18, 3) := by decide +kernel
theorem d_L_works_624 : decode b_L_works 624 = .ok (.aload_n 0, 1) := by decide +kernel
theorem d_L_works_625 : decode b_L_works 625 = .ok (.iload 13, 2) := by decide +kernel
theorem d_L_works_627 : decode b_L_works 627 = .ok (.invokestatic 133, 3) := by decide +kernel
theorem d_L_works_630 : decode b_L_works 630 = .ok (.ifCond .ne 7, 3) := by decide +kernel
theorem d_L_works_633 : decode b_L_works 633 = .ok (.iconst 1, 1) := by decide +kernel
theorem d_L_works_634 : decode b_L_works 634 = .ok (.goto 4, 3) := by decide +kernel
theorem d_L_works_637 : decode b_L_works 637 = .ok (.iconst 0, 1) := by decide +kernel
theorem d_L_works_638 : decode b_L_works 638 = .ok (.ireturn, 1) := by decide +kernel
theorem d_L_works_639 : decode b_L_works 639 = .ok (.iconst 0, 1) := by decide +kernel
theorem d_L_works_640 : decode b_L_works 640 = .ok (.istore 14, 2) := by decide +kernel
theorem d_L_works_642 : decode b_L_works 642 = .ok (.iconst 0, 1) := by decide +kernel
theorem d_L_works_643 : decode b_L_works 643 = .ok (.istore 15, 2) := by decide +kernel
theorem d_L_works_645 : decode b_L_works 645 = .ok (.iload 15, 2) := by decide +kernel
theorem d_L_works_647 : decode b_L_works 647 = .ok (.iconst 5, 1) := by decide +kernel
theorem d_L_works_648 : decode b_L_works 648 = .ok (.if_icmp .ge 35, 3) := by decide +kernel
theorem d_L_works_651 : decode b_L_works 651 = .ok (.iload 14, 2) := by decide +kernel
theorem d_L_works_653 : decode b_L_works 653 = .ok (.aload 8, 2) := by decide +kernel
theorem d_L_works_655 : decode b_L_works 655 = .ok (.iload 13, 2) := by decide +kernel
theorem d_L_works_657 : decode b_L_works 657 = .ok (.iaload, 1) := by decide +kernel
theorem d_L_works_658 : decode b_L_works 658 = .ok (.iconst 2, 1) := by decide +kernel
theorem d_L_works_659 : decode b_L_works 659 = .ok (.iload 15, 2) := by decide +kernel
theorem d_L_works_661 : decode b_L_works 661 = .ok (.imul, 1) := by decide +kernel
theorem d_L_works_662 : decode b_L_works 662 = .ok (.ishr, 1) := by decide +kernel
theorem d_L_works_663 : decode b_L_works 663 = .ok (.iconst 3, 1) := by decide +kernel
theorem d_L_works_664 : decode b_L_works 664 = .ok (.iand, 1) := by decide +kernel
theorem d_L_works_665 : decode b_L_works 665 = .ok (.iconst 1, 1) := by decide +kernel
theorem d_L_works_666 : decode b_L_works 666 = .ok (.if_icmp .ne 7, 3) := by decide +kernel
theorem d_L_works_669 : decode b_L_works 669 = .ok (.iconst 1, 1) := by decide +kernel
theorem d_L_works_670 : decode b_L_works 670 = .ok (.goto 4, 3) := by decide +kernel
theorem d_L_works_673 : decode b_L_works 673 = .ok (.iconst 0, 1) := by decide +kernel
theorem d_L_works_674 : decode b_L_works 674 = .ok (.iadd, 1) := by decide +kernel
theorem d_L_works_675 : decode b_L_works 675 = .ok (.istore 14, 2) := by decide +kernel
theorem d_L_works_677 : decode b_L_works 677 = .ok (.iinc 15 1, 3) := by decide +kernel
theorem d_L_works_680 : decode b_L_works 680 = .ok (.goto (-35), 3) := by decide +kernel
theorem d_L_works_683 : decode b_L_works 683 = .ok (.aload 9, 2) := by decide +kernel
theorem d_L_works_685 : decode b_L_works 685 = .ok (.iload 13, 2) := by decide +kernel
theorem d_L_works_687 : decode b_L_works 687 = .ok (.iconst 2, 1) := by decide +kernel
theorem d_L_works_688 : decode b_L_works 688 = .ok (.iastore, 1) := by decide +kernel
theorem d_L_works_689 : decode b_L_works 689 = .ok (.aload_n 0, 1) := by decide +kernel
theorem d_L_works_690 : decode b_L_works 690 = .ok (.iload 13, 2) := by decide +kernel
theorem d_L_works_692 : decode b_L_works 692 = .ok (.invokestatic 131, 3) := by decide +kernel
theorem d_L_works_695 : decode b_L_works 695 = .ok (.iload 14, 2) := by decide +kernel
theorem d_L_works_697 : decode b_L_works 697 = .ok (.if_icmp .ne 7, 3) := by decide +kernel
theorem d_L_works_700 : decode b_L_works 700 = .ok (.iconst 1, 1) := by decide +kernel
theorem d_L_works_701 : decode b_L_works 701 = .ok (.goto 4, 3) := by decide +kernel
theorem d_L_works_704 : decode b_L_works 704 = .ok (.iconst 0, 1) := by decide +kernel
theorem d_L_works_705 : decode b_L_works 705 = .ok (.ireturn, 1) := by decide +kernel
theorem d_law_0 : decode code 0 = .ok (.new 9, 3) := by decide +kernel
theorem d_law_3 : decode code 3 = .ok (.dup, 1) := by decide +kernel
theorem d_law_4 : decode code 4 = .ok (.invokespecial 161, 3) := by decide +kernel
theorem d_law_7 : decode code 7 = .ok (.astore_n 1, 1) := by decide +kernel
theorem d_law_8 : decode code 8 = .ok (.bipush 60, 2) := by decide +kernel
theorem d_law_10 : decode code 10 = .ok (.newarray .int, 2) := by decide +kernel
theorem d_law_12 : decode code 12 = .ok (.astore_n 2, 1) := by decide +kernel
theorem d_law_13 : decode code 13 = .ok (.iconst 5, 1) := by decide +kernel
theorem d_law_14 : decode code 14 = .ok (.newarray .int, 2) := by decide +kernel
theorem d_law_16 : decode code 16 = .ok (.astore_n 3, 1) := by decide +kernel
theorem d_law_17 : decode code 17 = .ok (.iconst 5, 1) := by decide +kernel
theorem d_law_18 : decode code 18 = .ok (.newarray .int, 2) := by decide +kernel
theorem d_law_20 : decode code 20 = .ok (.astore 4, 2) := by decide +kernel
theorem d_law_22 : decode code 22 = .ok (.iconst 5, 1) := by decide +kernel
theorem d_law_23 : decode code 23 = .ok (.newarray .int, 2) := by decide +kernel
theorem d_law_25 : decode code 25 = .ok (.astore 5, 2) := by decide +kernel
theorem d_law_27 : decode code 27 = .ok (.bipush 12, 2) := by decide +kernel
theorem d_law_29 : decode code 29 = .ok (.newarray .int, 2) := by decide +kernel
theorem d_law_31 : decode code 31 = .ok (.astore 6, 2) := by decide +kernel
theorem d_law_33 : decode code 33 = .ok (.iconst 4, 1) := by decide +kernel
theorem d_law_34 : decode code 34 = .ok (.newarray .int, 2) := by decide +kernel
theorem d_law_36 : decode code 36 = .ok (.astore 7, 2) := by decide +kernel
theorem d_law_38 : decode code 38 = .ok (.bipush 8, 2) := by decide +kernel
theorem d_law_40 : decode code 40 = .ok (.newarray .int, 2) := by decide +kernel
theorem d_law_42 : decode code 42 = .ok (.astore 8, 2) := by decide +kernel
theorem d_law_44 : decode code 44 = .ok (.bipush 8, 2) := by decide +kernel
theorem d_law_46 : decode code 46 = .ok (.newarray .int, 2) := by decide +kernel
theorem d_law_48 : decode code 48 = .ok (.astore 9, 2) := by decide +kernel
theorem d_law_50 : decode code 50 = .ok (.bipush 8, 2) := by decide +kernel
theorem d_law_52 : decode code 52 = .ok (.newarray .int, 2) := by decide +kernel
theorem d_law_54 : decode code 54 = .ok (.astore 10, 2) := by decide +kernel
theorem d_law_56 : decode code 56 = .ok (.iconst 1, 1) := by decide +kernel
theorem d_law_57 : decode code 57 = .ok (.newarray .int, 2) := by decide +kernel
theorem d_law_59 : decode code 59 = .ok (.astore 11, 2) := by decide +kernel
theorem d_law_61 : decode code 61 = .ok (.aload 6, 2) := by decide +kernel
theorem d_law_63 : decode code 63 = .ok (.invokestatic 94, 3) := by decide +kernel
theorem d_law_66 : decode code 66 = .ok (.iconst 0, 1) := by decide +kernel
theorem d_law_67 : decode code 67 = .ok (.istore 12, 2) := by decide +kernel
theorem d_law_69 : decode code 69 = .ok (.iload 12, 2) := by decide +kernel
theorem d_law_71 : decode code 71 = .ok (.iconst 5, 1) := by decide +kernel
theorem d_law_72 : decode code 72 = .ok (.if_icmp .ge 15, 3) := by decide +kernel
theorem d_law_75 : decode code 75 = .ok (.aload 4, 2) := by decide +kernel
theorem d_law_77 : decode code 77 = .ok (.iload 12, 2) := by decide +kernel
theorem d_law_79 : decode code 79 = .ok (.iconst (-1), 1) := by decide +kernel
theorem d_law_80 : decode code 80 = .ok (.iastore, 1) := by decide +kernel
theorem d_law_81 : decode code 81 = .ok (.iinc 12 1, 3) := by decide +kernel
theorem d_law_84 : decode code 84 = .ok (.goto (-15), 3) := by decide +kernel
theorem d_law_87 : decode code 87 = .ok (.iconst 0, 1) := by decide +kernel
theorem d_law_88 : decode code 88 = .ok (.istore 12, 2) := by decide +kernel
theorem d_law_90 : decode code 90 = .ok (.iload 12, 2) := by decide +kernel
theorem d_law_92 : decode code 92 = .ok (.iconst 4, 1) := by decide +kernel
theorem d_law_93 : decode code 93 = .ok (.if_icmp .ge 16, 3) := by decide +kernel
theorem d_law_96 : decode code 96 = .ok (.aload 7, 2) := by decide +kernel
theorem d_law_98 : decode code 98 = .ok (.iload 12, 2) := by decide +kernel
theorem d_law_100 : decode code 100 = .ok (.ldc 162, 2) := by decide +kernel
theorem d_law_102 : decode code 102 = .ok (.iastore, 1) := by decide +kernel
theorem d_law_103 : decode code 103 = .ok (.iinc 12 1, 3) := by decide +kernel
theorem d_law_106 : decode code 106 = .ok (.goto (-16), 3) := by decide +kernel
theorem d_law_109 : decode code 109 = .ok (.aload_n 1, 1) := by decide +kernel
theorem d_law_110 : decode code 110 = .ok (.aload_n 2, 1) := by decide +kernel
theorem d_law_111 : decode code 111 = .ok (.aload_n 3, 1) := by decide +kernel
theorem d_law_112 : decode code 112 = .ok (.aload 4, 2) := by decide +kernel
theorem d_law_114 : decode code 114 = .ok (.aload 7, 2) := by decide +kernel
theorem d_law_116 : decode code 116 = .ok (.aload 8, 2) := by decide +kernel
theorem d_law_118 : decode code 118 = .ok (.aload 9, 2) := by decide +kernel
theorem d_law_120 : decode code 120 = .ok (.aload 10, 2) := by decide +kernel
theorem d_law_122 : decode code 122 = .ok (.aload 11, 2) := by decide +kernel
theorem d_law_124 : decode code 124 = .ok (.invokestatic 163, 3) := by decide +kernel
theorem d_law_127 : decode code 127 = .ok (.ifCond .ne 5, 3) := by decide +kernel
theorem d_law_130 : decode code 130 = .ok (.iconst 0, 1) := by decide +kernel
theorem d_law_131 : decode code 131 = .ok (.ireturn, 1) := by decide +kernel
theorem d_law_132 : decode code 132 = .ok (.iconst 0, 1) := by decide +kernel
theorem d_law_133 : decode code 133 = .ok (.istore 12, 2) := by decide +kernel
theorem d_law_135 : decode code 135 = .ok (.iload 12, 2) := by decide +kernel
theorem d_law_137 : decode code 137 = .ok (.sipush 130, 3) := by decide +kernel
theorem d_law_140 : decode code 140 = .ok (.if_icmp .ge 134, 3) := by decide +kernel
theorem d_law_143 : decode code 143 = .ok (.aload_n 0, 1) := by decide +kernel
theorem d_law_144 : decode code 144 = .ok (.iconst 3, 1) := by decide +kernel
theorem d_law_145 : decode code 145 = .ok (.iload 12, 2) := by decide +kernel
theorem d_law_147 : decode code 147 = .ok (.imul, 1) := by decide +kernel
theorem d_law_148 : decode code 148 = .ok (.invokestatic 167, 3) := by decide +kernel
theorem d_law_151 : decode code 151 = .ok (.istore 13, 2) := by decide +kernel
theorem d_law_153 : decode code 153 = .ok (.aload_n 0, 1) := by decide +kernel
theorem d_law_154 : decode code 154 = .ok (.iconst 3, 1) := by decide +kernel
theorem d_law_155 : decode code 155 = .ok (.iload 12, 2) := by decide +kernel
theorem d_law_157 : decode code 157 = .ok (.imul, 1) := by decide +kernel
theorem d_law_158 : decode code 158 = .ok (.iconst 1, 1) := by decide +kernel
theorem d_law_159 : decode code 159 = .ok (.iadd, 1) := by decide +kernel
theorem d_law_160 : decode code 160 = .ok (.invokestatic 167, 3) := by decide +kernel
theorem d_law_163 : decode code 163 = .ok (.istore 14, 2) := by decide +kernel
theorem d_law_165 : decode code 165 = .ok (.aload_n 0, 1) := by decide +kernel
theorem d_law_166 : decode code 166 = .ok (.iconst 3, 1) := by decide +kernel
theorem d_law_167 : decode code 167 = .ok (.iload 12, 2) := by decide +kernel
theorem d_law_169 : decode code 169 = .ok (.imul, 1) := by decide +kernel
theorem d_law_170 : decode code 170 = .ok (.iconst 2, 1) := by decide +kernel
theorem d_law_171 : decode code 171 = .ok (.iadd, 1) := by decide +kernel
theorem d_law_172 : decode code 172 = .ok (.invokestatic 167, 3) := by decide +kernel
theorem d_law_175 : decode code 175 = .ok (.istore 15, 2) := by decide +kernel
theorem d_law_177 : decode code 177 = .ok (.iload 13, 2) := by decide +kernel
theorem d_law_179 : decode code 179 = .ok (.bipush 24, 2) := by decide +kernel
theorem d_law_181 : decode code 181 = .ok (.invokestatic 79, 3) := by decide +kernel
theorem d_law_184 : decode code 184 = .ok (.istore 16, 2) := by decide +kernel
theorem d_law_186 : decode code 186 = .ok (.iload 16, 2) := by decide +kernel
theorem d_law_188 : decode code 188 = .ok (.bipush 18, 2) := by decide +kernel
theorem d_law_190 : decode code 190 = .ok (.if_icmp .ge 27, 3) := by decide +kernel
theorem d_law_193 : decode code 193 = .ok (.aload_n 1, 1) := by decide +kernel
theorem d_law_194 : decode code 194 = .ok (.iload 16, 2) := by decide +kernel
theorem d_law_196 : decode code 196 = .ok (.iload 14, 2) := by decide +kernel
theorem d_law_198 : decode code 198 = .ok (.iload 15, 2) := by decide +kernel
theorem d_law_200 : decode code 200 = .ok (.aload_n 2, 1) := by decide +kernel
theorem d_law_201 : decode code 201 = .ok (.aload_n 3, 1) := by decide +kernel
theorem d_law_202 : decode code 202 = .ok (.aload 4, 2) := by decide +kernel
theorem d_law_204 : decode code 204 = .ok (.aload 5, 2) := by decide +kernel
theorem d_law_206 : decode code 206 = .ok (.aload 6, 2) := by decide +kernel
theorem d_law_208 : decode code 208 = .ok (.invokestatic 170, 3) := by decide +kernel
theorem d_law_211 : decode code 211 = .ok (.ifCond .eq 55, 3) := by decide +kernel
theorem d_law_214 : decode code 214 = .ok (.goto 31, 3) := by decide +kernel
theorem d_law_217 : decode code 217 = .ok (.aload_n 1, 1) := by decide +kernel
theorem d_law_218 : decode code 218 = .ok (.iload 16, 2) := by decide +kernel
theorem d_law_220 : decode code 220 = .ok (.bipush 18, 2) := by decide +kernel
theorem d_law_222 : decode code 222 = .ok (.isub, 1) := by decide +kernel
theorem d_law_223 : decode code 223 = .ok (.iload 14, 2) := by decide +kernel
theorem d_law_225 : decode code 225 = .ok (.iload 15, 2) := by decide +kernel
theorem d_law_227 : decode code 227 = .ok (.aload_n 2, 1) := by decide +kernel
theorem d_law_228 : decode code 228 = .ok (.aload_n 3, 1) := by decide +kernel
theorem d_law_229 : decode code 229 = .ok (.aload 7, 2) := by decide +kernel
theorem d_law_231 : decode code 231 = .ok (.aload 8, 2) := by decide +kernel
theorem d_law_233 : decode code 233 = .ok (.aload 9, 2) := by decide +kernel
theorem d_law_235 : decode code 235 = .ok (.aload 10, 2) := by decide +kernel
theorem d_law_237 : decode code 237 = .ok (.aload 11, 2) := by decide +kernel
theorem d_law_239 : decode code 239 = .ok (.invokestatic 174, 3) := by decide +kernel
theorem d_law_242 : decode code 242 = .ok (.ifCond .eq 24, 3) := by decide +kernel
theorem d_law_245 : decode code 245 = .ok (.aload_n 1, 1) := by decide +kernel
theorem d_law_246 : decode code 246 = .ok (.aload_n 2, 1) := by decide +kernel
theorem d_law_247 : decode code 247 = .ok (.aload_n 3, 1) := by decide +kernel
theorem d_law_248 : decode code 248 = .ok (.aload 4, 2) := by decide +kernel
theorem d_law_250 : decode code 250 = .ok (.aload 7, 2) := by decide +kernel
theorem d_law_252 : decode code 252 = .ok (.aload 8, 2) := by decide +kernel
theorem d_law_254 : decode code 254 = .ok (.aload 9, 2) := by decide +kernel
theorem d_law_256 : decode code 256 = .ok (.aload 10, 2) := by decide +kernel
theorem d_law_258 : decode code 258 = .ok (.aload 11, 2) := by decide +kernel
theorem d_law_260 : decode code 260 = .ok (.invokestatic 163, 3) := by decide +kernel
theorem d_law_263 : decode code 263 = .ok (.ifCond .ne 5, 3) := by decide +kernel
theorem d_law_266 : decode code 266 = .ok (.iconst 0, 1) := by decide +kernel
theorem d_law_267 : decode code 267 = .ok (.ireturn, 1) := by decide +kernel
theorem d_law_268 : decode code 268 = .ok (.iinc 12 1, 3) := by decide +kernel
theorem d_law_271 : decode code 271 = .ok (.goto (-136), 3) := by decide +kernel
theorem d_law_274 : decode code 274 = .ok (.iconst 1, 1) := by decide +kernel
theorem d_law_275 : decode code 275 = .ok (.ireturn, 1) := by decide +kernel
