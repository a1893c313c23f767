theorem eL_law_0 : decode rL_law.2.1 0 = .ok (.aload_n 0, 1) := by decide +kernel
theorem eL_law_1 : decode rL_law.2.1 1 = .ok (.invokestatic 175, 3) := by decide +kernel
theorem eL_law_4 : decode rL_law.2.1 4 = .ok (.astore_n 1, 1) := by decide +kernel
theorem eL_law_5 : decode rL_law.2.1 5 = .ok (.aload_n 0, 1) := by decide +kernel
theorem eL_law_6 : decode rL_law.2.1 6 = .ok (.invokestatic 175, 3) := by decide +kernel
theorem eL_law_9 : decode rL_law.2.1 9 = .ok (.astore_n 2, 1) := by decide +kernel
theorem eL_law_10 : decode rL_law.2.1 10 = .ok (.aload_n 1, 1) := by decide +kernel
theorem eL_law_11 : decode rL_law.2.1 11 = .ok (.invokevirtual 179, 3) := by decide +kernel
theorem eL_law_14 : decode rL_law.2.1 14 = .ok (.istore_n 3, 1) := by decide +kernel
theorem eL_law_15 : decode rL_law.2.1 15 = .ok (.aload_n 1, 1) := by decide +kernel
theorem eL_law_16 : decode rL_law.2.1 16 = .ok (.invokestatic 182, 3) := by decide +kernel
theorem eL_law_19 : decode rL_law.2.1 19 = .ok (.istore 4, 2) := by decide +kernel
theorem eL_law_21 : decode rL_law.2.1 21 = .ok (.aload_n 1, 1) := by decide +kernel
theorem eL_law_22 : decode rL_law.2.1 22 = .ok (.ldc 186, 2) := by decide +kernel
theorem eL_law_24 : decode rL_law.2.1 24 = .ok (.invokestatic 188, 3) := by decide +kernel
theorem eL_law_27 : decode rL_law.2.1 27 = .ok (.aload_n 1, 1) := by decide +kernel
theorem eL_law_28 : decode rL_law.2.1 28 = .ok (.invokevirtual 192, 3) := by decide +kernel
theorem eL_law_31 : decode rL_law.2.1 31 = .ok (.iconst 3, 1) := by decide +kernel
theorem eL_law_32 : decode rL_law.2.1 32 = .ok (.if_icmp .ne 41, 3) := by decide +kernel
theorem eL_law_35 : decode rL_law.2.1 35 = .ok (.aload_n 2, 1) := by decide +kernel
theorem eL_law_36 : decode rL_law.2.1 36 = .ok (.iconst 3, 1) := by decide +kernel
theorem eL_law_37 : decode rL_law.2.1 37 = .ok (.invokevirtual 63, 3) := by decide +kernel
theorem eL_law_40 : decode rL_law.2.1 40 = .ok (.ifCond .lt 33, 3) := by decide +kernel
theorem eL_law_43 : decode rL_law.2.1 43 = .ok (.aload_n 2, 1) := by decide +kernel
theorem eL_law_44 : decode rL_law.2.1 44 = .ok (.iconst 1, 1) := by decide +kernel
theorem eL_law_45 : decode rL_law.2.1 45 = .ok (.sipush 900, 3) := by decide +kernel
theorem eL_law_48 : decode rL_law.2.1 48 = .ok (.invokevirtual 60, 3) := by decide +kernel
theorem eL_law_51 : decode rL_law.2.1 51 = .ok (.ifCond .lt 22, 3) := by decide +kernel
theorem eL_law_54 : decode rL_law.2.1 54 = .ok (.aload_n 2, 1) := by decide +kernel
theorem eL_law_55 : decode rL_law.2.1 55 = .ok (.iconst 1, 1) := by decide +kernel
theorem eL_law_56 : decode rL_law.2.1 56 = .ok (.invokevirtual 63, 3) := by decide +kernel
theorem eL_law_59 : decode rL_law.2.1 59 = .ok (.ifCond .lt 14, 3) := by decide +kernel
theorem eL_law_62 : decode rL_law.2.1 62 = .ok (.aload_n 1, 1) := by decide +kernel
theorem eL_law_63 : decode rL_law.2.1 63 = .ok (.invokestatic 182, 3) := by decide +kernel
theorem eL_law_66 : decode rL_law.2.1 66 = .ok (.aload_n 2, 1) := by decide +kernel
theorem eL_law_67 : decode rL_law.2.1 67 = .ok (.invokestatic 182, 3) := by decide +kernel
theorem eL_law_70 : decode rL_law.2.1 70 = .ok (.if_icmp .eq 5, 3) := by decide +kernel
theorem eL_law_73 : decode rL_law.2.1 73 = .ok (.iconst 0, 1) := by decide +kernel
theorem eL_law_74 : decode rL_law.2.1 74 = .ok (.ireturn, 1) := by decide +kernel
theorem eL_law_75 : decode rL_law.2.1 75 = .ok (.aload_n 1, 1) := by decide +kernel
theorem eL_law_76 : decode rL_law.2.1 76 = .ok (.invokevirtual 195, 3) := by decide +kernel
theorem eL_law_79 : decode rL_law.2.1 79 = .ok (.ifCond .lt 42, 3) := by decide +kernel
theorem eL_law_82 : decode rL_law.2.1 82 = .ok (.aload_n 1, 1) := by decide +kernel
theorem eL_law_83 : decode rL_law.2.1 83 = .ok (.invokestatic 182, 3) := by decide +kernel
theorem eL_law_86 : decode rL_law.2.1 86 = .ok (.iload 4, 2) := by decide +kernel
theorem eL_law_88 : decode rL_law.2.1 88 = .ok (.if_icmp .ne 33, 3) := by decide +kernel
theorem eL_law_91 : decode rL_law.2.1 91 = .ok (.aload_n 2, 1) := by decide +kernel
theorem eL_law_92 : decode rL_law.2.1 92 = .ok (.invokevirtual 195, 3) := by decide +kernel
theorem eL_law_95 : decode rL_law.2.1 95 = .ok (.ifCond .lt 26, 3) := by decide +kernel
theorem eL_law_98 : decode rL_law.2.1 98 = .ok (.aload_n 2, 1) := by decide +kernel
theorem eL_law_99 : decode rL_law.2.1 99 = .ok (.invokevirtual 195, 3) := by decide +kernel
theorem eL_law_102 : decode rL_law.2.1 102 = .ok (.ifCond .lt 19, 3) := by decide +kernel
theorem eL_law_105 : decode rL_law.2.1 105 = .ok (.aload_n 2, 1) := by decide +kernel
theorem eL_law_106 : decode rL_law.2.1 106 = .ok (.invokevirtual 195, 3) := by decide +kernel
theorem eL_law_109 : decode rL_law.2.1 109 = .ok (.ifCond .lt 12, 3) := by decide +kernel
theorem eL_law_112 : decode rL_law.2.1 112 = .ok (.aload_n 2, 1) := by decide +kernel
theorem eL_law_113 : decode rL_law.2.1 113 = .ok (.invokestatic 182, 3) := by decide +kernel
theorem eL_law_116 : decode rL_law.2.1 116 = .ok (.iload 4, 2) := by decide +kernel
theorem eL_law_118 : decode rL_law.2.1 118 = .ok (.if_icmp .eq 5, 3) := by decide +kernel
theorem eL_law_121 : decode rL_law.2.1 121 = .ok (.iconst 0, 1) := by decide +kernel
theorem eL_law_122 : decode rL_law.2.1 122 = .ok (.ireturn, 1) := by decide +kernel
theorem eL_law_123 : decode rL_law.2.1 123 = .ok (.aload_n 1, 1) := by decide +kernel
theorem eL_law_124 : decode rL_law.2.1 124 = .ok (.ldc 198, 2) := by decide +kernel
theorem eL_law_126 : decode rL_law.2.1 126 = .ok (.invokestatic 188, 3) := by decide +kernel
theorem eL_law_129 : decode rL_law.2.1 129 = .ok (.aload_n 1, 1) := by decide +kernel
theorem eL_law_130 : decode rL_law.2.1 130 = .ok (.invokestatic 200, 3) := by decide +kernel
theorem eL_law_133 : decode rL_law.2.1 133 = .ok (.bipush (-2), 2) := by decide +kernel
theorem eL_law_135 : decode rL_law.2.1 135 = .ok (.if_icmp .ne 20, 3) := by decide +kernel
theorem eL_law_138 : decode rL_law.2.1 138 = .ok (.aload_n 1, 1) := by decide +kernel
theorem eL_law_139 : decode rL_law.2.1 139 = .ok (.invokevirtual 203, 3) := by decide +kernel
theorem eL_law_142 : decode rL_law.2.1 142 = .ok (.iconst 1, 1) := by decide +kernel
theorem eL_law_143 : decode rL_law.2.1 143 = .ok (.if_icmp .ne 12, 3) := by decide +kernel
theorem eL_law_146 : decode rL_law.2.1 146 = .ok (.aload_n 1, 1) := by decide +kernel
theorem eL_law_147 : decode rL_law.2.1 147 = .ok (.invokestatic 182, 3) := by decide +kernel
theorem eL_law_150 : decode rL_law.2.1 150 = .ok (.iload 4, 2) := by decide +kernel
theorem eL_law_152 : decode rL_law.2.1 152 = .ok (.if_icmp .eq 5, 3) := by decide +kernel
theorem eL_law_155 : decode rL_law.2.1 155 = .ok (.iconst 0, 1) := by decide +kernel
theorem eL_law_156 : decode rL_law.2.1 156 = .ok (.ireturn, 1) := by decide +kernel
theorem eL_law_157 : decode rL_law.2.1 157 = .ok (.aload_n 1, 1) := by decide +kernel
theorem eL_law_158 : decode rL_law.2.1 158 = .ok (.ldc 206, 2) := by decide +kernel
theorem eL_law_160 : decode rL_law.2.1 160 = .ok (.invokestatic 188, 3) := by decide +kernel
theorem eL_law_163 : decode rL_law.2.1 163 = .ok (.aload_n 1, 1) := by decide +kernel
theorem eL_law_164 : decode rL_law.2.1 164 = .ok (.invokestatic 200, 3) := by decide +kernel
theorem eL_law_167 : decode rL_law.2.1 167 = .ok (.bipush (-2), 2) := by decide +kernel
theorem eL_law_169 : decode rL_law.2.1 169 = .ok (.if_icmp .ne 19, 3) := by decide +kernel
theorem eL_law_172 : decode rL_law.2.1 172 = .ok (.aload_n 1, 1) := by decide +kernel
theorem eL_law_173 : decode rL_law.2.1 173 = .ok (.invokevirtual 203, 3) := by decide +kernel
theorem eL_law_176 : decode rL_law.2.1 176 = .ok (.ifCond .ne 12, 3) := by decide +kernel
theorem eL_law_179 : decode rL_law.2.1 179 = .ok (.aload_n 1, 1) := by decide +kernel
theorem eL_law_180 : decode rL_law.2.1 180 = .ok (.invokestatic 182, 3) := by decide +kernel
theorem eL_law_183 : decode rL_law.2.1 183 = .ok (.iload 4, 2) := by decide +kernel
theorem eL_law_185 : decode rL_law.2.1 185 = .ok (.if_icmp .eq 5, 3) := by decide +kernel
theorem eL_law_188 : decode rL_law.2.1 188 = .ok (.iconst 0, 1) := by decide +kernel
theorem eL_law_189 : decode rL_law.2.1 189 = .ok (.ireturn, 1) := by decide +kernel
theorem eL_law_190 : decode rL_law.2.1 190 = .ok (.aload_n 1, 1) := by decide +kernel
theorem eL_law_191 : decode rL_law.2.1 191 = .ok (.ldc 208, 2) := by decide +kernel
theorem eL_law_193 : decode rL_law.2.1 193 = .ok (.iconst 2, 1) := by decide +kernel
theorem eL_law_194 : decode rL_law.2.1 194 = .ok (.invokestatic 210, 3) := by decide +kernel
theorem eL_law_197 : decode rL_law.2.1 197 = .ok (.ifCond .eq 125, 3) := by decide +kernel
theorem eL_law_200 : decode rL_law.2.1 200 = .ok (.aload_n 1, 1) := by decide +kernel
theorem eL_law_201 : decode rL_law.2.1 201 = .ok (.ldc 214, 2) := by decide +kernel
theorem eL_law_203 : decode rL_law.2.1 203 = .ok (.bipush 8, 2) := by decide +kernel
theorem eL_law_205 : decode rL_law.2.1 205 = .ok (.invokestatic 210, 3) := by decide +kernel
theorem eL_law_208 : decode rL_law.2.1 208 = .ok (.ifCond .eq 114, 3) := by decide +kernel
theorem eL_law_211 : decode rL_law.2.1 211 = .ok (.aload_n 1, 1) := by decide +kernel
theorem eL_law_212 : decode rL_law.2.1 212 = .ok (.ldc 216, 2) := by decide +kernel
theorem eL_law_214 : decode rL_law.2.1 214 = .ok (.iconst 5, 1) := by decide +kernel
theorem eL_law_215 : decode rL_law.2.1 215 = .ok (.invokestatic 210, 3) := by decide +kernel
theorem eL_law_218 : decode rL_law.2.1 218 = .ok (.ifCond .eq 104, 3) := by decide +kernel
theorem eL_law_221 : decode rL_law.2.1 221 = .ok (.aload_n 1, 1) := by decide +kernel
theorem eL_law_222 : decode rL_law.2.1 222 = .ok (.ldc 218, 2) := by decide +kernel
theorem eL_law_224 : decode rL_law.2.1 224 = .ok (.bipush 6, 2) := by decide +kernel
theorem eL_law_226 : decode rL_law.2.1 226 = .ok (.invokestatic 210, 3) := by decide +kernel
theorem eL_law_229 : decode rL_law.2.1 229 = .ok (.ifCond .eq 93, 3) := by decide +kernel
theorem eL_law_232 : decode rL_law.2.1 232 = .ok (.aload_n 1, 1) := by decide +kernel
theorem eL_law_233 : decode rL_law.2.1 233 = .ok (.ldc 220, 2) := by decide +kernel
theorem eL_law_235 : decode rL_law.2.1 235 = .ok (.bipush 11, 2) := by decide +kernel
theorem eL_law_237 : decode rL_law.2.1 237 = .ok (.invokestatic 210, 3) := by decide +kernel
theorem eL_law_240 : decode rL_law.2.1 240 = .ok (.ifCond .eq 82, 3) := by decide +kernel
theorem eL_law_243 : decode rL_law.2.1 243 = .ok (.aload_n 1, 1) := by decide +kernel
theorem eL_law_244 : decode rL_law.2.1 244 = .ok (.ldc 222, 2) := by decide +kernel
theorem eL_law_246 : decode rL_law.2.1 246 = .ok (.iconst 0, 1) := by decide +kernel
theorem eL_law_247 : decode rL_law.2.1 247 = .ok (.invokestatic 210, 3) := by decide +kernel
theorem eL_law_250 : decode rL_law.2.1 250 = .ok (.ifCond .eq 72, 3) := by decide +kernel
theorem eL_law_253 : decode rL_law.2.1 253 = .ok (.aload_n 1, 1) := by decide +kernel
theorem eL_law_254 : decode rL_law.2.1 254 = .ok (.ldc 224, 2) := by decide +kernel
theorem eL_law_256 : decode rL_law.2.1 256 = .ok (.bipush 7, 2) := by decide +kernel
theorem eL_law_258 : decode rL_law.2.1 258 = .ok (.invokestatic 210, 3) := by decide +kernel
theorem eL_law_261 : decode rL_law.2.1 261 = .ok (.ifCond .eq 61, 3) := by decide +kernel
theorem eL_law_264 : decode rL_law.2.1 264 = .ok (.aload_n 1, 1) := by decide +kernel
theorem eL_law_265 : decode rL_law.2.1 265 = .ok (.ldc 226, 2) := by decide +kernel
theorem eL_law_267 : decode rL_law.2.1 267 = .ok (.iconst 1, 1) := by decide +kernel
theorem eL_law_268 : decode rL_law.2.1 268 = .ok (.invokestatic 210, 3) := by decide +kernel
theorem eL_law_271 : decode rL_law.2.1 271 = .ok (.ifCond .eq 51, 3) := by decide +kernel
theorem eL_law_274 : decode rL_law.2.1 274 = .ok (.aload_n 1, 1) := by decide +kernel
theorem eL_law_275 : decode rL_law.2.1 275 = .ok (.ldc 228, 2) := by decide +kernel
theorem eL_law_277 : decode rL_law.2.1 277 = .ok (.bipush 8, 2) := by decide +kernel
theorem eL_law_279 : decode rL_law.2.1 279 = .ok (.invokestatic 210, 3) := by decide +kernel
theorem eL_law_282 : decode rL_law.2.1 282 = .ok (.ifCond .eq 40, 3) := by decide +kernel
theorem eL_law_285 : decode rL_law.2.1 285 = .ok (.aload_n 1, 1) := by decide +kernel
theorem eL_law_286 : decode rL_law.2.1 286 = .ok (.ldc 230, 2) := by decide +kernel
theorem eL_law_288 : decode rL_law.2.1 288 = .ok (.bipush 6, 2) := by decide +kernel
theorem eL_law_290 : decode rL_law.2.1 290 = .ok (.invokestatic 210, 3) := by decide +kernel
theorem eL_law_293 : decode rL_law.2.1 293 = .ok (.ifCond .eq 29, 3) := by decide +kernel
theorem eL_law_296 : decode rL_law.2.1 296 = .ok (.aload_n 1, 1) := by decide +kernel
theorem eL_law_297 : decode rL_law.2.1 297 = .ok (.ldc 232, 2) := by decide +kernel
theorem eL_law_299 : decode rL_law.2.1 299 = .ok (.iconst 0, 1) := by decide +kernel
theorem eL_law_300 : decode rL_law.2.1 300 = .ok (.invokestatic 210, 3) := by decide +kernel
theorem eL_law_303 : decode rL_law.2.1 303 = .ok (.ifCond .eq 19, 3) := by decide +kernel
theorem eL_law_306 : decode rL_law.2.1 306 = .ok (.aload_n 1, 1) := by decide +kernel
theorem eL_law_307 : decode rL_law.2.1 307 = .ok (.invokevirtual 203, 3) := by decide +kernel
theorem eL_law_310 : decode rL_law.2.1 310 = .ok (.ifCond .ne 12, 3) := by decide +kernel
theorem eL_law_313 : decode rL_law.2.1 313 = .ok (.aload_n 1, 1) := by decide +kernel
theorem eL_law_314 : decode rL_law.2.1 314 = .ok (.invokestatic 182, 3) := by decide +kernel
theorem eL_law_317 : decode rL_law.2.1 317 = .ok (.iload 4, 2) := by decide +kernel
theorem eL_law_319 : decode rL_law.2.1 319 = .ok (.if_icmp .eq 5, 3) := by decide +kernel
theorem eL_law_322 : decode rL_law.2.1 322 = .ok (.iconst 0, 1) := by decide +kernel
theorem eL_law_323 : decode rL_law.2.1 323 = .ok (.ireturn, 1) := by decide +kernel
theorem eL_law_324 : decode rL_law.2.1 324 = .ok (.aload_n 0, 1) := by decide +kernel
theorem eL_law_325 : decode rL_law.2.1 325 = .ok (.bipush 13, 2) := by decide +kernel
theorem eL_law_327 : decode rL_law.2.1 327 = .ok (.invokestatic 24, 3) := by decide +kernel
theorem eL_law_330 : decode rL_law.2.1 330 = .ok (.istore 5, 2) := by decide +kernel
theorem eL_law_332 : decode rL_law.2.1 332 = .ok (.iconst 2, 1) := by decide +kernel
theorem eL_law_333 : decode rL_law.2.1 333 = .ok (.iload 5, 2) := by decide +kernel
theorem eL_law_335 : decode rL_law.2.1 335 = .ok (.iconst 3, 1) := by decide +kernel
theorem eL_law_336 : decode rL_law.2.1 336 = .ok (.iand, 1) := by decide +kernel
theorem eL_law_337 : decode rL_law.2.1 337 = .ok (.iadd, 1) := by decide +kernel
theorem eL_law_338 : decode rL_law.2.1 338 = .ok (.istore 6, 2) := by decide +kernel
theorem eL_law_340 : decode rL_law.2.1 340 = .ok (.bipush 60, 2) := by decide +kernel
theorem eL_law_342 : decode rL_law.2.1 342 = .ok (.iload 5, 2) := by decide +kernel
theorem eL_law_344 : decode rL_law.2.1 344 = .ok (.iconst 2, 1) := by decide +kernel
theorem eL_law_345 : decode rL_law.2.1 345 = .ok (.ishr, 1) := by decide +kernel
theorem eL_law_346 : decode rL_law.2.1 346 = .ok (.bipush 63, 2) := by decide +kernel
theorem eL_law_348 : decode rL_law.2.1 348 = .ok (.iand, 1) := by decide +kernel
theorem eL_law_349 : decode rL_law.2.1 349 = .ok (.iadd, 1) := by decide +kernel
theorem eL_law_350 : decode rL_law.2.1 350 = .ok (.istore 7, 2) := by decide +kernel
theorem eL_law_352 : decode rL_law.2.1 352 = .ok (.new 18, 3) := by decide +kernel
theorem eL_law_355 : decode rL_law.2.1 355 = .ok (.dup, 1) := by decide +kernel
theorem eL_law_356 : decode rL_law.2.1 356 = .ok (.invokespecial 23, 3) := by decide +kernel
theorem eL_law_359 : decode rL_law.2.1 359 = .ok (.astore 8, 2) := by decide +kernel
theorem eL_law_361 : decode rL_law.2.1 361 = .ok (.aload 8, 2) := by decide +kernel
theorem eL_law_363 : decode rL_law.2.1 363 = .ok (.invokevirtual 234, 3) := by decide +kernel
theorem eL_law_366 : decode rL_law.2.1 366 = .ok (.ifCond .eq 87, 3) := by decide +kernel
theorem eL_law_369 : decode rL_law.2.1 369 = .ok (.aload 8, 2) := by decide +kernel
theorem eL_law_371 : decode rL_law.2.1 371 = .ok (.invokevirtual 134, 3) := by decide +kernel
theorem eL_law_374 : decode rL_law.2.1 374 = .ok (.lconst 0, 1) := by decide +kernel
theorem eL_law_375 : decode rL_law.2.1 375 = .ok (.lcmp, 1) := by decide +kernel
theorem eL_law_376 : decode rL_law.2.1 376 = .ok (.ifCond .ne 77, 3) := by decide +kernel
theorem eL_law_379 : decode rL_law.2.1 379 = .ok (.aload 8, 2) := by decide +kernel
theorem eL_law_381 : decode rL_law.2.1 381 = .ok (.iconst 5, 1) := by decide +kernel
theorem eL_law_382 : decode rL_law.2.1 382 = .ok (.sipush 150, 3) := by decide +kernel
theorem eL_law_385 : decode rL_law.2.1 385 = .ok (.invokevirtual 237, 3) := by decide +kernel
theorem eL_law_388 : decode rL_law.2.1 388 = .ok (.ifCond .ne 65, 3) := by decide +kernel
theorem eL_law_391 : decode rL_law.2.1 391 = .ok (.aload 8, 2) := by decide +kernel
theorem eL_law_393 : decode rL_law.2.1 393 = .ok (.bipush 90, 2) := by decide +kernel
theorem eL_law_395 : decode rL_law.2.1 395 = .ok (.invokevirtual 240, 3) := by decide +kernel
theorem eL_law_398 : decode rL_law.2.1 398 = .ok (.ifCond .ne 55, 3) := by decide +kernel
theorem eL_law_401 : decode rL_law.2.1 401 = .ok (.aload 8, 2) := by decide +kernel
theorem eL_law_403 : decode rL_law.2.1 403 = .ok (.iconst 2, 1) := by decide +kernel
theorem eL_law_404 : decode rL_law.2.1 404 = .ok (.invokevirtual 243, 3) := by decide +kernel
theorem eL_law_407 : decode rL_law.2.1 407 = .ok (.iconst 2, 1) := by decide +kernel
theorem eL_law_408 : decode rL_law.2.1 408 = .ok (.if_icmp .ne 45, 3) := by decide +kernel
theorem eL_law_411 : decode rL_law.2.1 411 = .ok (.aload 8, 2) := by decide +kernel
theorem eL_law_413 : decode rL_law.2.1 413 = .ok (.iconst 1, 1) := by decide +kernel
theorem eL_law_414 : decode rL_law.2.1 414 = .ok (.iconst 0, 1) := by decide +kernel
theorem eL_law_415 : decode rL_law.2.1 415 = .ok (.iconst 0, 1) := by decide +kernel
theorem eL_law_416 : decode rL_law.2.1 416 = .ok (.iconst 0, 1) := by decide +kernel
theorem eL_law_417 : decode rL_law.2.1 417 = .ok (.invokestatic 30, 3) := by decide +kernel
theorem eL_law_420 : decode rL_law.2.1 420 = .ok (.bipush (-4), 2) := by decide +kernel
theorem eL_law_422 : decode rL_law.2.1 422 = .ok (.if_icmp .ne 31, 3) := by decide +kernel
theorem eL_law_425 : decode rL_law.2.1 425 = .ok (.aload 8, 2) := by decide +kernel
theorem eL_law_427 : decode rL_law.2.1 427 = .ok (.iconst 2, 1) := by decide +kernel
theorem eL_law_428 : decode rL_law.2.1 428 = .ok (.iconst 0, 1) := by decide +kernel
theorem eL_law_429 : decode rL_law.2.1 429 = .ok (.iconst 1, 1) := by decide +kernel
theorem eL_law_430 : decode rL_law.2.1 430 = .ok (.iconst 0, 1) := by decide +kernel
theorem eL_law_431 : decode rL_law.2.1 431 = .ok (.invokestatic 30, 3) := by decide +kernel
theorem eL_law_434 : decode rL_law.2.1 434 = .ok (.bipush (-2), 2) := by decide +kernel
theorem eL_law_436 : decode rL_law.2.1 436 = .ok (.if_icmp .ne 17, 3) := by decide +kernel
theorem eL_law_439 : decode rL_law.2.1 439 = .ok (.aload 8, 2) := by decide +kernel
theorem eL_law_441 : decode rL_law.2.1 441 = .ok (.iconst 4, 1) := by decide +kernel
theorem eL_law_442 : decode rL_law.2.1 442 = .ok (.iconst 0, 1) := by decide +kernel
theorem eL_law_443 : decode rL_law.2.1 443 = .ok (.iconst 0, 1) := by decide +kernel
theorem eL_law_444 : decode rL_law.2.1 444 = .ok (.iconst 0, 1) := by decide +kernel
theorem eL_law_445 : decode rL_law.2.1 445 = .ok (.invokestatic 30, 3) := by decide +kernel
theorem eL_law_448 : decode rL_law.2.1 448 = .ok (.bipush (-2), 2) := by decide +kernel
theorem eL_law_450 : decode rL_law.2.1 450 = .ok (.if_icmp .eq 5, 3) := by decide +kernel
theorem eL_law_453 : decode rL_law.2.1 453 = .ok (.iconst 0, 1) := by decide +kernel
theorem eL_law_454 : decode rL_law.2.1 454 = .ok (.ireturn, 1) := by decide +kernel
theorem eL_law_455 : decode rL_law.2.1 455 = .ok (.aload 8, 2) := by decide +kernel
theorem eL_law_457 : decode rL_law.2.1 457 = .ok (.iload 6, 2) := by decide +kernel
theorem eL_law_459 : decode rL_law.2.1 459 = .ok (.iconst 0, 1) := by decide +kernel
theorem eL_law_460 : decode rL_law.2.1 460 = .ok (.iload 7, 2) := by decide +kernel
theorem eL_law_462 : decode rL_law.2.1 462 = .ok (.invokevirtual 43, 3) := by decide +kernel
theorem eL_law_465 : decode rL_law.2.1 465 = .ok (.ifCond .ne 175, 3) := by decide +kernel
theorem eL_law_468 : decode rL_law.2.1 468 = .ok (.aload 8, 2) := by decide +kernel
theorem eL_law_470 : decode rL_law.2.1 470 = .ok (.iconst 0, 1) := by decide +kernel
theorem eL_law_471 : decode rL_law.2.1 471 = .ok (.invokevirtual 124, 3) := by decide +kernel
theorem eL_law_474 : decode rL_law.2.1 474 = .ok (.ifCond .ne 166, 3) := by decide +kernel
theorem eL_law_477 : decode rL_law.2.1 477 = .ok (.aload 8, 2) := by decide +kernel
theorem eL_law_479 : decode rL_law.2.1 479 = .ok (.iconst 0, 1) := by decide +kernel
theorem eL_law_480 : decode rL_law.2.1 480 = .ok (.invokevirtual 246, 3) := by decide +kernel
theorem eL_law_483 : decode rL_law.2.1 483 = .ok (.iload 6, 2) := by decide +kernel
theorem eL_law_485 : decode rL_law.2.1 485 = .ok (.iconst 1, 1) := by decide +kernel
theorem eL_law_486 : decode rL_law.2.1 486 = .ok (.iadd, 1) := by decide +kernel
theorem eL_law_487 : decode rL_law.2.1 487 = .ok (.if_icmp .ne 153, 3) := by decide +kernel
theorem eL_law_490 : decode rL_law.2.1 490 = .ok (.aload 8, 2) := by decide +kernel
theorem eL_law_492 : decode rL_law.2.1 492 = .ok (.iconst 0, 1) := by decide +kernel
theorem eL_law_493 : decode rL_law.2.1 493 = .ok (.invokevirtual 249, 3) := by decide +kernel
theorem eL_law_496 : decode rL_law.2.1 496 = .ok (.iconst 2, 1) := by decide +kernel
theorem eL_law_497 : decode rL_law.2.1 497 = .ok (.iload 6, 2) := by decide +kernel
theorem eL_law_499 : decode rL_law.2.1 499 = .ok (.imul, 1) := by decide +kernel
theorem eL_law_500 : decode rL_law.2.1 500 = .ok (.iconst 4, 1) := by decide +kernel
theorem eL_law_501 : decode rL_law.2.1 501 = .ok (.iadd, 1) := by decide +kernel
theorem eL_law_502 : decode rL_law.2.1 502 = .ok (.if_icmp .ne 138, 3) := by decide +kernel
theorem eL_law_505 : decode rL_law.2.1 505 = .ok (.aload 8, 2) := by decide +kernel
theorem eL_law_507 : decode rL_law.2.1 507 = .ok (.iconst 0, 1) := by decide +kernel
theorem eL_law_508 : decode rL_law.2.1 508 = .ok (.invokevirtual 252, 3) := by decide +kernel
theorem eL_law_511 : decode rL_law.2.1 511 = .ok (.iload 6, 2) := by decide +kernel
theorem eL_law_513 : decode rL_law.2.1 513 = .ok (.if_icmp .ne 127, 3) := by decide +kernel
theorem eL_law_516 : decode rL_law.2.1 516 = .ok (.aload 8, 2) := by decide +kernel
theorem eL_law_518 : decode rL_law.2.1 518 = .ok (.iconst 0, 1) := by decide +kernel
theorem eL_law_519 : decode rL_law.2.1 519 = .ok (.bipush 9, 2) := by decide +kernel
theorem eL_law_521 : decode rL_law.2.1 521 = .ok (.invokevirtual 255, 3) := by decide +kernel
theorem eL_law_524 : decode rL_law.2.1 524 = .ok (.bipush 9, 2) := by decide +kernel
theorem eL_law_526 : decode rL_law.2.1 526 = .ok (.if_icmp .ne 114, 3) := by decide +kernel
theorem eL_law_529 : decode rL_law.2.1 529 = .ok (.aload 8, 2) := by decide +kernel
theorem eL_law_531 : decode rL_law.2.1 531 = .ok (.iconst 2, 1) := by decide +kernel
theorem eL_law_532 : decode rL_law.2.1 532 = .ok (.iload 6, 2) := by decide +kernel
theorem eL_law_534 : decode rL_law.2.1 534 = .ok (.imul, 1) := by decide +kernel
theorem eL_law_535 : decode rL_law.2.1 535 = .ok (.iconst 3, 1) := by decide +kernel
theorem eL_law_536 : decode rL_law.2.1 536 = .ok (.iadd, 1) := by decide +kernel
theorem eL_law_537 : decode rL_law.2.1 537 = .ok (.invokevirtual 240, 3) := by decide +kernel
theorem eL_law_540 : decode rL_law.2.1 540 = .ok (.ifCond .ne 100, 3) := by decide +kernel
theorem eL_law_543 : decode rL_law.2.1 543 = .ok (.aload 8, 2) := by decide +kernel
theorem eL_law_545 : decode rL_law.2.1 545 = .ok (.iconst 2, 1) := by decide +kernel
theorem eL_law_546 : decode rL_law.2.1 546 = .ok (.iload 6, 2) := by decide +kernel
theorem eL_law_548 : decode rL_law.2.1 548 = .ok (.imul, 1) := by decide +kernel
theorem eL_law_549 : decode rL_law.2.1 549 = .ok (.iconst 4, 1) := by decide +kernel
theorem eL_law_550 : decode rL_law.2.1 550 = .ok (.iadd, 1) := by decide +kernel
theorem eL_law_551 : decode rL_law.2.1 551 = .ok (.invokevirtual 240, 3) := by decide +kernel
theorem eL_law_554 : decode rL_law.2.1 554 = .ok (.iconst 1, 1) := by decide +kernel
theorem eL_law_555 : decode rL_law.2.1 555 = .ok (.if_icmp .ne 85, 3) := by decide +kernel
theorem eL_law_558 : decode rL_law.2.1 558 = .ok (.aload 8, 2) := by decide +kernel
theorem eL_law_560 : decode rL_law.2.1 560 = .ok (.iload 6, 2) := by decide +kernel
theorem eL_law_562 : decode rL_law.2.1 562 = .ok (.invokevirtual 63, 3) := by decide +kernel
theorem eL_law_565 : decode rL_law.2.1 565 = .ok (.ifCond .ne 75, 3) := by decide +kernel
theorem eL_law_568 : decode rL_law.2.1 568 = .ok (.aload 8, 2) := by decide +kernel
theorem eL_law_570 : decode rL_law.2.1 570 = .ok (.iconst 0, 1) := by decide +kernel
theorem eL_law_571 : decode rL_law.2.1 571 = .ok (.invokevirtual 76, 3) := by decide +kernel
theorem eL_law_574 : decode rL_law.2.1 574 = .ok (.iload 6, 2) := by decide +kernel
theorem eL_law_576 : decode rL_law.2.1 576 = .ok (.if_icmp .ne 64, 3) := by decide +kernel
theorem eL_law_579 : decode rL_law.2.1 579 = .ok (.aload 8, 2) := by decide +kernel
theorem eL_law_581 : decode rL_law.2.1 581 = .ok (.iconst 0, 1) := by decide +kernel
theorem eL_law_582 : decode rL_law.2.1 582 = .ok (.invokevirtual 79, 3) := by decide +kernel
theorem eL_law_585 : decode rL_law.2.1 585 = .ok (.iconst 1, 1) := by decide +kernel
theorem eL_law_586 : decode rL_law.2.1 586 = .ok (.if_icmp .ne 54, 3) := by decide +kernel
theorem eL_law_589 : decode rL_law.2.1 589 = .ok (.aload 8, 2) := by decide +kernel
theorem eL_law_591 : decode rL_law.2.1 591 = .ok (.iconst 0, 1) := by decide +kernel
theorem eL_law_592 : decode rL_law.2.1 592 = .ok (.invokevirtual 92, 3) := by decide +kernel
theorem eL_law_595 : decode rL_law.2.1 595 = .ok (.iconst 2, 1) := by decide +kernel
theorem eL_law_596 : decode rL_law.2.1 596 = .ok (.iload 6, 2) := by decide +kernel
theorem eL_law_598 : decode rL_law.2.1 598 = .ok (.imul, 1) := by decide +kernel
theorem eL_law_599 : decode rL_law.2.1 599 = .ok (.if_icmp .ne 41, 3) := by decide +kernel
theorem eL_law_602 : decode rL_law.2.1 602 = .ok (.aload 8, 2) := by decide +kernel
theorem eL_law_604 : decode rL_law.2.1 604 = .ok (.iconst 0, 1) := by decide +kernel
theorem eL_law_605 : decode rL_law.2.1 605 = .ok (.iload 6, 2) := by decide +kernel
theorem eL_law_607 : decode rL_law.2.1 607 = .ok (.iconst 1, 1) := by decide +kernel
theorem eL_law_608 : decode rL_law.2.1 608 = .ok (.iadd, 1) := by decide +kernel
theorem eL_law_609 : decode rL_law.2.1 609 = .ok (.invokevirtual 255, 3) := by decide +kernel
theorem eL_law_612 : decode rL_law.2.1 612 = .ok (.iconst 1, 1) := by decide +kernel
theorem eL_law_613 : decode rL_law.2.1 613 = .ok (.if_icmp .ne 27, 3) := by decide +kernel
theorem eL_law_616 : decode rL_law.2.1 616 = .ok (.aload 8, 2) := by decide +kernel
theorem eL_law_618 : decode rL_law.2.1 618 = .ok (.iconst 0, 1) := by decide +kernel
theorem eL_law_619 : decode rL_law.2.1 619 = .ok (.iconst 0, 1) := by decide +kernel
theorem eL_law_620 : decode rL_law.2.1 620 = .ok (.invokevirtual 255, 3) := by decide +kernel
theorem eL_law_623 : decode rL_law.2.1 623 = .ok (.iload 6, 2) := by decide +kernel
theorem eL_law_625 : decode rL_law.2.1 625 = .ok (.if_icmp .ne 15, 3) := by decide +kernel
theorem eL_law_628 : decode rL_law.2.1 628 = .ok (.aload 8, 2) := by decide +kernel
theorem eL_law_630 : decode rL_law.2.1 630 = .ok (.iconst 0, 1) := by decide +kernel
theorem eL_law_631 : decode rL_law.2.1 631 = .ok (.iconst 0, 1) := by decide +kernel
theorem eL_law_632 : decode rL_law.2.1 632 = .ok (.invokevirtual 257, 3) := by decide +kernel
theorem eL_law_635 : decode rL_law.2.1 635 = .ok (.iload 6, 2) := by decide +kernel
theorem eL_law_637 : decode rL_law.2.1 637 = .ok (.if_icmp .eq 5, 3) := by decide +kernel
theorem eL_law_640 : decode rL_law.2.1 640 = .ok (.iconst 0, 1) := by decide +kernel
theorem eL_law_641 : decode rL_law.2.1 641 = .ok (.ireturn, 1) := by decide +kernel
theorem eL_law_642 : decode rL_law.2.1 642 = .ok (.aload 8, 2) := by decide +kernel
theorem eL_law_644 : decode rL_law.2.1 644 = .ok (.iconst 1, 1) := by decide +kernel
theorem eL_law_645 : decode rL_law.2.1 645 = .ok (.invokevirtual 63, 3) := by decide +kernel
theorem eL_law_648 : decode rL_law.2.1 648 = .ok (.ifCond .ne 170, 3) := by decide +kernel
theorem eL_law_651 : decode rL_law.2.1 651 = .ok (.aload 8, 2) := by decide +kernel
theorem eL_law_653 : decode rL_law.2.1 653 = .ok (.iconst 0, 1) := by decide +kernel
theorem eL_law_654 : decode rL_law.2.1 654 = .ok (.invokevirtual 117, 3) := by decide +kernel
theorem eL_law_657 : decode rL_law.2.1 657 = .ok (.ifCond .eq 161, 3) := by decide +kernel
theorem eL_law_660 : decode rL_law.2.1 660 = .ok (.aload 8, 2) := by decide +kernel
theorem eL_law_662 : decode rL_law.2.1 662 = .ok (.iconst 0, 1) := by decide +kernel
theorem eL_law_663 : decode rL_law.2.1 663 = .ok (.invokevirtual 85, 3) := by decide +kernel
theorem eL_law_666 : decode rL_law.2.1 666 = .ok (.iconst 2, 1) := by decide +kernel
theorem eL_law_667 : decode rL_law.2.1 667 = .ok (.if_icmp .ne 151, 3) := by decide +kernel
theorem eL_law_670 : decode rL_law.2.1 670 = .ok (.aload 8, 2) := by decide +kernel
theorem eL_law_672 : decode rL_law.2.1 672 = .ok (.iconst 0, 1) := by decide +kernel
theorem eL_law_673 : decode rL_law.2.1 673 = .ok (.invokevirtual 110, 3) := by decide +kernel
theorem eL_law_676 : decode rL_law.2.1 676 = .ok (.iload 6, 2) := by decide +kernel
theorem eL_law_678 : decode rL_law.2.1 678 = .ok (.iconst 1, 1) := by decide +kernel
theorem eL_law_679 : decode rL_law.2.1 679 = .ok (.iadd, 1) := by decide +kernel
theorem eL_law_680 : decode rL_law.2.1 680 = .ok (.if_icmp .ne 138, 3) := by decide +kernel
theorem eL_law_683 : decode rL_law.2.1 683 = .ok (.aload 8, 2) := by decide +kernel
theorem eL_law_685 : decode rL_law.2.1 685 = .ok (.iconst 0, 1) := by decide +kernel
theorem eL_law_686 : decode rL_law.2.1 686 = .ok (.invokevirtual 260, 3) := by decide +kernel
theorem eL_law_689 : decode rL_law.2.1 689 = .ok (.iload 7, 2) := by decide +kernel
theorem eL_law_691 : decode rL_law.2.1 691 = .ok (.if_icmp .ne 127, 3) := by decide +kernel
theorem eL_law_694 : decode rL_law.2.1 694 = .ok (.aload 8, 2) := by decide +kernel
theorem eL_law_696 : decode rL_law.2.1 696 = .ok (.iconst 1, 1) := by decide +kernel
theorem eL_law_697 : decode rL_law.2.1 697 = .ok (.iconst 0, 1) := by decide +kernel
theorem eL_law_698 : decode rL_law.2.1 698 = .ok (.iconst 0, 1) := by decide +kernel
theorem eL_law_699 : decode rL_law.2.1 699 = .ok (.iconst 0, 1) := by decide +kernel
theorem eL_law_700 : decode rL_law.2.1 700 = .ok (.invokestatic 30, 3) := by decide +kernel
theorem eL_law_703 : decode rL_law.2.1 703 = .ok (.bipush (-2), 2) := by decide +kernel
theorem eL_law_705 : decode rL_law.2.1 705 = .ok (.if_icmp .ne 113, 3) := by decide +kernel
theorem eL_law_708 : decode rL_law.2.1 708 = .ok (.aload 8, 2) := by decide +kernel
theorem eL_law_710 : decode rL_law.2.1 710 = .ok (.iconst 5, 1) := by decide +kernel
theorem eL_law_711 : decode rL_law.2.1 711 = .ok (.iconst 0, 1) := by decide +kernel
theorem eL_law_712 : decode rL_law.2.1 712 = .ok (.bipush 100, 2) := by decide +kernel
theorem eL_law_714 : decode rL_law.2.1 714 = .ok (.iconst 0, 1) := by decide +kernel
theorem eL_law_715 : decode rL_law.2.1 715 = .ok (.invokestatic 30, 3) := by decide +kernel
theorem eL_law_718 : decode rL_law.2.1 718 = .ok (.iload 7, 2) := by decide +kernel
theorem eL_law_720 : decode rL_law.2.1 720 = .ok (.bipush 100, 2) := by decide +kernel
theorem eL_law_722 : decode rL_law.2.1 722 = .ok (.if_icmp .le 8, 3) := by decide +kernel
theorem eL_law_725 : decode rL_law.2.1 725 = .ok (.bipush (-3), 2) := by decide +kernel
theorem eL_law_727 : decode rL_law.2.1 727 = .ok (.goto 6, 3) := by decide +kernel
theorem eL_law_730 : decode rL_law.2.1 730 = .ok (.sipush 400, 3) := by decide +kernel
theorem eL_law_733 : decode rL_law.2.1 733 = .ok (.if_icmp .ne 85, 3) := by decide +kernel
theorem eL_law_736 : decode rL_law.2.1 736 = .ok (.aload 8, 2) := by decide +kernel
theorem eL_law_738 : decode rL_law.2.1 738 = .ok (.iconst 0, 1) := by decide +kernel
theorem eL_law_739 : decode rL_law.2.1 739 = .ok (.sipush 400, 3) := by decide +kernel
theorem eL_law_742 : decode rL_law.2.1 742 = .ok (.invokevirtual 60, 3) := by decide +kernel
theorem eL_law_745 : decode rL_law.2.1 745 = .ok (.bipush 100, 2) := by decide +kernel
theorem eL_law_747 : decode rL_law.2.1 747 = .ok (.if_icmp .lt 71, 3) := by decide +kernel
theorem eL_law_750 : decode rL_law.2.1 750 = .ok (.aload 8, 2) := by decide +kernel
theorem eL_law_752 : decode rL_law.2.1 752 = .ok (.iconst 0, 1) := by decide +kernel
theorem eL_law_753 : decode rL_law.2.1 753 = .ok (.iconst 1, 1) := by decide +kernel
theorem eL_law_754 : decode rL_law.2.1 754 = .ok (.invokevirtual 51, 3) := by decide +kernel
theorem eL_law_757 : decode rL_law.2.1 757 = .ok (.iconst 2, 1) := by decide +kernel
theorem eL_law_758 : decode rL_law.2.1 758 = .ok (.if_icmp .ne 60, 3) := by decide +kernel
theorem eL_law_761 : decode rL_law.2.1 761 = .ok (.aload 8, 2) := by decide +kernel
theorem eL_law_763 : decode rL_law.2.1 763 = .ok (.iconst 1, 1) := by decide +kernel
theorem eL_law_764 : decode rL_law.2.1 764 = .ok (.invokevirtual 63, 3) := by decide +kernel
theorem eL_law_767 : decode rL_law.2.1 767 = .ok (.ifCond .ne 51, 3) := by decide +kernel
theorem eL_law_770 : decode rL_law.2.1 770 = .ok (.aload 8, 2) := by decide +kernel
theorem eL_law_772 : decode rL_law.2.1 772 = .ok (.iconst 0, 1) := by decide +kernel
theorem eL_law_773 : decode rL_law.2.1 773 = .ok (.invokevirtual 85, 3) := by decide +kernel
theorem eL_law_776 : decode rL_law.2.1 776 = .ok (.ifCond .ne 42, 3) := by decide +kernel
theorem eL_law_779 : decode rL_law.2.1 779 = .ok (.aload 8, 2) := by decide +kernel
theorem eL_law_781 : decode rL_law.2.1 781 = .ok (.iload 6, 2) := by decide +kernel
theorem eL_law_783 : decode rL_law.2.1 783 = .ok (.invokevirtual 63, 3) := by decide +kernel
theorem eL_law_786 : decode rL_law.2.1 786 = .ok (.ifCond .ne 32, 3) := by decide +kernel
theorem eL_law_789 : decode rL_law.2.1 789 = .ok (.aload 8, 2) := by decide +kernel
theorem eL_law_791 : decode rL_law.2.1 791 = .ok (.iconst 0, 1) := by decide +kernel
theorem eL_law_792 : decode rL_law.2.1 792 = .ok (.invokevirtual 76, 3) := by decide +kernel
theorem eL_law_795 : decode rL_law.2.1 795 = .ok (.ifCond .ne 23, 3) := by decide +kernel
theorem eL_law_798 : decode rL_law.2.1 798 = .ok (.aload 8, 2) := by decide +kernel
theorem eL_law_800 : decode rL_law.2.1 800 = .ok (.iconst 0, 1) := by decide +kernel
theorem eL_law_801 : decode rL_law.2.1 801 = .ok (.invokevirtual 79, 3) := by decide +kernel
theorem eL_law_804 : decode rL_law.2.1 804 = .ok (.iconst (-1), 1) := by decide +kernel
theorem eL_law_805 : decode rL_law.2.1 805 = .ok (.if_icmp .ne 13, 3) := by decide +kernel
theorem eL_law_808 : decode rL_law.2.1 808 = .ok (.aload 8, 2) := by decide +kernel
theorem eL_law_810 : decode rL_law.2.1 810 = .ok (.iconst 1, 1) := by decide +kernel
theorem eL_law_811 : decode rL_law.2.1 811 = .ok (.invokevirtual 63, 3) := by decide +kernel
theorem eL_law_814 : decode rL_law.2.1 814 = .ok (.iconst 1, 1) := by decide +kernel
theorem eL_law_815 : decode rL_law.2.1 815 = .ok (.if_icmp .eq 5, 3) := by decide +kernel
theorem eL_law_818 : decode rL_law.2.1 818 = .ok (.iconst 0, 1) := by decide +kernel
theorem eL_law_819 : decode rL_law.2.1 819 = .ok (.ireturn, 1) := by decide +kernel
theorem eL_law_820 : decode rL_law.2.1 820 = .ok (.aload 8, 2) := by decide +kernel
theorem eL_law_822 : decode rL_law.2.1 822 = .ok (.invokevirtual 34, 3) := by decide +kernel
theorem eL_law_825 : decode rL_law.2.1 825 = .ok (.ifCond .ne 127, 3) := by decide +kernel
theorem eL_law_828 : decode rL_law.2.1 828 = .ok (.aload 8, 2) := by decide +kernel
theorem eL_law_830 : decode rL_law.2.1 830 = .ok (.iconst 0, 1) := by decide +kernel
theorem eL_law_831 : decode rL_law.2.1 831 = .ok (.invokevirtual 262, 3) := by decide +kernel
theorem eL_law_834 : decode rL_law.2.1 834 = .ok (.iconst 1, 1) := by decide +kernel
theorem eL_law_835 : decode rL_law.2.1 835 = .ok (.if_icmp .ne 117, 3) := by decide +kernel
theorem eL_law_838 : decode rL_law.2.1 838 = .ok (.aload 8, 2) := by decide +kernel
theorem eL_law_840 : decode rL_law.2.1 840 = .ok (.iconst 0, 1) := by decide +kernel
theorem eL_law_841 : decode rL_law.2.1 841 = .ok (.invokevirtual 265, 3) := by decide +kernel
theorem eL_law_844 : decode rL_law.2.1 844 = .ok (.ifCond .ne 108, 3) := by decide +kernel
theorem eL_law_847 : decode rL_law.2.1 847 = .ok (.aload 8, 2) := by decide +kernel
theorem eL_law_849 : decode rL_law.2.1 849 = .ok (.iconst 0, 1) := by decide +kernel
theorem eL_law_850 : decode rL_law.2.1 850 = .ok (.invokevirtual 268, 3) := by decide +kernel
theorem eL_law_853 : decode rL_law.2.1 853 = .ok (.iload 6, 2) := by decide +kernel
theorem eL_law_855 : decode rL_law.2.1 855 = .ok (.iconst 1, 1) := by decide +kernel
theorem eL_law_856 : decode rL_law.2.1 856 = .ok (.iadd, 1) := by decide +kernel
theorem eL_law_857 : decode rL_law.2.1 857 = .ok (.if_icmp .ne 95, 3) := by decide +kernel
theorem eL_law_860 : decode rL_law.2.1 860 = .ok (.aload 8, 2) := by decide +kernel
theorem eL_law_862 : decode rL_law.2.1 862 = .ok (.invokevirtual 271, 3) := by decide +kernel
theorem eL_law_865 : decode rL_law.2.1 865 = .ok (.iload 6, 2) := by decide +kernel
theorem eL_law_867 : decode rL_law.2.1 867 = .ok (.if_icmp .ne 85, 3) := by decide +kernel
theorem eL_law_870 : decode rL_law.2.1 870 = .ok (.aload 8, 2) := by decide +kernel
theorem eL_law_872 : decode rL_law.2.1 872 = .ok (.invokevirtual 274, 3) := by decide +kernel
theorem eL_law_875 : decode rL_law.2.1 875 = .ok (.iload 6, 2) := by decide +kernel
theorem eL_law_877 : decode rL_law.2.1 877 = .ok (.if_icmp .ne 75, 3) := by decide +kernel
theorem eL_law_880 : decode rL_law.2.1 880 = .ok (.aload 8, 2) := by decide +kernel
theorem eL_law_882 : decode rL_law.2.1 882 = .ok (.invokevirtual 277, 3) := by decide +kernel
theorem eL_law_885 : decode rL_law.2.1 885 = .ok (.iconst 2, 1) := by decide +kernel
theorem eL_law_886 : decode rL_law.2.1 886 = .ok (.if_icmp .ne 66, 3) := by decide +kernel
theorem eL_law_889 : decode rL_law.2.1 889 = .ok (.aload 8, 2) := by decide +kernel
theorem eL_law_891 : decode rL_law.2.1 891 = .ok (.invokevirtual 134, 3) := by decide +kernel
theorem eL_law_894 : decode rL_law.2.1 894 = .ok (.ldc2_w 280, 3) := by decide +kernel
theorem eL_law_897 : decode rL_law.2.1 897 = .ok (.iload 6, 2) := by decide +kernel
theorem eL_law_899 : decode rL_law.2.1 899 = .ok (.i2l, 1) := by decide +kernel
theorem eL_law_900 : decode rL_law.2.1 900 = .ok (.lmul, 1) := by decide +kernel
theorem eL_law_901 : decode rL_law.2.1 901 = .ok (.ldc2_w 282, 3) := by decide +kernel
theorem eL_law_904 : decode rL_law.2.1 904 = .ok (.ladd, 1) := by decide +kernel
theorem eL_law_905 : decode rL_law.2.1 905 = .ok (.lcmp, 1) := by decide +kernel
theorem eL_law_906 : decode rL_law.2.1 906 = .ok (.ifCond .ne 46, 3) := by decide +kernel
theorem eL_law_909 : decode rL_law.2.1 909 = .ok (.aload 8, 2) := by decide +kernel
theorem eL_law_911 : decode rL_law.2.1 911 = .ok (.invokevirtual 284, 3) := by decide +kernel
theorem eL_law_914 : decode rL_law.2.1 914 = .ok (.ldc2_w 280, 3) := by decide +kernel
theorem eL_law_917 : decode rL_law.2.1 917 = .ok (.iload 6, 2) := by decide +kernel
theorem eL_law_919 : decode rL_law.2.1 919 = .ok (.i2l, 1) := by decide +kernel
theorem eL_law_920 : decode rL_law.2.1 920 = .ok (.lmul, 1) := by decide +kernel
theorem eL_law_921 : decode rL_law.2.1 921 = .ok (.ldc2_w 282, 3) := by decide +kernel
theorem eL_law_924 : decode rL_law.2.1 924 = .ok (.ladd, 1) := by decide +kernel
theorem eL_law_925 : decode rL_law.2.1 925 = .ok (.lcmp, 1) := by decide +kernel
theorem eL_law_926 : decode rL_law.2.1 926 = .ok (.ifCond .ne 26, 3) := by decide +kernel
theorem eL_law_929 : decode rL_law.2.1 929 = .ok (.aload 8, 2) := by decide +kernel
theorem eL_law_931 : decode rL_law.2.1 931 = .ok (.invokevirtual 287, 3) := by decide +kernel
theorem eL_law_934 : decode rL_law.2.1 934 = .ok (.iload 6, 2) := by decide +kernel
theorem eL_law_936 : decode rL_law.2.1 936 = .ok (.iconst 1, 1) := by decide +kernel
theorem eL_law_937 : decode rL_law.2.1 937 = .ok (.iadd, 1) := by decide +kernel
theorem eL_law_938 : decode rL_law.2.1 938 = .ok (.i2d, 1) := by decide +kernel
theorem eL_law_939 : decode rL_law.2.1 939 = .ok (.dcmp .l, 1) := by decide +kernel
theorem eL_law_940 : decode rL_law.2.1 940 = .ok (.ifCond .ne 12, 3) := by decide +kernel
theorem eL_law_943 : decode rL_law.2.1 943 = .ok (.aload 8, 2) := by decide +kernel
theorem eL_law_945 : decode rL_law.2.1 945 = .ok (.iconst 0, 1) := by decide +kernel
theorem eL_law_946 : decode rL_law.2.1 946 = .ok (.invokevirtual 243, 3) := by decide +kernel
theorem eL_law_949 : decode rL_law.2.1 949 = .ok (.ifCond .eq 5, 3) := by decide +kernel
theorem eL_law_952 : decode rL_law.2.1 952 = .ok (.iconst 0, 1) := by decide +kernel
theorem eL_law_953 : decode rL_law.2.1 953 = .ok (.ireturn, 1) := by decide +kernel
theorem eL_law_954 : decode rL_law.2.1 954 = .ok (.aload 8, 2) := by decide +kernel
theorem eL_law_956 : decode rL_law.2.1 956 = .ok (.iconst 0, 1) := by decide +kernel
theorem eL_law_957 : decode rL_law.2.1 957 = .ok (.invokevirtual 54, 3) := by decide +kernel
theorem eL_law_960 : decode rL_law.2.1 960 = .ok (.ifCond .ne 169, 3) := by decide +kernel
theorem eL_law_963 : decode rL_law.2.1 963 = .ok (.aload 8, 2) := by decide +kernel
theorem eL_law_965 : decode rL_law.2.1 965 = .ok (.iconst 0, 1) := by decide +kernel
theorem eL_law_966 : decode rL_law.2.1 966 = .ok (.bipush 9, 2) := by decide +kernel
theorem eL_law_968 : decode rL_law.2.1 968 = .ok (.sipush 150, 3) := by decide +kernel
theorem eL_law_971 : decode rL_law.2.1 971 = .ok (.invokevirtual 43, 3) := by decide +kernel
theorem eL_law_974 : decode rL_law.2.1 974 = .ok (.ifCond .ne 155, 3) := by decide +kernel
theorem eL_law_977 : decode rL_law.2.1 977 = .ok (.aload 8, 2) := by decide +kernel
theorem eL_law_979 : decode rL_law.2.1 979 = .ok (.iconst 0, 1) := by decide +kernel
theorem eL_law_980 : decode rL_law.2.1 980 = .ok (.invokevirtual 124, 3) := by decide +kernel
theorem eL_law_983 : decode rL_law.2.1 983 = .ok (.iconst 1, 1) := by decide +kernel
theorem eL_law_984 : decode rL_law.2.1 984 = .ok (.if_icmp .ne 145, 3) := by decide +kernel
theorem eL_law_987 : decode rL_law.2.1 987 = .ok (.aload 8, 2) := by decide +kernel
theorem eL_law_989 : decode rL_law.2.1 989 = .ok (.iconst 1, 1) := by decide +kernel
theorem eL_law_990 : decode rL_law.2.1 990 = .ok (.sipush 149, 3) := by decide +kernel
theorem eL_law_993 : decode rL_law.2.1 993 = .ok (.invokevirtual 60, 3) := by decide +kernel
theorem eL_law_996 : decode rL_law.2.1 996 = .ok (.sipush 400, 3) := by decide +kernel
theorem eL_law_999 : decode rL_law.2.1 999 = .ok (.if_icmp .ne 130, 3) := by decide +kernel
theorem eL_law_1002 : decode rL_law.2.1 1002 = .ok (.aload 8, 2) := by decide +kernel
theorem eL_law_1004 : decode rL_law.2.1 1004 = .ok (.iconst 1, 1) := by decide +kernel
theorem eL_law_1005 : decode rL_law.2.1 1005 = .ok (.invokevirtual 63, 3) := by decide +kernel
theorem eL_law_1008 : decode rL_law.2.1 1008 = .ok (.ifCond .ne 121, 3) := by decide +kernel
theorem eL_law_1011 : decode rL_law.2.1 1011 = .ok (.aload 8, 2) := by decide +kernel
theorem eL_law_1013 : decode rL_law.2.1 1013 = .ok (.iconst 0, 1) := by decide +kernel
theorem eL_law_1014 : decode rL_law.2.1 1014 = .ok (.invokevirtual 117, 3) := by decide +kernel
theorem eL_law_1017 : decode rL_law.2.1 1017 = .ok (.ifCond .ne 112, 3) := by decide +kernel
theorem eL_law_1020 : decode rL_law.2.1 1020 = .ok (.aload 8, 2) := by decide +kernel
theorem eL_law_1022 : decode rL_law.2.1 1022 = .ok (.iconst 1, 1) := by decide +kernel
theorem eL_law_1023 : decode rL_law.2.1 1023 = .ok (.invokevirtual 85, 3) := by decide +kernel
theorem eL_law_1026 : decode rL_law.2.1 1026 = .ok (.iconst 2, 1) := by decide +kernel
theorem eL_law_1027 : decode rL_law.2.1 1027 = .ok (.if_icmp .ne 102, 3) := by decide +kernel
theorem eL_law_1030 : decode rL_law.2.1 1030 = .ok (.aload 8, 2) := by decide +kernel
theorem eL_law_1032 : decode rL_law.2.1 1032 = .ok (.iconst 0, 1) := by decide +kernel
theorem eL_law_1033 : decode rL_law.2.1 1033 = .ok (.sipush 150, 3) := by decide +kernel
theorem eL_law_1036 : decode rL_law.2.1 1036 = .ok (.invokevirtual 237, 3) := by decide +kernel
theorem eL_law_1039 : decode rL_law.2.1 1039 = .ok (.iconst 2, 1) := by decide +kernel
theorem eL_law_1040 : decode rL_law.2.1 1040 = .ok (.if_icmp .ne 89, 3) := by decide +kernel
theorem eL_law_1043 : decode rL_law.2.1 1043 = .ok (.aload 8, 2) := by decide +kernel
theorem eL_law_1045 : decode rL_law.2.1 1045 = .ok (.iconst 1, 1) := by decide +kernel
theorem eL_law_1046 : decode rL_law.2.1 1046 = .ok (.invokevirtual 63, 3) := by decide +kernel
theorem eL_law_1049 : decode rL_law.2.1 1049 = .ok (.ifCond .ne 80, 3) := by decide +kernel
theorem eL_law_1052 : decode rL_law.2.1 1052 = .ok (.aload 8, 2) := by decide +kernel
theorem eL_law_1054 : decode rL_law.2.1 1054 = .ok (.iconst 0, 1) := by decide +kernel
theorem eL_law_1055 : decode rL_law.2.1 1055 = .ok (.invokevirtual 117, 3) := by decide +kernel
theorem eL_law_1058 : decode rL_law.2.1 1058 = .ok (.ifCond .eq 71, 3) := by decide +kernel
theorem eL_law_1061 : decode rL_law.2.1 1061 = .ok (.aload 8, 2) := by decide +kernel
theorem eL_law_1063 : decode rL_law.2.1 1063 = .ok (.iconst 0, 1) := by decide +kernel
theorem eL_law_1064 : decode rL_law.2.1 1064 = .ok (.invokevirtual 124, 3) := by decide +kernel
theorem eL_law_1067 : decode rL_law.2.1 1067 = .ok (.iconst 2, 1) := by decide +kernel
theorem eL_law_1068 : decode rL_law.2.1 1068 = .ok (.if_icmp .ne 61, 3) := by decide +kernel
theorem eL_law_1071 : decode rL_law.2.1 1071 = .ok (.aload 8, 2) := by decide +kernel
theorem eL_law_1073 : decode rL_law.2.1 1073 = .ok (.iconst 0, 1) := by decide +kernel
theorem eL_law_1074 : decode rL_law.2.1 1074 = .ok (.invokevirtual 98, 3) := by decide +kernel
theorem eL_law_1077 : decode rL_law.2.1 1077 = .ok (.iconst 2, 1) := by decide +kernel
theorem eL_law_1078 : decode rL_law.2.1 1078 = .ok (.if_icmp .ne 51, 3) := by decide +kernel
theorem eL_law_1081 : decode rL_law.2.1 1081 = .ok (.aload 8, 2) := by decide +kernel
theorem eL_law_1083 : decode rL_law.2.1 1083 = .ok (.iconst 2, 1) := by decide +kernel
theorem eL_law_1084 : decode rL_law.2.1 1084 = .ok (.invokevirtual 54, 3) := by decide +kernel
theorem eL_law_1087 : decode rL_law.2.1 1087 = .ok (.ifCond .ne 42, 3) := by decide +kernel
theorem eL_law_1090 : decode rL_law.2.1 1090 = .ok (.aload 8, 2) := by decide +kernel
theorem eL_law_1092 : decode rL_law.2.1 1092 = .ok (.iconst 2, 1) := by decide +kernel
theorem eL_law_1093 : decode rL_law.2.1 1093 = .ok (.invokevirtual 291, 3) := by decide +kernel
theorem eL_law_1096 : decode rL_law.2.1 1096 = .ok (.iconst 1, 1) := by decide +kernel
theorem eL_law_1097 : decode rL_law.2.1 1097 = .ok (.if_icmp .ne 32, 3) := by decide +kernel
theorem eL_law_1100 : decode rL_law.2.1 1100 = .ok (.aload 8, 2) := by decide +kernel
theorem eL_law_1102 : decode rL_law.2.1 1102 = .ok (.iconst 2, 1) := by decide +kernel
theorem eL_law_1103 : decode rL_law.2.1 1103 = .ok (.invokevirtual 252, 3) := by decide +kernel
theorem eL_law_1106 : decode rL_law.2.1 1106 = .ok (.bipush 9, 2) := by decide +kernel
theorem eL_law_1108 : decode rL_law.2.1 1108 = .ok (.if_icmp .ne 21, 3) := by decide +kernel
theorem eL_law_1111 : decode rL_law.2.1 1111 = .ok (.aload 8, 2) := by decide +kernel
theorem eL_law_1113 : decode rL_law.2.1 1113 = .ok (.iconst 0, 1) := by decide +kernel
theorem eL_law_1114 : decode rL_law.2.1 1114 = .ok (.invokevirtual 57, 3) := by decide +kernel
theorem eL_law_1117 : decode rL_law.2.1 1117 = .ok (.iconst 2, 1) := by decide +kernel
theorem eL_law_1118 : decode rL_law.2.1 1118 = .ok (.if_icmp .ne 11, 3) := by decide +kernel
theorem eL_law_1121 : decode rL_law.2.1 1121 = .ok (.aload 8, 2) := by decide +kernel
theorem eL_law_1123 : decode rL_law.2.1 1123 = .ok (.invokevirtual 234, 3) := by decide +kernel
theorem eL_law_1126 : decode rL_law.2.1 1126 = .ok (.ifCond .ne 5, 3) := by decide +kernel
theorem eL_law_1129 : decode rL_law.2.1 1129 = .ok (.iconst 0, 1) := by decide +kernel
theorem eL_law_1130 : decode rL_law.2.1 1130 = .ok (.ireturn, 1) := by decide +kernel
theorem eL_law_1131 : decode rL_law.2.1 1131 = .ok (.aload_n 1, 1) := by decide +kernel
theorem eL_law_1132 : decode rL_law.2.1 1132 = .ok (.invokevirtual 294, 3) := by decide +kernel
theorem eL_law_1135 : decode rL_law.2.1 1135 = .ok (.iload_n 3, 1) := by decide +kernel
theorem eL_law_1136 : decode rL_law.2.1 1136 = .ok (.if_icmp .ne 16, 3) := by decide +kernel
theorem eL_law_1139 : decode rL_law.2.1 1139 = .ok (.aload_n 1, 1) := by decide +kernel
theorem eL_law_1140 : decode rL_law.2.1 1140 = .ok (.invokestatic 182, 3) := by decide +kernel
theorem eL_law_1143 : decode rL_law.2.1 1143 = .ok (.iload 4, 2) := by decide +kernel
theorem eL_law_1145 : decode rL_law.2.1 1145 = .ok (.if_icmp .ne 7, 3) := by decide +kernel
theorem eL_law_1148 : decode rL_law.2.1 1148 = .ok (.iconst 1, 1) := by decide +kernel
theorem eL_law_1149 : decode rL_law.2.1 1149 = .ok (.goto 4, 3) := by decide +kernel
theorem eL_law_1152 : decode rL_law.2.1 1152 = .ok (.iconst 0, 1) := by decide +kernel
theorem eL_law_1153 : decode rL_law.2.1 1153 = .ok (.ireturn, 1) := by decide +kernel
