theorem dL_law_0 : decode cL_law 0 = .ok (.new 8, 3) := by decide +kernel
theorem dL_law_3 : decode cL_law 3 = .ok (.dup, 1) := by decide +kernel
theorem dL_law_4 : decode cL_law 4 = .ok (.invokespecial 289, 3) := by decide +kernel
theorem dL_law_7 : decode cL_law 7 = .ok (.astore_n 1, 1) := by decide +kernel
theorem dL_law_8 : decode cL_law 8 = .ok (.aload_n 1, 1) := by decide +kernel
theorem dL_law_9 : decode cL_law 9 = .ok (.invokestatic 290, 3) := by decide +kernel
theorem dL_law_12 : decode cL_law 12 = .ok (.sipush (-1001), 3) := by decide +kernel
theorem dL_law_15 : decode cL_law 15 = .ok (.if_icmp .ne 29, 3) := by decide +kernel
theorem dL_law_18 : decode cL_law 18 = .ok (.aload_n 1, 1) := by decide +kernel
theorem dL_law_19 : decode cL_law 19 = .ok (.invokestatic 292, 3) := by decide +kernel
theorem dL_law_22 : decode cL_law 22 = .ok (.sipush (-1001), 3) := by decide +kernel
theorem dL_law_25 : decode cL_law 25 = .ok (.if_icmp .ne 19, 3) := by decide +kernel
theorem dL_law_28 : decode cL_law 28 = .ok (.aload_n 1, 1) := by decide +kernel
theorem dL_law_29 : decode cL_law 29 = .ok (.invokevirtual 294, 3) := by decide +kernel
theorem dL_law_32 : decode cL_law 32 = .ok (.ifCond .ne 12, 3) := by decide +kernel
theorem dL_law_35 : decode cL_law 35 = .ok (.aload_n 1, 1) := by decide +kernel
theorem dL_law_36 : decode cL_law 36 = .ok (.iconst 2, 1) := by decide +kernel
theorem dL_law_37 : decode cL_law 37 = .ok (.invokestatic 174, 3) := by decide +kernel
theorem dL_law_40 : decode cL_law 40 = .ok (.iconst 1, 1) := by decide +kernel
theorem dL_law_41 : decode cL_law 41 = .ok (.if_icmp .eq 5, 3) := by decide +kernel
theorem dL_law_44 : decode cL_law 44 = .ok (.iconst 0, 1) := by decide +kernel
theorem dL_law_45 : decode cL_law 45 = .ok (.ireturn, 1) := by decide +kernel
theorem dL_law_46 : decode cL_law 46 = .ok (.iconst 0, 1) := by decide +kernel
theorem dL_law_47 : decode cL_law 47 = .ok (.istore_n 2, 1) := by decide +kernel
theorem dL_law_48 : decode cL_law 48 = .ok (.iload_n 2, 1) := by decide +kernel
theorem dL_law_49 : decode cL_law 49 = .ok (.bipush 60, 2) := by decide +kernel
theorem dL_law_51 : decode cL_law 51 = .ok (.if_icmp .ge 26, 3) := by decide +kernel
theorem dL_law_54 : decode cL_law 54 = .ok (.aload_n 1, 1) := by decide +kernel
theorem dL_law_55 : decode cL_law 55 = .ok (.bipush 65, 2) := by decide +kernel
theorem dL_law_57 : decode cL_law 57 = .ok (.iload_n 2, 1) := by decide +kernel
theorem dL_law_58 : decode cL_law 58 = .ok (.iadd, 1) := by decide +kernel
theorem dL_law_59 : decode cL_law 59 = .ok (.i2c, 1) := by decide +kernel
theorem dL_law_60 : decode cL_law 60 = .ok (.invokestatic 143, 3) := by decide +kernel
theorem dL_law_63 : decode cL_law 63 = .ok (.iload_n 2, 1) := by decide +kernel
theorem dL_law_64 : decode cL_law 64 = .ok (.iconst 1, 1) := by decide +kernel
theorem dL_law_65 : decode cL_law 65 = .ok (.iadd, 1) := by decide +kernel
theorem dL_law_66 : decode cL_law 66 = .ok (.if_icmp .eq 5, 3) := by decide +kernel
theorem dL_law_69 : decode cL_law 69 = .ok (.iconst 0, 1) := by decide +kernel
theorem dL_law_70 : decode cL_law 70 = .ok (.ireturn, 1) := by decide +kernel
theorem dL_law_71 : decode cL_law 71 = .ok (.iinc 2 1, 3) := by decide +kernel
theorem dL_law_74 : decode cL_law 74 = .ok (.goto (-26), 3) := by decide +kernel
theorem dL_law_77 : decode cL_law 77 = .ok (.aload_n 1, 1) := by decide +kernel
theorem dL_law_78 : decode cL_law 78 = .ok (.bipush 100, 2) := by decide +kernel
theorem dL_law_80 : decode cL_law 80 = .ok (.invokestatic 143, 3) := by decide +kernel
theorem dL_law_83 : decode cL_law 83 = .ok (.sipush (-1001), 3) := by decide +kernel
theorem dL_law_86 : decode cL_law 86 = .ok (.if_icmp .ne 40, 3) := by decide +kernel
theorem dL_law_89 : decode cL_law 89 = .ok (.aload_n 1, 1) := by decide +kernel
theorem dL_law_90 : decode cL_law 90 = .ok (.bipush 10, 2) := by decide +kernel
theorem dL_law_92 : decode cL_law 92 = .ok (.invokestatic 196, 3) := by decide +kernel
theorem dL_law_95 : decode cL_law 95 = .ok (.bipush 60, 2) := by decide +kernel
theorem dL_law_97 : decode cL_law 97 = .ok (.if_icmp .ne 29, 3) := by decide +kernel
theorem dL_law_100 : decode cL_law 100 = .ok (.aload_n 1, 1) := by decide +kernel
theorem dL_law_101 : decode cL_law 101 = .ok (.invokestatic 148, 3) := by decide +kernel
theorem dL_law_104 : decode cL_law 104 = .ok (.sipush (-1001), 3) := by decide +kernel
theorem dL_law_107 : decode cL_law 107 = .ok (.if_icmp .ne 19, 3) := by decide +kernel
theorem dL_law_110 : decode cL_law 110 = .ok (.aload_n 1, 1) := by decide +kernel
theorem dL_law_111 : decode cL_law 111 = .ok (.invokevirtual 286, 3) := by decide +kernel
theorem dL_law_114 : decode cL_law 114 = .ok (.ifCond .ne 12, 3) := by decide +kernel
theorem dL_law_117 : decode cL_law 117 = .ok (.aload_n 1, 1) := by decide +kernel
theorem dL_law_118 : decode cL_law 118 = .ok (.bipush 10, 2) := by decide +kernel
theorem dL_law_120 : decode cL_law 120 = .ok (.invokestatic 196, 3) := by decide +kernel
theorem dL_law_123 : decode cL_law 123 = .ok (.ifCond .eq 5, 3) := by decide +kernel
theorem dL_law_126 : decode cL_law 126 = .ok (.iconst 0, 1) := by decide +kernel
theorem dL_law_127 : decode cL_law 127 = .ok (.ireturn, 1) := by decide +kernel
theorem dL_law_128 : decode cL_law 128 = .ok (.iconst 0, 1) := by decide +kernel
theorem dL_law_129 : decode cL_law 129 = .ok (.istore_n 2, 1) := by decide +kernel
theorem dL_law_130 : decode cL_law 130 = .ok (.iload_n 2, 1) := by decide +kernel
theorem dL_law_131 : decode cL_law 131 = .ok (.bipush 8, 2) := by decide +kernel
theorem dL_law_133 : decode cL_law 133 = .ok (.if_icmp .ge 19, 3) := by decide +kernel
theorem dL_law_136 : decode cL_law 136 = .ok (.aload_n 1, 1) := by decide +kernel
theorem dL_law_137 : decode cL_law 137 = .ok (.invokestatic 166, 3) := by decide +kernel
theorem dL_law_140 : decode cL_law 140 = .ok (.iload_n 2, 1) := by decide +kernel
theorem dL_law_141 : decode cL_law 141 = .ok (.if_icmp .eq 5, 3) := by decide +kernel
theorem dL_law_144 : decode cL_law 144 = .ok (.iconst 0, 1) := by decide +kernel
theorem dL_law_145 : decode cL_law 145 = .ok (.ireturn, 1) := by decide +kernel
theorem dL_law_146 : decode cL_law 146 = .ok (.iinc 2 1, 3) := by decide +kernel
theorem dL_law_149 : decode cL_law 149 = .ok (.goto (-19), 3) := by decide +kernel
theorem dL_law_152 : decode cL_law 152 = .ok (.aload_n 1, 1) := by decide +kernel
theorem dL_law_153 : decode cL_law 153 = .ok (.invokestatic 166, 3) := by decide +kernel
theorem dL_law_156 : decode cL_law 156 = .ok (.sipush (-1001), 3) := by decide +kernel
theorem dL_law_159 : decode cL_law 159 = .ok (.if_icmp .ne 14, 3) := by decide +kernel
theorem dL_law_162 : decode cL_law 162 = .ok (.aload_n 1, 1) := by decide +kernel
theorem dL_law_163 : decode cL_law 163 = .ok (.iconst 2, 1) := by decide +kernel
theorem dL_law_164 : decode cL_law 164 = .ok (.bipush 8, 2) := by decide +kernel
theorem dL_law_166 : decode cL_law 166 = .ok (.iconst 0, 1) := by decide +kernel
theorem dL_law_167 : decode cL_law 167 = .ok (.invokestatic 266, 3) := by decide +kernel
theorem dL_law_170 : decode cL_law 170 = .ok (.ifCond .ne 5, 3) := by decide +kernel
theorem dL_law_173 : decode cL_law 173 = .ok (.iconst 0, 1) := by decide +kernel
theorem dL_law_174 : decode cL_law 174 = .ok (.ireturn, 1) := by decide +kernel
theorem dL_law_175 : decode cL_law 175 = .ok (.iconst 0, 1) := by decide +kernel
theorem dL_law_176 : decode cL_law 176 = .ok (.istore_n 2, 1) := by decide +kernel
theorem dL_law_177 : decode cL_law 177 = .ok (.iload_n 2, 1) := by decide +kernel
theorem dL_law_178 : decode cL_law 178 = .ok (.bipush 16, 2) := by decide +kernel
theorem dL_law_180 : decode cL_law 180 = .ok (.if_icmp .ge 34, 3) := by decide +kernel
theorem dL_law_183 : decode cL_law 183 = .ok (.aload_n 1, 1) := by decide +kernel
theorem dL_law_184 : decode cL_law 184 = .ok (.iload_n 2, 1) := by decide +kernel
theorem dL_law_185 : decode cL_law 185 = .ok (.bipush 8, 2) := by decide +kernel
theorem dL_law_187 : decode cL_law 187 = .ok (.irem, 1) := by decide +kernel
theorem dL_law_188 : decode cL_law 188 = .ok (.iload_n 2, 1) := by decide +kernel
theorem dL_law_189 : decode cL_law 189 = .ok (.iconst 1, 1) := by decide +kernel
theorem dL_law_190 : decode cL_law 190 = .ok (.iadd, 1) := by decide +kernel
theorem dL_law_191 : decode cL_law 191 = .ok (.iload_n 2, 1) := by decide +kernel
theorem dL_law_192 : decode cL_law 192 = .ok (.bipush 8, 2) := by decide +kernel
theorem dL_law_194 : decode cL_law 194 = .ok (.idiv, 1) := by decide +kernel
theorem dL_law_195 : decode cL_law 195 = .ok (.iadd, 1) := by decide +kernel
theorem dL_law_196 : decode cL_law 196 = .ok (.bipush 8, 2) := by decide +kernel
theorem dL_law_198 : decode cL_law 198 = .ok (.irem, 1) := by decide +kernel
theorem dL_law_199 : decode cL_law 199 = .ok (.invokestatic 168, 3) := by decide +kernel
theorem dL_law_202 : decode cL_law 202 = .ok (.iload_n 2, 1) := by decide +kernel
theorem dL_law_203 : decode cL_law 203 = .ok (.if_icmp .eq 5, 3) := by decide +kernel
theorem dL_law_206 : decode cL_law 206 = .ok (.iconst 0, 1) := by decide +kernel
theorem dL_law_207 : decode cL_law 207 = .ok (.ireturn, 1) := by decide +kernel
theorem dL_law_208 : decode cL_law 208 = .ok (.iinc 2 1, 3) := by decide +kernel
theorem dL_law_211 : decode cL_law 211 = .ok (.goto (-34), 3) := by decide +kernel
theorem dL_law_214 : decode cL_law 214 = .ok (.aload_n 1, 1) := by decide +kernel
theorem dL_law_215 : decode cL_law 215 = .ok (.iconst 0, 1) := by decide +kernel
theorem dL_law_216 : decode cL_law 216 = .ok (.iconst 4, 1) := by decide +kernel
theorem dL_law_217 : decode cL_law 217 = .ok (.invokestatic 168, 3) := by decide +kernel
theorem dL_law_220 : decode cL_law 220 = .ok (.sipush (-1001), 3) := by decide +kernel
theorem dL_law_223 : decode cL_law 223 = .ok (.if_icmp .ne 100, 3) := by decide +kernel
theorem dL_law_226 : decode cL_law 226 = .ok (.aload_n 1, 1) := by decide +kernel
theorem dL_law_227 : decode cL_law 227 = .ok (.iconst 2, 1) := by decide +kernel
theorem dL_law_228 : decode cL_law 228 = .ok (.bipush 16, 2) := by decide +kernel
theorem dL_law_230 : decode cL_law 230 = .ok (.iconst 0, 1) := by decide +kernel
theorem dL_law_231 : decode cL_law 231 = .ok (.invokestatic 266, 3) := by decide +kernel
theorem dL_law_234 : decode cL_law 234 = .ok (.ifCond .eq 89, 3) := by decide +kernel
theorem dL_law_237 : decode cL_law 237 = .ok (.aload_n 1, 1) := by decide +kernel
theorem dL_law_238 : decode cL_law 238 = .ok (.bipush 9, 2) := by decide +kernel
theorem dL_law_240 : decode cL_law 240 = .ok (.invokestatic 196, 3) := by decide +kernel
theorem dL_law_243 : decode cL_law 243 = .ok (.bipush 8, 2) := by decide +kernel
theorem dL_law_245 : decode cL_law 245 = .ok (.if_icmp .ne 78, 3) := by decide +kernel
theorem dL_law_248 : decode cL_law 248 = .ok (.aload_n 1, 1) := by decide +kernel
theorem dL_law_249 : decode cL_law 249 = .ok (.iconst 4, 1) := by decide +kernel
theorem dL_law_250 : decode cL_law 250 = .ok (.invokestatic 196, 3) := by decide +kernel
theorem dL_law_253 : decode cL_law 253 = .ok (.sipush 336, 3) := by decide +kernel
theorem dL_law_256 : decode cL_law 256 = .ok (.if_icmp .ne 67, 3) := by decide +kernel
theorem dL_law_259 : decode cL_law 259 = .ok (.aload_n 1, 1) := by decide +kernel
theorem dL_law_260 : decode cL_law 260 = .ok (.iconst 0, 1) := by decide +kernel
theorem dL_law_261 : decode cL_law 261 = .ok (.iconst 0, 1) := by decide +kernel
theorem dL_law_262 : decode cL_law 262 = .ok (.invokestatic 198, 3) := by decide +kernel
theorem dL_law_265 : decode cL_law 265 = .ok (.iconst 4, 1) := by decide +kernel
theorem dL_law_266 : decode cL_law 266 = .ok (.if_icmp .ne 57, 3) := by decide +kernel
theorem dL_law_269 : decode cL_law 269 = .ok (.aload_n 1, 1) := by decide +kernel
theorem dL_law_270 : decode cL_law 270 = .ok (.bipush 7, 2) := by decide +kernel
theorem dL_law_272 : decode cL_law 272 = .ok (.iconst 1, 1) := by decide +kernel
theorem dL_law_273 : decode cL_law 273 = .ok (.invokestatic 198, 3) := by decide +kernel
theorem dL_law_276 : decode cL_law 276 = .ok (.ifCond .ne 47, 3) := by decide +kernel
theorem dL_law_279 : decode cL_law 279 = .ok (.aload_n 1, 1) := by decide +kernel
theorem dL_law_280 : decode cL_law 280 = .ok (.iconst 0, 1) := by decide +kernel
theorem dL_law_281 : decode cL_law 281 = .ok (.iconst 2, 1) := by decide +kernel
theorem dL_law_282 : decode cL_law 282 = .ok (.invokestatic 227, 3) := by decide +kernel
theorem dL_law_285 : decode cL_law 285 = .ok (.bipush 15, 2) := by decide +kernel
theorem dL_law_287 : decode cL_law 287 = .ok (.if_icmp .ne 36, 3) := by decide +kernel
theorem dL_law_290 : decode cL_law 290 = .ok (.aload_n 1, 1) := by decide +kernel
theorem dL_law_291 : decode cL_law 291 = .ok (.bipush 8, 2) := by decide +kernel
theorem dL_law_293 : decode cL_law 293 = .ok (.iconst 0, 1) := by decide +kernel
theorem dL_law_294 : decode cL_law 294 = .ok (.invokestatic 200, 3) := by decide +kernel
theorem dL_law_297 : decode cL_law 297 = .ok (.iconst 1, 1) := by decide +kernel
theorem dL_law_298 : decode cL_law 298 = .ok (.if_icmp .ne 25, 3) := by decide +kernel
theorem dL_law_301 : decode cL_law 301 = .ok (.aload_n 1, 1) := by decide +kernel
theorem dL_law_302 : decode cL_law 302 = .ok (.bipush 8, 2) := by decide +kernel
theorem dL_law_304 : decode cL_law 304 = .ok (.iconst 1, 1) := by decide +kernel
theorem dL_law_305 : decode cL_law 305 = .ok (.invokestatic 200, 3) := by decide +kernel
theorem dL_law_308 : decode cL_law 308 = .ok (.iconst 3, 1) := by decide +kernel
theorem dL_law_309 : decode cL_law 309 = .ok (.if_icmp .ne 14, 3) := by decide +kernel
theorem dL_law_312 : decode cL_law 312 = .ok (.aload_n 1, 1) := by decide +kernel
theorem dL_law_313 : decode cL_law 313 = .ok (.bipush 14, 2) := by decide +kernel
theorem dL_law_315 : decode cL_law 315 = .ok (.iconst 1, 1) := by decide +kernel
theorem dL_law_316 : decode cL_law 316 = .ok (.invokestatic 200, 3) := by decide +kernel
theorem dL_law_319 : decode cL_law 319 = .ok (.iconst 1, 1) := by decide +kernel
theorem dL_law_320 : decode cL_law 320 = .ok (.if_icmp .eq 5, 3) := by decide +kernel
theorem dL_law_323 : decode cL_law 323 = .ok (.iconst 0, 1) := by decide +kernel
theorem dL_law_324 : decode cL_law 324 = .ok (.ireturn, 1) := by decide +kernel
theorem dL_law_325 : decode cL_law 325 = .ok (.aload_n 1, 1) := by decide +kernel
theorem dL_law_326 : decode cL_law 326 = .ok (.invokestatic 290, 3) := by decide +kernel
theorem dL_law_329 : decode cL_law 329 = .ok (.bipush 7, 2) := by decide +kernel
theorem dL_law_331 : decode cL_law 331 = .ok (.if_icmp .ne 89, 3) := by decide +kernel
theorem dL_law_334 : decode cL_law 334 = .ok (.aload_n 1, 1) := by decide +kernel
theorem dL_law_335 : decode cL_law 335 = .ok (.iconst 1, 1) := by decide +kernel
theorem dL_law_336 : decode cL_law 336 = .ok (.invokestatic 196, 3) := by decide +kernel
theorem dL_law_339 : decode cL_law 339 = .ok (.bipush 16, 2) := by decide +kernel
theorem dL_law_341 : decode cL_law 341 = .ok (.if_icmp .ne 79, 3) := by decide +kernel
theorem dL_law_344 : decode cL_law 344 = .ok (.aload_n 1, 1) := by decide +kernel
theorem dL_law_345 : decode cL_law 345 = .ok (.invokestatic 290, 3) := by decide +kernel
theorem dL_law_348 : decode cL_law 348 = .ok (.bipush 6, 2) := by decide +kernel
theorem dL_law_350 : decode cL_law 350 = .ok (.if_icmp .ne 70, 3) := by decide +kernel
theorem dL_law_353 : decode cL_law 353 = .ok (.aload_n 1, 1) := by decide +kernel
theorem dL_law_354 : decode cL_law 354 = .ok (.invokestatic 290, 3) := by decide +kernel
theorem dL_law_357 : decode cL_law 357 = .ok (.iconst 5, 1) := by decide +kernel
theorem dL_law_358 : decode cL_law 358 = .ok (.if_icmp .ne 62, 3) := by decide +kernel
theorem dL_law_361 : decode cL_law 361 = .ok (.aload_n 1, 1) := by decide +kernel
theorem dL_law_362 : decode cL_law 362 = .ok (.invokestatic 290, 3) := by decide +kernel
theorem dL_law_365 : decode cL_law 365 = .ok (.iconst 4, 1) := by decide +kernel
theorem dL_law_366 : decode cL_law 366 = .ok (.if_icmp .ne 54, 3) := by decide +kernel
theorem dL_law_369 : decode cL_law 369 = .ok (.aload_n 1, 1) := by decide +kernel
theorem dL_law_370 : decode cL_law 370 = .ok (.invokestatic 290, 3) := by decide +kernel
theorem dL_law_373 : decode cL_law 373 = .ok (.iconst 3, 1) := by decide +kernel
theorem dL_law_374 : decode cL_law 374 = .ok (.if_icmp .ne 46, 3) := by decide +kernel
theorem dL_law_377 : decode cL_law 377 = .ok (.aload_n 1, 1) := by decide +kernel
theorem dL_law_378 : decode cL_law 378 = .ok (.invokestatic 290, 3) := by decide +kernel
theorem dL_law_381 : decode cL_law 381 = .ok (.iconst 2, 1) := by decide +kernel
theorem dL_law_382 : decode cL_law 382 = .ok (.if_icmp .ne 38, 3) := by decide +kernel
theorem dL_law_385 : decode cL_law 385 = .ok (.aload_n 1, 1) := by decide +kernel
theorem dL_law_386 : decode cL_law 386 = .ok (.invokestatic 290, 3) := by decide +kernel
theorem dL_law_389 : decode cL_law 389 = .ok (.iconst 1, 1) := by decide +kernel
theorem dL_law_390 : decode cL_law 390 = .ok (.if_icmp .ne 30, 3) := by decide +kernel
theorem dL_law_393 : decode cL_law 393 = .ok (.aload_n 1, 1) := by decide +kernel
theorem dL_law_394 : decode cL_law 394 = .ok (.invokestatic 290, 3) := by decide +kernel
theorem dL_law_397 : decode cL_law 397 = .ok (.ifCond .ne 23, 3) := by decide +kernel
theorem dL_law_400 : decode cL_law 400 = .ok (.aload_n 1, 1) := by decide +kernel
theorem dL_law_401 : decode cL_law 401 = .ok (.iconst 1, 1) := by decide +kernel
theorem dL_law_402 : decode cL_law 402 = .ok (.invokestatic 196, 3) := by decide +kernel
theorem dL_law_405 : decode cL_law 405 = .ok (.bipush 9, 2) := by decide +kernel
theorem dL_law_407 : decode cL_law 407 = .ok (.if_icmp .ne 13, 3) := by decide +kernel
theorem dL_law_410 : decode cL_law 410 = .ok (.aload_n 1, 1) := by decide +kernel
theorem dL_law_411 : decode cL_law 411 = .ok (.invokestatic 290, 3) := by decide +kernel
theorem dL_law_414 : decode cL_law 414 = .ok (.sipush (-1001), 3) := by decide +kernel
theorem dL_law_417 : decode cL_law 417 = .ok (.if_icmp .eq 5, 3) := by decide +kernel
theorem dL_law_420 : decode cL_law 420 = .ok (.iconst 0, 1) := by decide +kernel
theorem dL_law_421 : decode cL_law 421 = .ok (.ireturn, 1) := by decide +kernel
theorem dL_law_422 : decode cL_law 422 = .ok (.aload_n 1, 1) := by decide +kernel
theorem dL_law_423 : decode cL_law 423 = .ok (.invokestatic 292, 3) := by decide +kernel
theorem dL_law_426 : decode cL_law 426 = .ok (.ifCond .ne 30, 3) := by decide +kernel
theorem dL_law_429 : decode cL_law 429 = .ok (.aload_n 1, 1) := by decide +kernel
theorem dL_law_430 : decode cL_law 430 = .ok (.iconst 0, 1) := by decide +kernel
theorem dL_law_431 : decode cL_law 431 = .ok (.invokestatic 196, 3) := by decide +kernel
theorem dL_law_434 : decode cL_law 434 = .ok (.ifCond .ne 22, 3) := by decide +kernel
theorem dL_law_437 : decode cL_law 437 = .ok (.aload_n 1, 1) := by decide +kernel
theorem dL_law_438 : decode cL_law 438 = .ok (.iconst 3, 1) := by decide +kernel
theorem dL_law_439 : decode cL_law 439 = .ok (.invokestatic 196, 3) := by decide +kernel
theorem dL_law_442 : decode cL_law 442 = .ok (.iconst 1, 1) := by decide +kernel
theorem dL_law_443 : decode cL_law 443 = .ok (.if_icmp .ne 13, 3) := by decide +kernel
theorem dL_law_446 : decode cL_law 446 = .ok (.aload_n 1, 1) := by decide +kernel
theorem dL_law_447 : decode cL_law 447 = .ok (.invokestatic 290, 3) := by decide +kernel
theorem dL_law_450 : decode cL_law 450 = .ok (.sipush (-1001), 3) := by decide +kernel
theorem dL_law_453 : decode cL_law 453 = .ok (.if_icmp .eq 5, 3) := by decide +kernel
theorem dL_law_456 : decode cL_law 456 = .ok (.iconst 0, 1) := by decide +kernel
theorem dL_law_457 : decode cL_law 457 = .ok (.ireturn, 1) := by decide +kernel
theorem dL_law_458 : decode cL_law 458 = .ok (.new 8, 3) := by decide +kernel
theorem dL_law_461 : decode cL_law 461 = .ok (.dup, 1) := by decide +kernel
theorem dL_law_462 : decode cL_law 462 = .ok (.invokespecial 289, 3) := by decide +kernel
theorem dL_law_465 : decode cL_law 465 = .ok (.astore_n 2, 1) := by decide +kernel
theorem dL_law_466 : decode cL_law 466 = .ok (.aload_n 2, 1) := by decide +kernel
theorem dL_law_467 : decode cL_law 467 = .ok (.aload_n 0, 1) := by decide +kernel
theorem dL_law_468 : decode cL_law 468 = .ok (.invokestatic 297, 3) := by decide +kernel
theorem dL_law_471 : decode cL_law 471 = .ok (.ifCond .ne 5, 3) := by decide +kernel
theorem dL_law_474 : decode cL_law 474 = .ok (.iconst 0, 1) := by decide +kernel
theorem dL_law_475 : decode cL_law 475 = .ok (.ireturn, 1) := by decide +kernel
theorem dL_law_476 : decode cL_law 476 = .ok (.aload_n 2, 1) := by decide +kernel
theorem dL_law_477 : decode cL_law 477 = .ok (.invokestatic 262, 3) := by decide +kernel
theorem dL_law_480 : decode cL_law 480 = .ok (.lstore_n 3, 1) := by decide +kernel
theorem dL_law_481 : decode cL_law 481 = .ok (.aload_n 2, 1) := by decide +kernel
theorem dL_law_482 : decode cL_law 482 = .ok (.invokestatic 262, 3) := by decide +kernel
theorem dL_law_485 : decode cL_law 485 = .ok (.lload_n 3, 1) := by decide +kernel
theorem dL_law_486 : decode cL_law 486 = .ok (.lcmp, 1) := by decide +kernel
theorem dL_law_487 : decode cL_law 487 = .ok (.ifCond .ne 10, 3) := by decide +kernel
theorem dL_law_490 : decode cL_law 490 = .ok (.aload_n 2, 1) := by decide +kernel
theorem dL_law_491 : decode cL_law 491 = .ok (.invokestatic 301, 3) := by decide +kernel
theorem dL_law_494 : decode cL_law 494 = .ok (.ifCond .ne 5, 3) := by decide +kernel
theorem dL_law_497 : decode cL_law 497 = .ok (.iconst 0, 1) := by decide +kernel
theorem dL_law_498 : decode cL_law 498 = .ok (.ireturn, 1) := by decide +kernel
theorem dL_law_499 : decode cL_law 499 = .ok (.aload_n 2, 1) := by decide +kernel
theorem dL_law_500 : decode cL_law 500 = .ok (.invokevirtual 294, 3) := by decide +kernel
theorem dL_law_503 : decode cL_law 503 = .ok (.istore 5, 2) := by decide +kernel
theorem dL_law_505 : decode cL_law 505 = .ok (.iload 5, 2) := by decide +kernel
theorem dL_law_507 : decode cL_law 507 = .ok (.aload_n 2, 1) := by decide +kernel
theorem dL_law_508 : decode cL_law 508 = .ok (.iconst 0, 1) := by decide +kernel
theorem dL_law_509 : decode cL_law 509 = .ok (.invokestatic 196, 3) := by decide +kernel
theorem dL_law_512 : decode cL_law 512 = .ok (.if_icmp .ne 12, 3) := by decide +kernel
theorem dL_law_515 : decode cL_law 515 = .ok (.aload_n 2, 1) := by decide +kernel
theorem dL_law_516 : decode cL_law 516 = .ok (.invokestatic 262, 3) := by decide +kernel
theorem dL_law_519 : decode cL_law 519 = .ok (.lload_n 3, 1) := by decide +kernel
theorem dL_law_520 : decode cL_law 520 = .ok (.lcmp, 1) := by decide +kernel
theorem dL_law_521 : decode cL_law 521 = .ok (.ifCond .eq 5, 3) := by decide +kernel
theorem dL_law_524 : decode cL_law 524 = .ok (.iconst 0, 1) := by decide +kernel
theorem dL_law_525 : decode cL_law 525 = .ok (.ireturn, 1) := by decide +kernel
theorem dL_law_526 : decode cL_law 526 = .ok (.bipush 9, 2) := by decide +kernel
theorem dL_law_528 : decode cL_law 528 = .ok (.newarray .long, 2) := by decide +kernel
theorem dL_law_530 : decode cL_law 530 = .ok (.astore 6, 2) := by decide +kernel
theorem dL_law_532 : decode cL_law 532 = .ok (.iconst 0, 1) := by decide +kernel
theorem dL_law_533 : decode cL_law 533 = .ok (.istore 7, 2) := by decide +kernel
theorem dL_law_535 : decode cL_law 535 = .ok (.iconst 0, 1) := by decide +kernel
theorem dL_law_536 : decode cL_law 536 = .ok (.istore 8, 2) := by decide +kernel
theorem dL_law_538 : decode cL_law 538 = .ok (.iload 8, 2) := by decide +kernel
theorem dL_law_540 : decode cL_law 540 = .ok (.bipush 8, 2) := by decide +kernel
theorem dL_law_542 : decode cL_law 542 = .ok (.if_icmp .ge 63, 3) := by decide +kernel
theorem dL_law_545 : decode cL_law 545 = .ok (.aload_n 2, 1) := by decide +kernel
theorem dL_law_546 : decode cL_law 546 = .ok (.invokestatic 262, 3) := by decide +kernel
theorem dL_law_549 : decode cL_law 549 = .ok (.lstore 9, 2) := by decide +kernel
theorem dL_law_551 : decode cL_law 551 = .ok (.aload_n 2, 1) := by decide +kernel
theorem dL_law_552 : decode cL_law 552 = .ok (.aload_n 0, 1) := by decide +kernel
theorem dL_law_553 : decode cL_law 553 = .ok (.bipush 20, 2) := by decide +kernel
theorem dL_law_555 : decode cL_law 555 = .ok (.iload 8, 2) := by decide +kernel
theorem dL_law_557 : decode cL_law 557 = .ok (.iadd, 1) := by decide +kernel
theorem dL_law_558 : decode cL_law 558 = .ok (.invokestatic 159, 3) := by decide +kernel
theorem dL_law_561 : decode cL_law 561 = .ok (.iload 8, 2) := by decide +kernel
theorem dL_law_563 : decode cL_law 563 = .ok (.sipush 977, 3) := by decide +kernel
theorem dL_law_566 : decode cL_law 566 = .ok (.imul, 1) := by decide +kernel
theorem dL_law_567 : decode cL_law 567 = .ok (.ixor, 1) := by decide +kernel
theorem dL_law_568 : decode cL_law 568 = .ok (.invokestatic 305, 3) := by decide +kernel
theorem dL_law_571 : decode cL_law 571 = .ok (.ifCond .eq 16, 3) := by decide +kernel
theorem dL_law_574 : decode cL_law 574 = .ok (.aload 6, 2) := by decide +kernel
theorem dL_law_576 : decode cL_law 576 = .ok (.iload 7, 2) := by decide +kernel
theorem dL_law_578 : decode cL_law 578 = .ok (.iinc 7 1, 3) := by decide +kernel
theorem dL_law_581 : decode cL_law 581 = .ok (.lload 9, 2) := by decide +kernel
theorem dL_law_583 : decode cL_law 583 = .ok (.lastore, 1) := by decide +kernel
theorem dL_law_584 : decode cL_law 584 = .ok (.goto 15, 3) := by decide +kernel
theorem dL_law_587 : decode cL_law 587 = .ok (.aload_n 2, 1) := by decide +kernel
theorem dL_law_588 : decode cL_law 588 = .ok (.invokestatic 262, 3) := by decide +kernel
theorem dL_law_591 : decode cL_law 591 = .ok (.lload 9, 2) := by decide +kernel
theorem dL_law_593 : decode cL_law 593 = .ok (.lcmp, 1) := by decide +kernel
theorem dL_law_594 : decode cL_law 594 = .ok (.ifCond .eq 5, 3) := by decide +kernel
theorem dL_law_597 : decode cL_law 597 = .ok (.iconst 0, 1) := by decide +kernel
theorem dL_law_598 : decode cL_law 598 = .ok (.ireturn, 1) := by decide +kernel
theorem dL_law_599 : decode cL_law 599 = .ok (.iinc 8 1, 3) := by decide +kernel
theorem dL_law_602 : decode cL_law 602 = .ok (.goto (-64), 3) := by decide +kernel
theorem dL_law_605 : decode cL_law 605 = .ok (.iconst 1, 1) := by decide +kernel
theorem dL_law_606 : decode cL_law 606 = .ok (.istore 8, 2) := by decide +kernel
theorem dL_law_608 : decode cL_law 608 = .ok (.iload 8, 2) := by decide +kernel
theorem dL_law_610 : decode cL_law 610 = .ok (.iload 7, 2) := by decide +kernel
theorem dL_law_612 : decode cL_law 612 = .ok (.if_icmp .gt 53, 3) := by decide +kernel
theorem dL_law_615 : decode cL_law 615 = .ok (.aload_n 2, 1) := by decide +kernel
theorem dL_law_616 : decode cL_law 616 = .ok (.invokestatic 290, 3) := by decide +kernel
theorem dL_law_619 : decode cL_law 619 = .ok (.istore 9, 2) := by decide +kernel
theorem dL_law_621 : decode cL_law 621 = .ok (.iload 9, 2) := by decide +kernel
theorem dL_law_623 : decode cL_law 623 = .ok (.iload 7, 2) := by decide +kernel
theorem dL_law_625 : decode cL_law 625 = .ok (.iload 8, 2) := by decide +kernel
theorem dL_law_627 : decode cL_law 627 = .ok (.isub, 1) := by decide +kernel
theorem dL_law_628 : decode cL_law 628 = .ok (.if_icmp .lt 29, 3) := by decide +kernel
theorem dL_law_631 : decode cL_law 631 = .ok (.iload 9, 2) := by decide +kernel
theorem dL_law_633 : decode cL_law 633 = .ok (.bipush 8, 2) := by decide +kernel
theorem dL_law_635 : decode cL_law 635 = .ok (.iload 8, 2) := by decide +kernel
theorem dL_law_637 : decode cL_law 637 = .ok (.isub, 1) := by decide +kernel
theorem dL_law_638 : decode cL_law 638 = .ok (.if_icmp .gt 19, 3) := by decide +kernel
theorem dL_law_641 : decode cL_law 641 = .ok (.aload_n 2, 1) := by decide +kernel
theorem dL_law_642 : decode cL_law 642 = .ok (.invokestatic 262, 3) := by decide +kernel
theorem dL_law_645 : decode cL_law 645 = .ok (.aload 6, 2) := by decide +kernel
theorem dL_law_647 : decode cL_law 647 = .ok (.iload 7, 2) := by decide +kernel
theorem dL_law_649 : decode cL_law 649 = .ok (.iload 8, 2) := by decide +kernel
theorem dL_law_651 : decode cL_law 651 = .ok (.isub, 1) := by decide +kernel
theorem dL_law_652 : decode cL_law 652 = .ok (.laload, 1) := by decide +kernel
theorem dL_law_653 : decode cL_law 653 = .ok (.lcmp, 1) := by decide +kernel
theorem dL_law_654 : decode cL_law 654 = .ok (.ifCond .eq 5, 3) := by decide +kernel
theorem dL_law_657 : decode cL_law 657 = .ok (.iconst 0, 1) := by decide +kernel
theorem dL_law_658 : decode cL_law 658 = .ok (.ireturn, 1) := by decide +kernel
theorem dL_law_659 : decode cL_law 659 = .ok (.iinc 8 1, 3) := by decide +kernel
theorem dL_law_662 : decode cL_law 662 = .ok (.goto (-54), 3) := by decide +kernel
theorem dL_law_665 : decode cL_law 665 = .ok (.aload_n 2, 1) := by decide +kernel
theorem dL_law_666 : decode cL_law 666 = .ok (.invokestatic 292, 3) := by decide +kernel
theorem dL_law_669 : decode cL_law 669 = .ok (.iload 5, 2) := by decide +kernel
theorem dL_law_671 : decode cL_law 671 = .ok (.if_icmp .ne 44, 3) := by decide +kernel
theorem dL_law_674 : decode cL_law 674 = .ok (.aload_n 2, 1) := by decide +kernel
theorem dL_law_675 : decode cL_law 675 = .ok (.invokestatic 290, 3) := by decide +kernel
theorem dL_law_678 : decode cL_law 678 = .ok (.sipush (-1001), 3) := by decide +kernel
theorem dL_law_681 : decode cL_law 681 = .ok (.if_icmp .ne 34, 3) := by decide +kernel
theorem dL_law_684 : decode cL_law 684 = .ok (.aload_n 2, 1) := by decide +kernel
theorem dL_law_685 : decode cL_law 685 = .ok (.invokestatic 262, 3) := by decide +kernel
theorem dL_law_688 : decode cL_law 688 = .ok (.lload_n 3, 1) := by decide +kernel
theorem dL_law_689 : decode cL_law 689 = .ok (.lcmp, 1) := by decide +kernel
theorem dL_law_690 : decode cL_law 690 = .ok (.ifCond .ne 25, 3) := by decide +kernel
theorem dL_law_693 : decode cL_law 693 = .ok (.aload_n 2, 1) := by decide +kernel
theorem dL_law_694 : decode cL_law 694 = .ok (.invokestatic 292, 3) := by decide +kernel
theorem dL_law_697 : decode cL_law 697 = .ok (.iload 5, 2) := by decide +kernel
theorem dL_law_699 : decode cL_law 699 = .ok (.if_icmp .ne 16, 3) := by decide +kernel
theorem dL_law_702 : decode cL_law 702 = .ok (.aload_n 2, 1) := by decide +kernel
theorem dL_law_703 : decode cL_law 703 = .ok (.invokestatic 262, 3) := by decide +kernel
theorem dL_law_706 : decode cL_law 706 = .ok (.lload_n 3, 1) := by decide +kernel
theorem dL_law_707 : decode cL_law 707 = .ok (.lcmp, 1) := by decide +kernel
theorem dL_law_708 : decode cL_law 708 = .ok (.ifCond .ne 7, 3) := by decide +kernel
theorem dL_law_711 : decode cL_law 711 = .ok (.iconst 1, 1) := by decide +kernel
theorem dL_law_712 : decode cL_law 712 = .ok (.goto 4, 3) := by decide +kernel
theorem dL_law_715 : decode cL_law 715 = .ok (.iconst 0, 1) := by decide +kernel
theorem dL_law_716 : decode cL_law 716 = .ok (.ireturn, 1) := by decide +kernel
