theorem d_law_0 : decode code 0 = .ok (.new 8, 3) := by decide +kernel
theorem d_law_3 : decode code 3 = .ok (.dup, 1) := by decide +kernel
theorem d_law_4 : decode code 4 = .ok (.invokespecial 17, 3) := by decide +kernel
theorem d_law_7 : decode code 7 = .ok (.astore_n 1, 1) := by decide +kernel
theorem d_law_8 : decode code 8 = .ok (.new 18, 3) := by decide +kernel
theorem d_law_11 : decode code 11 = .ok (.dup, 1) := by decide +kernel
theorem d_law_12 : decode code 12 = .ok (.invokespecial 20, 3) := by decide +kernel
theorem d_law_15 : decode code 15 = .ok (.astore_n 2, 1) := by decide +kernel
theorem d_law_16 : decode code 16 = .ok (.iconst 1, 1) := by decide +kernel
theorem d_law_17 : decode code 17 = .ok (.newarray .long, 2) := by decide +kernel
theorem d_law_19 : decode code 19 = .ok (.astore_n 3, 1) := by decide +kernel
theorem d_law_20 : decode code 20 = .ok (.iconst 0, 1) := by decide +kernel
theorem d_law_21 : decode code 21 = .ok (.istore 4, 2) := by decide +kernel
theorem d_law_23 : decode code 23 = .ok (.iload 4, 2) := by decide +kernel
theorem d_law_25 : decode code 25 = .ok (.aload_n 0, 1) := by decide +kernel
theorem d_law_26 : decode code 26 = .ok (.arraylength, 1) := by decide +kernel
theorem d_law_27 : decode code 27 = .ok (.iconst 4, 1) := by decide +kernel
theorem d_law_28 : decode code 28 = .ok (.isub, 1) := by decide +kernel
theorem d_law_29 : decode code 29 = .ok (.if_icmp .gt 541, 3) := by decide +kernel
theorem d_law_32 : decode code 32 = .ok (.aload_n 0, 1) := by decide +kernel
theorem d_law_33 : decode code 33 = .ok (.iload 4, 2) := by decide +kernel
theorem d_law_35 : decode code 35 = .ok (.iaload, 1) := by decide +kernel
theorem d_law_36 : decode code 36 = .ok (.bipush 15, 2) := by decide +kernel
theorem d_law_38 : decode code 38 = .ok (.iand, 1) := by decide +kernel
theorem d_law_39 : decode code 39 = .ok (.tableswitch 525 0 11 #[61, 130, 195, 264, 301, 359, 384, 397, 460, 473, 487, 512], 61) := by decide +kernel
theorem d_law_100 : decode code 100 = .ok (.aload_n 1, 1) := by decide +kernel
theorem d_law_101 : decode code 101 = .ok (.aload_n 0, 1) := by decide +kernel
theorem d_law_102 : decode code 102 = .ok (.iload 4, 2) := by decide +kernel
theorem d_law_104 : decode code 104 = .ok (.iconst 1, 1) := by decide +kernel
theorem d_law_105 : decode code 105 = .ok (.iadd, 1) := by decide +kernel
theorem d_law_106 : decode code 106 = .ok (.iaload, 1) := by decide +kernel
theorem d_law_107 : decode code 107 = .ok (.i2l, 1) := by decide +kernel
theorem d_law_108 : decode code 108 = .ok (.bipush 32, 2) := by decide +kernel
theorem d_law_110 : decode code 110 = .ok (.lshl, 1) := by decide +kernel
theorem d_law_111 : decode code 111 = .ok (.aload_n 0, 1) := by decide +kernel
theorem d_law_112 : decode code 112 = .ok (.iload 4, 2) := by decide +kernel
theorem d_law_114 : decode code 114 = .ok (.iconst 2, 1) := by decide +kernel
theorem d_law_115 : decode code 115 = .ok (.iadd, 1) := by decide +kernel
theorem d_law_116 : decode code 116 = .ok (.iaload, 1) := by decide +kernel
theorem d_law_117 : decode code 117 = .ok (.i2l, 1) := by decide +kernel
theorem d_law_118 : decode code 118 = .ok (.ldc2_w 21, 3) := by decide +kernel
theorem d_law_121 : decode code 121 = .ok (.land, 1) := by decide +kernel
theorem d_law_122 : decode code 122 = .ok (.lor, 1) := by decide +kernel
theorem d_law_123 : decode code 123 = .ok (.aload_n 0, 1) := by decide +kernel
theorem d_law_124 : decode code 124 = .ok (.iload 4, 2) := by decide +kernel
theorem d_law_126 : decode code 126 = .ok (.iconst 3, 1) := by decide +kernel
theorem d_law_127 : decode code 127 = .ok (.iadd, 1) := by decide +kernel
theorem d_law_128 : decode code 128 = .ok (.iaload, 1) := by decide +kernel
theorem d_law_129 : decode code 129 = .ok (.invokevirtual 23, 3) := by decide +kernel
theorem d_law_132 : decode code 132 = .ok (.aload_n 2, 1) := by decide +kernel
theorem d_law_133 : decode code 133 = .ok (.aload_n 0, 1) := by decide +kernel
theorem d_law_134 : decode code 134 = .ok (.iload 4, 2) := by decide +kernel
theorem d_law_136 : decode code 136 = .ok (.iconst 1, 1) := by decide +kernel
theorem d_law_137 : decode code 137 = .ok (.iadd, 1) := by decide +kernel
theorem d_law_138 : decode code 138 = .ok (.iaload, 1) := by decide +kernel
theorem d_law_139 : decode code 139 = .ok (.i2l, 1) := by decide +kernel
theorem d_law_140 : decode code 140 = .ok (.bipush 32, 2) := by decide +kernel
theorem d_law_142 : decode code 142 = .ok (.lshl, 1) := by decide +kernel
theorem d_law_143 : decode code 143 = .ok (.aload_n 0, 1) := by decide +kernel
theorem d_law_144 : decode code 144 = .ok (.iload 4, 2) := by decide +kernel
theorem d_law_146 : decode code 146 = .ok (.iconst 2, 1) := by decide +kernel
theorem d_law_147 : decode code 147 = .ok (.iadd, 1) := by decide +kernel
theorem d_law_148 : decode code 148 = .ok (.iaload, 1) := by decide +kernel
theorem d_law_149 : decode code 149 = .ok (.i2l, 1) := by decide +kernel
theorem d_law_150 : decode code 150 = .ok (.ldc2_w 21, 3) := by decide +kernel
theorem d_law_153 : decode code 153 = .ok (.land, 1) := by decide +kernel
theorem d_law_154 : decode code 154 = .ok (.lor, 1) := by decide +kernel
theorem d_law_155 : decode code 155 = .ok (.aload_n 0, 1) := by decide +kernel
theorem d_law_156 : decode code 156 = .ok (.iload 4, 2) := by decide +kernel
theorem d_law_158 : decode code 158 = .ok (.iconst 3, 1) := by decide +kernel
theorem d_law_159 : decode code 159 = .ok (.iadd, 1) := by decide +kernel
theorem d_law_160 : decode code 160 = .ok (.iaload, 1) := by decide +kernel
theorem d_law_161 : decode code 161 = .ok (.invokevirtual 27, 3) := by decide +kernel
theorem d_law_164 : decode code 164 = .ok (.if_icmp .eq 400, 3) := by decide +kernel
theorem d_law_167 : decode code 167 = .ok (.iconst 0, 1) := by decide +kernel
theorem d_law_168 : decode code 168 = .ok (.ireturn, 1) := by decide +kernel
theorem d_law_169 : decode code 169 = .ok (.aload_n 1, 1) := by decide +kernel
theorem d_law_170 : decode code 170 = .ok (.aload_n 0, 1) := by decide +kernel
theorem d_law_171 : decode code 171 = .ok (.iload 4, 2) := by decide +kernel
theorem d_law_173 : decode code 173 = .ok (.iconst 1, 1) := by decide +kernel
theorem d_law_174 : decode code 174 = .ok (.iadd, 1) := by decide +kernel
theorem d_law_175 : decode code 175 = .ok (.iaload, 1) := by decide +kernel
theorem d_law_176 : decode code 176 = .ok (.aload_n 0, 1) := by decide +kernel
theorem d_law_177 : decode code 177 = .ok (.iload 4, 2) := by decide +kernel
theorem d_law_179 : decode code 179 = .ok (.iconst 2, 1) := by decide +kernel
theorem d_law_180 : decode code 180 = .ok (.iadd, 1) := by decide +kernel
theorem d_law_181 : decode code 181 = .ok (.iaload, 1) := by decide +kernel
theorem d_law_182 : decode code 182 = .ok (.aload_n 0, 1) := by decide +kernel
theorem d_law_183 : decode code 183 = .ok (.iload 4, 2) := by decide +kernel
theorem d_law_185 : decode code 185 = .ok (.iconst 3, 1) := by decide +kernel
theorem d_law_186 : decode code 186 = .ok (.iadd, 1) := by decide +kernel
theorem d_law_187 : decode code 187 = .ok (.iaload, 1) := by decide +kernel
theorem d_law_188 : decode code 188 = .ok (.ifCond .eq 7, 3) := by decide +kernel
theorem d_law_191 : decode code 191 = .ok (.iconst 1, 1) := by decide +kernel
theorem d_law_192 : decode code 192 = .ok (.goto 4, 3) := by decide +kernel
theorem d_law_195 : decode code 195 = .ok (.iconst 0, 1) := by decide +kernel
theorem d_law_196 : decode code 196 = .ok (.invokevirtual 28, 3) := by decide +kernel
theorem d_law_199 : decode code 199 = .ok (.aload_n 2, 1) := by decide +kernel
theorem d_law_200 : decode code 200 = .ok (.aload_n 0, 1) := by decide +kernel
theorem d_law_201 : decode code 201 = .ok (.iload 4, 2) := by decide +kernel
theorem d_law_203 : decode code 203 = .ok (.iconst 1, 1) := by decide +kernel
theorem d_law_204 : decode code 204 = .ok (.iadd, 1) := by decide +kernel
theorem d_law_205 : decode code 205 = .ok (.iaload, 1) := by decide +kernel
theorem d_law_206 : decode code 206 = .ok (.aload_n 0, 1) := by decide +kernel
theorem d_law_207 : decode code 207 = .ok (.iload 4, 2) := by decide +kernel
theorem d_law_209 : decode code 209 = .ok (.iconst 2, 1) := by decide +kernel
theorem d_law_210 : decode code 210 = .ok (.iadd, 1) := by decide +kernel
theorem d_law_211 : decode code 211 = .ok (.iaload, 1) := by decide +kernel
theorem d_law_212 : decode code 212 = .ok (.aload_n 0, 1) := by decide +kernel
theorem d_law_213 : decode code 213 = .ok (.iload 4, 2) := by decide +kernel
theorem d_law_215 : decode code 215 = .ok (.iconst 3, 1) := by decide +kernel
theorem d_law_216 : decode code 216 = .ok (.iadd, 1) := by decide +kernel
theorem d_law_217 : decode code 217 = .ok (.iaload, 1) := by decide +kernel
theorem d_law_218 : decode code 218 = .ok (.ifCond .eq 7, 3) := by decide +kernel
theorem d_law_221 : decode code 221 = .ok (.iconst 1, 1) := by decide +kernel
theorem d_law_222 : decode code 222 = .ok (.goto 4, 3) := by decide +kernel
theorem d_law_225 : decode code 225 = .ok (.iconst 0, 1) := by decide +kernel
theorem d_law_226 : decode code 226 = .ok (.invokevirtual 32, 3) := by decide +kernel
theorem d_law_229 : decode code 229 = .ok (.if_icmp .eq 335, 3) := by decide +kernel
theorem d_law_232 : decode code 232 = .ok (.iconst 0, 1) := by decide +kernel
theorem d_law_233 : decode code 233 = .ok (.ireturn, 1) := by decide +kernel
theorem d_law_234 : decode code 234 = .ok (.aload_n 1, 1) := by decide +kernel
theorem d_law_235 : decode code 235 = .ok (.aload_n 0, 1) := by decide +kernel
theorem d_law_236 : decode code 236 = .ok (.iload 4, 2) := by decide +kernel
theorem d_law_238 : decode code 238 = .ok (.iconst 1, 1) := by decide +kernel
theorem d_law_239 : decode code 239 = .ok (.iadd, 1) := by decide +kernel
theorem d_law_240 : decode code 240 = .ok (.iaload, 1) := by decide +kernel
theorem d_law_241 : decode code 241 = .ok (.aload_n 0, 1) := by decide +kernel
theorem d_law_242 : decode code 242 = .ok (.iload 4, 2) := by decide +kernel
theorem d_law_244 : decode code 244 = .ok (.iconst 2, 1) := by decide +kernel
theorem d_law_245 : decode code 245 = .ok (.iadd, 1) := by decide +kernel
theorem d_law_246 : decode code 246 = .ok (.iaload, 1) := by decide +kernel
theorem d_law_247 : decode code 247 = .ok (.i2l, 1) := by decide +kernel
theorem d_law_248 : decode code 248 = .ok (.bipush 32, 2) := by decide +kernel
theorem d_law_250 : decode code 250 = .ok (.lshl, 1) := by decide +kernel
theorem d_law_251 : decode code 251 = .ok (.aload_n 0, 1) := by decide +kernel
theorem d_law_252 : decode code 252 = .ok (.iload 4, 2) := by decide +kernel
theorem d_law_254 : decode code 254 = .ok (.iconst 3, 1) := by decide +kernel
theorem d_law_255 : decode code 255 = .ok (.iadd, 1) := by decide +kernel
theorem d_law_256 : decode code 256 = .ok (.iaload, 1) := by decide +kernel
theorem d_law_257 : decode code 257 = .ok (.i2l, 1) := by decide +kernel
theorem d_law_258 : decode code 258 = .ok (.ldc2_w 21, 3) := by decide +kernel
theorem d_law_261 : decode code 261 = .ok (.land, 1) := by decide +kernel
theorem d_law_262 : decode code 262 = .ok (.lor, 1) := by decide +kernel
theorem d_law_263 : decode code 263 = .ok (.invokevirtual 33, 3) := by decide +kernel
theorem d_law_266 : decode code 266 = .ok (.aload_n 2, 1) := by decide +kernel
theorem d_law_267 : decode code 267 = .ok (.aload_n 0, 1) := by decide +kernel
theorem d_law_268 : decode code 268 = .ok (.iload 4, 2) := by decide +kernel
theorem d_law_270 : decode code 270 = .ok (.iconst 1, 1) := by decide +kernel
theorem d_law_271 : decode code 271 = .ok (.iadd, 1) := by decide +kernel
theorem d_law_272 : decode code 272 = .ok (.iaload, 1) := by decide +kernel
theorem d_law_273 : decode code 273 = .ok (.aload_n 0, 1) := by decide +kernel
theorem d_law_274 : decode code 274 = .ok (.iload 4, 2) := by decide +kernel
theorem d_law_276 : decode code 276 = .ok (.iconst 2, 1) := by decide +kernel
theorem d_law_277 : decode code 277 = .ok (.iadd, 1) := by decide +kernel
theorem d_law_278 : decode code 278 = .ok (.iaload, 1) := by decide +kernel
theorem d_law_279 : decode code 279 = .ok (.i2l, 1) := by decide +kernel
theorem d_law_280 : decode code 280 = .ok (.bipush 32, 2) := by decide +kernel
theorem d_law_282 : decode code 282 = .ok (.lshl, 1) := by decide +kernel
theorem d_law_283 : decode code 283 = .ok (.aload_n 0, 1) := by decide +kernel
theorem d_law_284 : decode code 284 = .ok (.iload 4, 2) := by decide +kernel
theorem d_law_286 : decode code 286 = .ok (.iconst 3, 1) := by decide +kernel
theorem d_law_287 : decode code 287 = .ok (.iadd, 1) := by decide +kernel
theorem d_law_288 : decode code 288 = .ok (.iaload, 1) := by decide +kernel
theorem d_law_289 : decode code 289 = .ok (.i2l, 1) := by decide +kernel
theorem d_law_290 : decode code 290 = .ok (.ldc2_w 21, 3) := by decide +kernel
theorem d_law_293 : decode code 293 = .ok (.land, 1) := by decide +kernel
theorem d_law_294 : decode code 294 = .ok (.lor, 1) := by decide +kernel
theorem d_law_295 : decode code 295 = .ok (.invokevirtual 37, 3) := by decide +kernel
theorem d_law_298 : decode code 298 = .ok (.if_icmp .eq 266, 3) := by decide +kernel
theorem d_law_301 : decode code 301 = .ok (.iconst 0, 1) := by decide +kernel
theorem d_law_302 : decode code 302 = .ok (.ireturn, 1) := by decide +kernel
theorem d_law_303 : decode code 303 = .ok (.aload_n 1, 1) := by decide +kernel
theorem d_law_304 : decode code 304 = .ok (.aload_n 0, 1) := by decide +kernel
theorem d_law_305 : decode code 305 = .ok (.iload 4, 2) := by decide +kernel
theorem d_law_307 : decode code 307 = .ok (.iconst 1, 1) := by decide +kernel
theorem d_law_308 : decode code 308 = .ok (.iadd, 1) := by decide +kernel
theorem d_law_309 : decode code 309 = .ok (.iaload, 1) := by decide +kernel
theorem d_law_310 : decode code 310 = .ok (.aload_n 0, 1) := by decide +kernel
theorem d_law_311 : decode code 311 = .ok (.iload 4, 2) := by decide +kernel
theorem d_law_313 : decode code 313 = .ok (.iconst 2, 1) := by decide +kernel
theorem d_law_314 : decode code 314 = .ok (.iadd, 1) := by decide +kernel
theorem d_law_315 : decode code 315 = .ok (.iaload, 1) := by decide +kernel
theorem d_law_316 : decode code 316 = .ok (.invokevirtual 38, 3) := by decide +kernel
theorem d_law_319 : decode code 319 = .ok (.aload_n 2, 1) := by decide +kernel
theorem d_law_320 : decode code 320 = .ok (.aload_n 0, 1) := by decide +kernel
theorem d_law_321 : decode code 321 = .ok (.iload 4, 2) := by decide +kernel
theorem d_law_323 : decode code 323 = .ok (.iconst 1, 1) := by decide +kernel
theorem d_law_324 : decode code 324 = .ok (.iadd, 1) := by decide +kernel
theorem d_law_325 : decode code 325 = .ok (.iaload, 1) := by decide +kernel
theorem d_law_326 : decode code 326 = .ok (.aload_n 0, 1) := by decide +kernel
theorem d_law_327 : decode code 327 = .ok (.iload 4, 2) := by decide +kernel
theorem d_law_329 : decode code 329 = .ok (.iconst 2, 1) := by decide +kernel
theorem d_law_330 : decode code 330 = .ok (.iadd, 1) := by decide +kernel
theorem d_law_331 : decode code 331 = .ok (.iaload, 1) := by decide +kernel
theorem d_law_332 : decode code 332 = .ok (.invokevirtual 42, 3) := by decide +kernel
theorem d_law_335 : decode code 335 = .ok (.if_icmp .eq 229, 3) := by decide +kernel
theorem d_law_338 : decode code 338 = .ok (.iconst 0, 1) := by decide +kernel
theorem d_law_339 : decode code 339 = .ok (.ireturn, 1) := by decide +kernel
theorem d_law_340 : decode code 340 = .ok (.aload_n 1, 1) := by decide +kernel
theorem d_law_341 : decode code 341 = .ok (.aload_n 0, 1) := by decide +kernel
theorem d_law_342 : decode code 342 = .ok (.iload 4, 2) := by decide +kernel
theorem d_law_344 : decode code 344 = .ok (.iconst 1, 1) := by decide +kernel
theorem d_law_345 : decode code 345 = .ok (.iadd, 1) := by decide +kernel
theorem d_law_346 : decode code 346 = .ok (.iaload, 1) := by decide +kernel
theorem d_law_347 : decode code 347 = .ok (.i2l, 1) := by decide +kernel
theorem d_law_348 : decode code 348 = .ok (.bipush 32, 2) := by decide +kernel
theorem d_law_350 : decode code 350 = .ok (.lshl, 1) := by decide +kernel
theorem d_law_351 : decode code 351 = .ok (.aload_n 0, 1) := by decide +kernel
theorem d_law_352 : decode code 352 = .ok (.iload 4, 2) := by decide +kernel
theorem d_law_354 : decode code 354 = .ok (.iconst 2, 1) := by decide +kernel
theorem d_law_355 : decode code 355 = .ok (.iadd, 1) := by decide +kernel
theorem d_law_356 : decode code 356 = .ok (.iaload, 1) := by decide +kernel
theorem d_law_357 : decode code 357 = .ok (.i2l, 1) := by decide +kernel
theorem d_law_358 : decode code 358 = .ok (.ldc2_w 21, 3) := by decide +kernel
theorem d_law_361 : decode code 361 = .ok (.land, 1) := by decide +kernel
theorem d_law_362 : decode code 362 = .ok (.lor, 1) := by decide +kernel
theorem d_law_363 : decode code 363 = .ok (.invokevirtual 43, 3) := by decide +kernel
theorem d_law_366 : decode code 366 = .ok (.aload_n 2, 1) := by decide +kernel
theorem d_law_367 : decode code 367 = .ok (.aload_n 0, 1) := by decide +kernel
theorem d_law_368 : decode code 368 = .ok (.iload 4, 2) := by decide +kernel
theorem d_law_370 : decode code 370 = .ok (.iconst 1, 1) := by decide +kernel
theorem d_law_371 : decode code 371 = .ok (.iadd, 1) := by decide +kernel
theorem d_law_372 : decode code 372 = .ok (.iaload, 1) := by decide +kernel
theorem d_law_373 : decode code 373 = .ok (.i2l, 1) := by decide +kernel
theorem d_law_374 : decode code 374 = .ok (.bipush 32, 2) := by decide +kernel
theorem d_law_376 : decode code 376 = .ok (.lshl, 1) := by decide +kernel
theorem d_law_377 : decode code 377 = .ok (.aload_n 0, 1) := by decide +kernel
theorem d_law_378 : decode code 378 = .ok (.iload 4, 2) := by decide +kernel
theorem d_law_380 : decode code 380 = .ok (.iconst 2, 1) := by decide +kernel
theorem d_law_381 : decode code 381 = .ok (.iadd, 1) := by decide +kernel
theorem d_law_382 : decode code 382 = .ok (.iaload, 1) := by decide +kernel
theorem d_law_383 : decode code 383 = .ok (.i2l, 1) := by decide +kernel
theorem d_law_384 : decode code 384 = .ok (.ldc2_w 21, 3) := by decide +kernel
theorem d_law_387 : decode code 387 = .ok (.land, 1) := by decide +kernel
theorem d_law_388 : decode code 388 = .ok (.lor, 1) := by decide +kernel
theorem d_law_389 : decode code 389 = .ok (.invokevirtual 47, 3) := by decide +kernel
theorem d_law_392 : decode code 392 = .ok (.lcmp, 1) := by decide +kernel
theorem d_law_393 : decode code 393 = .ok (.ifCond .eq 171, 3) := by decide +kernel
theorem d_law_396 : decode code 396 = .ok (.iconst 0, 1) := by decide +kernel
theorem d_law_397 : decode code 397 = .ok (.ireturn, 1) := by decide +kernel
theorem d_law_398 : decode code 398 = .ok (.aload_n 1, 1) := by decide +kernel
theorem d_law_399 : decode code 399 = .ok (.aload_n 0, 1) := by decide +kernel
theorem d_law_400 : decode code 400 = .ok (.iload 4, 2) := by decide +kernel
theorem d_law_402 : decode code 402 = .ok (.iconst 1, 1) := by decide +kernel
theorem d_law_403 : decode code 403 = .ok (.iadd, 1) := by decide +kernel
theorem d_law_404 : decode code 404 = .ok (.iaload, 1) := by decide +kernel
theorem d_law_405 : decode code 405 = .ok (.invokevirtual 48, 3) := by decide +kernel
theorem d_law_408 : decode code 408 = .ok (.aload_n 2, 1) := by decide +kernel
theorem d_law_409 : decode code 409 = .ok (.aload_n 0, 1) := by decide +kernel
theorem d_law_410 : decode code 410 = .ok (.iload 4, 2) := by decide +kernel
theorem d_law_412 : decode code 412 = .ok (.iconst 1, 1) := by decide +kernel
theorem d_law_413 : decode code 413 = .ok (.iadd, 1) := by decide +kernel
theorem d_law_414 : decode code 414 = .ok (.iaload, 1) := by decide +kernel
theorem d_law_415 : decode code 415 = .ok (.invokevirtual 52, 3) := by decide +kernel
theorem d_law_418 : decode code 418 = .ok (.if_icmp .eq 146, 3) := by decide +kernel
theorem d_law_421 : decode code 421 = .ok (.iconst 0, 1) := by decide +kernel
theorem d_law_422 : decode code 422 = .ok (.ireturn, 1) := by decide +kernel
theorem d_law_423 : decode code 423 = .ok (.aload_n 1, 1) := by decide +kernel
theorem d_law_424 : decode code 424 = .ok (.invokevirtual 53, 3) := by decide +kernel
theorem d_law_427 : decode code 427 = .ok (.aload_n 2, 1) := by decide +kernel
theorem d_law_428 : decode code 428 = .ok (.invokevirtual 57, 3) := by decide +kernel
theorem d_law_431 : decode code 431 = .ok (.if_icmp .eq 133, 3) := by decide +kernel
theorem d_law_434 : decode code 434 = .ok (.iconst 0, 1) := by decide +kernel
theorem d_law_435 : decode code 435 = .ok (.ireturn, 1) := by decide +kernel
theorem d_law_436 : decode code 436 = .ok (.aload_n 1, 1) := by decide +kernel
theorem d_law_437 : decode code 437 = .ok (.aload_n 0, 1) := by decide +kernel
theorem d_law_438 : decode code 438 = .ok (.iload 4, 2) := by decide +kernel
theorem d_law_440 : decode code 440 = .ok (.iconst 1, 1) := by decide +kernel
theorem d_law_441 : decode code 441 = .ok (.iadd, 1) := by decide +kernel
theorem d_law_442 : decode code 442 = .ok (.iaload, 1) := by decide +kernel
theorem d_law_443 : decode code 443 = .ok (.aload_n 3, 1) := by decide +kernel
theorem d_law_444 : decode code 444 = .ok (.invokestatic 58, 3) := by decide +kernel
theorem d_law_447 : decode code 447 = .ok (.istore 5, 2) := by decide +kernel
theorem d_law_449 : decode code 449 = .ok (.aload_n 2, 1) := by decide +kernel
theorem d_law_450 : decode code 450 = .ok (.aload_n 0, 1) := by decide +kernel
theorem d_law_451 : decode code 451 = .ok (.iload 4, 2) := by decide +kernel
theorem d_law_453 : decode code 453 = .ok (.iconst 1, 1) := by decide +kernel
theorem d_law_454 : decode code 454 = .ok (.iadd, 1) := by decide +kernel
theorem d_law_455 : decode code 455 = .ok (.iaload, 1) := by decide +kernel
theorem d_law_456 : decode code 456 = .ok (.invokevirtual 63, 3) := by decide +kernel
theorem d_law_459 : decode code 459 = .ok (.istore 6, 2) := by decide +kernel
theorem d_law_461 : decode code 461 = .ok (.aload_n 2, 1) := by decide +kernel
theorem d_law_462 : decode code 462 = .ok (.invokevirtual 64, 3) := by decide +kernel
theorem d_law_465 : decode code 465 = .ok (.iload 5, 2) := by decide +kernel
theorem d_law_467 : decode code 467 = .ok (.if_icmp .eq 5, 3) := by decide +kernel
theorem d_law_470 : decode code 470 = .ok (.iconst 0, 1) := by decide +kernel
theorem d_law_471 : decode code 471 = .ok (.ireturn, 1) := by decide +kernel
theorem d_law_472 : decode code 472 = .ok (.iload 5, 2) := by decide +kernel
theorem d_law_474 : decode code 474 = .ok (.ifCond .ne 22, 3) := by decide +kernel
theorem d_law_477 : decode code 477 = .ok (.aload_n 3, 1) := by decide +kernel
theorem d_law_478 : decode code 478 = .ok (.iconst 0, 1) := by decide +kernel
theorem d_law_479 : decode code 479 = .ok (.laload, 1) := by decide +kernel
theorem d_law_480 : decode code 480 = .ok (.iload 6, 2) := by decide +kernel
theorem d_law_482 : decode code 482 = .ok (.ifCond .eq 7, 3) := by decide +kernel
theorem d_law_485 : decode code 485 = .ok (.lconst 1, 1) := by decide +kernel
theorem d_law_486 : decode code 486 = .ok (.goto 4, 3) := by decide +kernel
theorem d_law_489 : decode code 489 = .ok (.lconst 0, 1) := by decide +kernel
theorem d_law_490 : decode code 490 = .ok (.lcmp, 1) := by decide +kernel
theorem d_law_491 : decode code 491 = .ok (.ifCond .eq 5, 3) := by decide +kernel
theorem d_law_494 : decode code 494 = .ok (.iconst 0, 1) := by decide +kernel
theorem d_law_495 : decode code 495 = .ok (.ireturn, 1) := by decide +kernel
theorem d_law_496 : decode code 496 = .ok (.goto 68, 3) := by decide +kernel
theorem d_law_499 : decode code 499 = .ok (.aload_n 1, 1) := by decide +kernel
theorem d_law_500 : decode code 500 = .ok (.invokevirtual 67, 3) := by decide +kernel
theorem d_law_503 : decode code 503 = .ok (.aload_n 2, 1) := by decide +kernel
theorem d_law_504 : decode code 504 = .ok (.invokevirtual 70, 3) := by decide +kernel
theorem d_law_507 : decode code 507 = .ok (.if_icmp .eq 57, 3) := by decide +kernel
theorem d_law_510 : decode code 510 = .ok (.iconst 0, 1) := by decide +kernel
theorem d_law_511 : decode code 511 = .ok (.ireturn, 1) := by decide +kernel
theorem d_law_512 : decode code 512 = .ok (.aload_n 1, 1) := by decide +kernel
theorem d_law_513 : decode code 513 = .ok (.invokevirtual 71, 3) := by decide +kernel
theorem d_law_516 : decode code 516 = .ok (.aload_n 2, 1) := by decide +kernel
theorem d_law_517 : decode code 517 = .ok (.invokevirtual 75, 3) := by decide +kernel
theorem d_law_520 : decode code 520 = .ok (.lcmp, 1) := by decide +kernel
theorem d_law_521 : decode code 521 = .ok (.ifCond .eq 43, 3) := by decide +kernel
theorem d_law_524 : decode code 524 = .ok (.iconst 0, 1) := by decide +kernel
theorem d_law_525 : decode code 525 = .ok (.ireturn, 1) := by decide +kernel
theorem d_law_526 : decode code 526 = .ok (.aload_n 1, 1) := by decide +kernel
theorem d_law_527 : decode code 527 = .ok (.aload_n 0, 1) := by decide +kernel
theorem d_law_528 : decode code 528 = .ok (.iload 4, 2) := by decide +kernel
theorem d_law_530 : decode code 530 = .ok (.iconst 1, 1) := by decide +kernel
theorem d_law_531 : decode code 531 = .ok (.iadd, 1) := by decide +kernel
theorem d_law_532 : decode code 532 = .ok (.iaload, 1) := by decide +kernel
theorem d_law_533 : decode code 533 = .ok (.invokevirtual 76, 3) := by decide +kernel
theorem d_law_536 : decode code 536 = .ok (.aload_n 2, 1) := by decide +kernel
theorem d_law_537 : decode code 537 = .ok (.aload_n 0, 1) := by decide +kernel
theorem d_law_538 : decode code 538 = .ok (.iload 4, 2) := by decide +kernel
theorem d_law_540 : decode code 540 = .ok (.iconst 1, 1) := by decide +kernel
theorem d_law_541 : decode code 541 = .ok (.iadd, 1) := by decide +kernel
theorem d_law_542 : decode code 542 = .ok (.iaload, 1) := by decide +kernel
theorem d_law_543 : decode code 543 = .ok (.invokevirtual 79, 3) := by decide +kernel
theorem d_law_546 : decode code 546 = .ok (.if_icmp .eq 18, 3) := by decide +kernel
theorem d_law_549 : decode code 549 = .ok (.iconst 0, 1) := by decide +kernel
theorem d_law_550 : decode code 550 = .ok (.ireturn, 1) := by decide +kernel
theorem d_law_551 : decode code 551 = .ok (.aload_n 1, 1) := by decide +kernel
theorem d_law_552 : decode code 552 = .ok (.invokevirtual 80, 3) := by decide +kernel
theorem d_law_555 : decode code 555 = .ok (.aload_n 2, 1) := by decide +kernel
theorem d_law_556 : decode code 556 = .ok (.invokevirtual 84, 3) := by decide +kernel
theorem d_law_559 : decode code 559 = .ok (.if_icmp .eq 5, 3) := by decide +kernel
theorem d_law_562 : decode code 562 = .ok (.iconst 0, 1) := by decide +kernel
theorem d_law_563 : decode code 563 = .ok (.ireturn, 1) := by decide +kernel
theorem d_law_564 : decode code 564 = .ok (.iinc 4 4, 3) := by decide +kernel
theorem d_law_567 : decode code 567 = .ok (.goto (-544), 3) := by decide +kernel
theorem d_law_570 : decode code 570 = .ok (.iconst 1, 1) := by decide +kernel
theorem d_law_571 : decode code 571 = .ok (.ireturn, 1) := by decide +kernel
theorem bz_nw_ok : ∀ w ∈ bz_nw, w ∈ lw_tbl ∧ w.onTables = true := by decide +kernel
theorem bz_N_of {args : Array Value} {s : State} (hts : ∀ w ∈ lw_tbl, w.before args s = true) : bz_N s := fun w hw => va_Nw.of (bz_nw_ok w hw).2 (hts w (bz_nw_ok w hw).1)
/-- what holds between two calls: both objects hold the same town, and are solved alike -/
def bz_I (D : va_G) (ad am : Nat → Nat) (cI cL cZ : ClassId) (qo : Nat) (s : State) (H : Heap) (locs : List Loc) : Prop :=
  ∃ (t : bz_T) (slv : Bool) (f : Nat → Nat) (A1 : Nat → Int32) (A2 : Nat → Int64) (o1 c1 : Int32) (rw : Nat → Nat) (co : Int64) (th : Int32) (g tr : Nat → Nat) (S3 : Nat → Int32) (O : Nat → Int64),
    bz_ok t ∧ (slv = true → (fun a => nI (f a), A1, A2, o1, c1) = bz_sR t (bz_fu f) ∧ (∀ a, a < bz_n t → f a = g a) ∧ ∀ a, a < bz_n t → g a < 4) ∧
    va_P D vwCl (bz_wB ad cI cL (bz_tR t) (fun a => nI (f a), A1, A2, o1, c1) (fun j => nI (rw j), co) (bz_i slv) ++ (bz_wM am cI cL cZ (bz_tM t) (th, bz_i slv, bz_i (slv && decide (bz_n t ≤ 8))) (fun a => nI (g a), fun a => nI (tr a), S3) ++ [(qo, .inl (cL, 1, .inr (.inl O)))])) H ∧ va_D (fun q : Nat => s.heap.size ≤ q) (bz_wB ad cI cL (bz_tR t) (fun a => nI (f a), A1, A2, o1, c1) (fun j => nI (rw j), co) (bz_i slv) ++ (bz_wM am cI cL cZ (bz_tM t) (th, bz_i slv, bz_i (slv && decide (bz_n t ≤ 8))) (fun a => nI (g a), fun a => nI (tr a), S3) ++ [(qo, .inl (cL, 1, .inr (.inl O)))])) ∧ va_S (fun q : Nat => s.heap.size ≤ q) s.heap H locs
theorem bz_so_eq {t : bz_T} {k : Nat} {f g : Nat → Nat} (h1 : bz_so t k f) (h2 : bz_so t k g) : ∀ a, a < bz_n t → f a = g a := by
  by_cases h : bz_n t ≤ 8
  · exact bz_bs_eq (h1.2.1 h) (h2.2.1 h)
  · exact fun a ha => (h1.2.2 h a ha).trans (h2.2.2 h a ha).symm
section BZL
variable {p : Program} {l : Launch} {e : Env} {R : Room} {s : State} {m : MethodId} {args : Array Value} {below : List Frame} {meth : Method} {c : Code} {H H1 : Heap} {locs : List Loc} {cells slots : Nat} {Q : State → Prop}
variable {pc : Nat} {ls : Array Slot} {rest : List Value} {D : va_G} {A A0 : Nat → Prop} {H0 : Heap} {cc : ByteArray}
variable {ad am : Nat → Nat} {cI cL cZ : ClassId} {T T2 : bz_RT} {R0 R2 : bz_RS} {L0 L2 : (Nat → Int32) × Int64} {v v2 : Int32} {V V2 : Int32 × Int32 × Int32} {S S2 : (Nat → Int32) × (Nat → Int32) × (Nat → Int32)} {TM TM2 : bz_RT} {qo : Nat} {O : Nat → Int64}
theorem bz_jB (hP : va_P D vwCl (bz_wB ad cI cL T R0 L0 v ++ (bz_wM am cI cL cZ TM V S ++ [(qo, .inl (cL, 1, .inr (.inl O)))])) H) (hD : va_D A0 (bz_wB ad cI cL T R0 L0 v ++ (bz_wM am cI cL cZ TM V S ++ [(qo, .inl (cL, 1, .inr (.inl O)))]))) (hk : ∀ q : Nat, q < H.size → ¬ va_A (bz_wB ad cI cL T R0 L0 v) H.size q → H1[q]? = H[q]?) (hF : ∀ q, va_A (bz_wB ad cI cL T R0 L0 v) H.size q → A0 q) (hP1 : va_P D vwCl (bz_wB ad cI cL T2 R2 L2 v2) H1) (hD1 : va_D (va_A (bz_wB ad cI cL T R0 L0 v) H.size) (bz_wB ad cI cL T2 R2 L2 v2)) :
    va_P D vwCl (bz_wB ad cI cL T2 R2 L2 v2 ++ (bz_wM am cI cL cZ TM V S ++ [(qo, .inl (cL, 1, .inr (.inl O)))])) H1 ∧ va_D A0 (bz_wB ad cI cL T2 R2 L2 v2 ++ (bz_wM am cI cL cZ TM V S ++ [(qo, .inl (cL, 1, .inr (.inl O)))])) := by
  obtain ⟨h1, h2⟩ := va_join (wr := bz_wM am cI cL cZ TM V S ++ [(qo, .inl (cL, 1, .inr (.inl O)))]) hP hD [0, 1, 2, 3, 4, 5, 6, 7, 8, 9, 10, 11, 12] [13, 14, 15, 16, 17, 18, 19, 20, 21, 22] rfl rfl (by decide) (by decide) hk hF hP1 hD1
  exact ⟨h1.sub [10, 11, 12, 13, 14, 15, 16, 17, 18, 19, 20, 21, 22, 0, 1, 2, 3, 4, 5, 6, 7, 8, 9] rfl, h2.sub [10, 11, 12, 13, 14, 15, 16, 17, 18, 19, 20, 21, 22, 0, 1, 2, 3, 4, 5, 6, 7, 8, 9] (by decide) rfl⟩
theorem bz_jM (hP : va_P D vwCl (bz_wB ad cI cL T R0 L0 v ++ (bz_wM am cI cL cZ TM V S ++ [(qo, .inl (cL, 1, .inr (.inl O)))])) H) (hD : va_D A0 (bz_wB ad cI cL T R0 L0 v ++ (bz_wM am cI cL cZ TM V S ++ [(qo, .inl (cL, 1, .inr (.inl O)))]))) (hk : ∀ q : Nat, q < H.size → ¬ va_A (bz_wM am cI cL cZ TM V S) H.size q → H1[q]? = H[q]?) (hF : ∀ q, va_A (bz_wM am cI cL cZ TM V S) H.size q → A0 q) (hP1 : va_P D vwCl (bz_wM am cI cL cZ TM2 V2 S2) H1) (hD1 : va_D (va_A (bz_wM am cI cL cZ TM V S) H.size) (bz_wM am cI cL cZ TM2 V2 S2)) :
    va_P D vwCl (bz_wB ad cI cL T R0 L0 v ++ (bz_wM am cI cL cZ TM2 V2 S2 ++ [(qo, .inl (cL, 1, .inr (.inl O)))])) H1 ∧ va_D A0 (bz_wB ad cI cL T R0 L0 v ++ (bz_wM am cI cL cZ TM2 V2 S2 ++ [(qo, .inl (cL, 1, .inr (.inl O)))])) := by
  obtain ⟨h1, h2⟩ := va_join (wr := bz_wB ad cI cL T R0 L0 v ++ [(qo, .inl (cL, 1, .inr (.inl O)))]) hP hD [13, 14, 15, 16, 17, 18, 19, 20, 21] [0, 1, 2, 3, 4, 5, 6, 7, 8, 9, 10, 11, 12, 22] rfl rfl (by decide) (by decide) hk hF hP1 hD1
  exact ⟨h1.sub [0, 1, 2, 3, 4, 5, 6, 7, 8, 9, 10, 11, 12, 14, 15, 16, 17, 18, 19, 20, 21, 22, 13] rfl, h2.sub [0, 1, 2, 3, 4, 5, 6, 7, 8, 9, 10, 11, 12, 14, 15, 16, 17, 18, 19, 20, 21, 22, 13] (by decide) rfl⟩
theorem bz_sld (hexec : p.tables.exec = Jvm.exec) (hb : c.code = cc) {b L : Nat} {xs : Nat → Int32} (hX : va_X b L xs s H0) (hbl : b < H0.size) (hbA : ¬ A b) (hS : va_S A H0 H locs) {j : Nat} (hj : j < L) (hL : L < 2 ^ 31) (hdg : decode cc pc = .ok (.iaload, 1))
    (kk : W p l e R s m args below meth c H locs cells slots Q (F0 m (pc + 1) ls (.int (xs j) :: rest))) : W p l e R s m args below meth c H locs cells slots Q (F0 m pc ls (.int (nI j) :: .ref b :: rest)) := by
  refine va_sld hexec hb hX hbl hbA hS (vp_in_nI hj hL) hdg ?_
  rw [nI_clamp (Nat.lt_trans hj hL)]
  exact kk
end BZL

set_option maxHeartbeats 4000000 in
set_option maxRecDepth 100000 in
theorem law_area {p : Program} {l : Launch} {e : Env} {s : State} {m : MethodId} {below : List Frame} {meth : Method} {c : Code} {dC : Nat → ClassId} {dI : Nat → Nat → Nat} {ad am : Nat → Nat} {cI cL cZ : ClassId} {qo b L : Nat} {xs : Nat → Int32} (hL : L ≤ 2048) (C0 : lw_At p s m meth c b L xs) (hK : va_K (dC, dI) vwCl [(cI, .int), (cL, .long), (cZ, .boolean)] s) (hN : bz_N s) (k : Nat) (hk : 4 * k + 4 ≤ L) (ih : ∀ (H : Heap) (locs : List Loc) (ls : Array Slot), bz_I (dC, dI) ad am cI cL cZ qo s H locs → lv_has ls 7 [(0, .ref b), (1, .ref (ad 0)), (2, .ref (am 0)), (3, .ref qo), (4, .int (nI (4 * k)))] → W p l e room_1 s m #[Value.ref b] below meth c H locs (23 + (k + 1)) (1349 + 6 * (k + 1)) (lw_Z below #[Value.ref b] s) (F0 m 564 ls [])) :
    ∀ (H : Heap) (locs : List Loc) (ls : Array Slot), bz_I (dC, dI) ad am cI cL cZ qo s H locs → lv_has ls 7 [(0, .ref b), (1, .ref (ad 0)), (2, .ref (am 0)), (3, .ref qo), (4, .int (nI (4 * k)))] → W p l e room_1 s m #[Value.ref b] below meth c H locs (23 + k) (1349 + 6 * k) (lw_Z below #[Value.ref b] s) (F0 m 100 ls []) := by
  obtain ⟨hx, hb, hr, hml, hown, hts, hX, hbl, hlocks, hgv⟩ := id C0
  have htb : ∀ w ∈ bz_tb, w.before #[Value.ref b] s = true := fun w h => hts w (List.mem_filter.mp h).1
  have hA : ∀ q : Nat, s.heap.size ≤ q → (fun q : Nat => s.heap.size ≤ q) q := fun _ h => h
  have hbA : ¬ (fun q : Nat => s.heap.size ≤ q) b := Nat.not_le.mpr hbl
  have hK2 := hK.sub (tys' := [(cI, .int), (cL, .long)]) [0, 1] rfl
  intro H locs ls hI hl
  obtain ⟨t, slv, f, A1, A2, o1, c1, rw, co, th, g, tr, S3, O, ht, hR, hP, hD, hS⟩ := hI
  have hn30 := ht.1
  obtain ⟨z, hz0⟩ : ∃ z : Int64, z = ((xs (4 * k + 1)).toInt64 <<< (Int32.toInt64 32 &&& 63)) ||| ((xs (4 * k + 2)).toInt64 &&& 4294967295) := ⟨_, rfl⟩
  by_cases hz : 0 ≤ z ∧ z ≤ 1000000 ∧ bz_ir (xs (4 * k + 3)) = true
  · obtain ⟨x, hx63, rfl⟩ := pk_lOf (Int64.not_lt.mpr hz.1)
    have hx0 : x ≤ 1000000 := (pk_lLE (b := 1000000) hx63 (by omega)).mp hz.2.1
    obtain ⟨r, hr4, hq1⟩ := bz_ir_of hz.2.2
    by_cases hn : bz_n t < 30
    · skip
      refine lv_aload_n hx hb d_law_100 rfl (lv_at hl 1 rfl) ?_
      refine lv_aload_n hx hb d_law_101 rfl (lv_at hl 0 rfl) ?_
      refine lv_iload hx hb d_law_102 (lv_at hl 4 rfl) ?_
      refine lv_iconst (v := 1) hx hb d_law_104 (by decide) ?_
      refine lv_iadd hx hb d_law_105 ?_
      refine bz_ri (y := nI (4 * k + 1)) (nI_1 _) ?_
      refine bz_sld (j := (4 * k + 1)) hx hb hX hbl hbA hS (by omega) (by omega) d_law_106 ?_
      refine lv_i2l hx hb d_law_107 rfl ?_
      refine lv_bipush (v := 32) hx hb d_law_108 (by decide) ?_
      refine lv_lshl hx hb d_law_110 rfl ?_
      refine lv_aload_n hx hb d_law_111 rfl (lv_at hl 0 rfl) ?_
      refine lv_iload hx hb d_law_112 (lv_at hl 4 rfl) ?_
      refine lv_iconst (v := 2) hx hb d_law_114 (by decide) ?_
      refine lv_iadd hx hb d_law_115 ?_
      refine bz_ri (y := nI (4 * k + 2)) (nI_add _ 2) ?_
      refine bz_sld (j := (4 * k + 2)) hx hb hX hbl hbA hS (by omega) (by omega) d_law_116 ?_
      refine lv_i2l hx hb d_law_117 rfl ?_
      refine lv_ldc2 (v := 4294967295) hx hb hown (htb _ wd_567) d_law_118 ?_
      refine lv_land hx hb d_law_121 ?_
      refine lv_lor hx hb d_law_122 ?_
      refine bz_rl (y := lN x) (hz0.symm) ?_
      refine lv_aload_n hx hb d_law_123 rfl (lv_at hl 0 rfl) ?_
      refine lv_iload hx hb d_law_124 (lv_at hl 4 rfl) ?_
      refine lv_iconst (v := 3) hx hb d_law_126 (by decide) ?_
      refine lv_iadd hx hb d_law_127 ?_
      refine bz_ri (y := nI (4 * k + 3)) (nI_add _ 3) ?_
      refine bz_sld (j := (4 * k + 3)) hx hb hX hbl hbA hS (by omega) (by omega) d_law_128 ?_
      refine bz_ri (y := nI r) (hq1) ?_
      have hPc := hP.sub (ws' := bz_wB ad cI cL (bz_tR t) (fun a => nI (f a), A1, A2, o1, c1) (fun j => nI (rw j), co) (bz_i slv)) [0, 1, 2, 3, 4, 5, 6, 7, 8, 9, 10, 11, 12] rfl
      have hDc := hD.sub (ws' := bz_wB ad cI cL (bz_tR t) (fun a => nI (f a), A1, A2, o1, c1) (fun j => nI (rw j), co) (bz_i slv)) [0, 1, 2, 3, 4, 5, 6, 7, 8, 9, 10, 11, 12] (by decide) rfl
      have hFc := va_free (wc := bz_wB ad cI cL (bz_tR t) (fun a => nI (f a), A1, A2, o1, c1) (fun j => nI (rw j), co) (bz_i slv)) hD hS hA [0, 1, 2, 3, 4, 5, 6, 7, 8, 9, 10, 11, 12] rfl
      refine va_calli (va_runV (As := [.long (lN x), .int (nI r)]) (rest := []) ⟨hx, hb, hml, hown, htb⟩ (c_B_area l dC dI _ ad cI cL t (fun a => nI (f a), A1, A2, o1, c1) (fun j => nI (rw j), co) (bz_i slv) ht x r hx0 hr4 hn) (cwV 2 htb (bz_gV wd_133 wd_130 wd_131 wd_132 wd_19) rfl rfl rfl (by decide +kernel) ⟨Nat.le_of_ble_eq_true rfl, Nat.le_of_ble_eq_true rfl⟩) (bz_wv hN hK2 hPc hDc (q0 := 0) rfl rfl) rfl rfl hl.1 rfl (lv_room (Nat.le_of_ble_eq_true rfl)) d_law_129 ⟨show 23 + k + 0 ≤ 601024 by omega, show 1349 + 6 * k + 0 ≤ 7293034 by omega⟩) hS (fun q _ h => hFc q h) hFc (fun r9 u t9 H locs ht9 hvm hw9 hB9 hz9 hk9 hS => ?_)
      obtain ⟨hP1, hK1, hD1⟩ := hB9
      rw [ht9] at hP1
      obtain ⟨hP, hD⟩ := bz_jB hP hD hk9 hFc hP1 hD1
      obtain rfl : r9 = nI (bz_n t + 1) := hw9
      have hP : va_P (dC, dI) vwCl (bz_wB ad cI cL (bz_tR (bz_aA t x r)) (fun a => nI (f a), A1, A2, o1, c1) (fun j => nI (rw j), co) (0) ++ (bz_wM am cI cL cZ (bz_tM t) (th, bz_i slv, bz_i (slv && decide (bz_n t ≤ 8))) (fun a => nI (g a), fun a => nI (tr a), S3) ++ [(qo, .inl (cL, 1, .inr (.inl O)))])) H := hP
      have hD : va_D (fun q : Nat => s.heap.size ≤ q) (bz_wB ad cI cL (bz_tR (bz_aA t x r)) (fun a => nI (f a), A1, A2, o1, c1) (fun j => nI (rw j), co) (0) ++ (bz_wM am cI cL cZ (bz_tM t) (th, bz_i slv, bz_i (slv && decide (bz_n t ≤ 8))) (fun a => nI (g a), fun a => nI (tr a), S3) ++ [(qo, .inl (cL, 1, .inr (.inl O)))])) := hD
      refine lv_aload_n hx hb d_law_132 rfl (lv_at hl 2 rfl) ?_
      refine lv_aload_n hx hb d_law_133 rfl (lv_at hl 0 rfl) ?_
      refine lv_iload hx hb d_law_134 (lv_at hl 4 rfl) ?_
      refine lv_iconst (v := 1) hx hb d_law_136 (by decide) ?_
      refine lv_iadd hx hb d_law_137 ?_
      refine bz_ri (y := nI (4 * k + 1)) (nI_1 _) ?_
      refine bz_sld (j := (4 * k + 1)) hx hb hX hbl hbA hS (by omega) (by omega) d_law_138 ?_
      refine lv_i2l hx hb d_law_139 rfl ?_
      refine lv_bipush (v := 32) hx hb d_law_140 (by decide) ?_
      refine lv_lshl hx hb d_law_142 rfl ?_
      refine lv_aload_n hx hb d_law_143 rfl (lv_at hl 0 rfl) ?_
      refine lv_iload hx hb d_law_144 (lv_at hl 4 rfl) ?_
      refine lv_iconst (v := 2) hx hb d_law_146 (by decide) ?_
      refine lv_iadd hx hb d_law_147 ?_
      refine bz_ri (y := nI (4 * k + 2)) (nI_add _ 2) ?_
      refine bz_sld (j := (4 * k + 2)) hx hb hX hbl hbA hS (by omega) (by omega) d_law_148 ?_
      refine lv_i2l hx hb d_law_149 rfl ?_
      refine lv_ldc2 (v := 4294967295) hx hb hown (htb _ wd_567) d_law_150 ?_
      refine lv_land hx hb d_law_153 ?_
      refine lv_lor hx hb d_law_154 ?_
      refine bz_rl (y := lN x) (hz0.symm) ?_
      refine lv_aload_n hx hb d_law_155 rfl (lv_at hl 0 rfl) ?_
      refine lv_iload hx hb d_law_156 (lv_at hl 4 rfl) ?_
      refine lv_iconst (v := 3) hx hb d_law_158 (by decide) ?_
      refine lv_iadd hx hb d_law_159 ?_
      refine bz_ri (y := nI (4 * k + 3)) (nI_add _ 3) ?_
      refine bz_sld (j := (4 * k + 3)) hx hb hX hbl hbA hS (by omega) (by omega) d_law_160 ?_
      refine bz_ri (y := nI r) (hq1) ?_
      have hPc := hP.sub (ws' := bz_wM am cI cL cZ (bz_tM t) (th, bz_i slv, bz_i (slv && decide (bz_n t ≤ 8))) (fun a => nI (g a), fun a => nI (tr a), S3)) [13, 14, 15, 16, 17, 18, 19, 20, 21] rfl
      have hDc := hD.sub (ws' := bz_wM am cI cL cZ (bz_tM t) (th, bz_i slv, bz_i (slv && decide (bz_n t ≤ 8))) (fun a => nI (g a), fun a => nI (tr a), S3)) [13, 14, 15, 16, 17, 18, 19, 20, 21] (by decide) rfl
      have hFc := va_free (wc := bz_wM am cI cL cZ (bz_tM t) (th, bz_i slv, bz_i (slv && decide (bz_n t ≤ 8))) (fun a => nI (g a), fun a => nI (tr a), S3)) hD hS hA [13, 14, 15, 16, 17, 18, 19, 20, 21] rfl
      refine va_calli (va_runV (As := [.long (lN x), .int (nI r)]) (rest := [.int (nI (bz_n t + 1))]) ⟨hx, hb, hml, hown, htb⟩ (c_M_area l dC dI _ am cI cL cZ t th (bz_i slv) (bz_i (slv && decide (bz_n t ≤ 8))) (fun a => nI (g a)) (fun a => nI (tr a)) S3 ht x r hx0 hr4 hn) (cwV 2 htb (bz_gV wd_456 wd_453 wd_454 wd_455 wd_23) rfl rfl rfl (by decide +kernel) ⟨Nat.le_of_ble_eq_true rfl, Nat.le_of_ble_eq_true rfl⟩) (bz_wv hN hK hPc hDc (q0 := 0) rfl rfl) rfl rfl hl.1 rfl (lv_room (Nat.le_of_ble_eq_true rfl)) d_law_161 ⟨show 23 + k + 0 ≤ 601024 by omega, show 1349 + 6 * k + 0 ≤ 7293034 by omega⟩) hS (fun q _ h => hFc q h) hFc (fun r9 w t9 H locs ht9 hvm hw9 hB9 hz9 hk9 hS => ?_)
      obtain ⟨hP1, hK1, hD1⟩ := hB9
      rw [ht9] at hP1
      obtain ⟨hP, hD⟩ := bz_jM hP hD hk9 hFc hP1 hD1
      obtain rfl : r9 = nI (bz_n t + 1) := hw9
      have hP : va_P (dC, dI) vwCl (bz_wB ad cI cL (bz_tR (bz_aA t x r)) (fun a => nI (f a), A1, A2, o1, c1) (fun j => nI (rw j), co) (0) ++ (bz_wM am cI cL cZ (bz_tM (bz_aA t x r)) (0, 0, 0) (fun a => nI (g a), fun a => nI (tr a), S3) ++ [(qo, .inl (cL, 1, .inr (.inl O)))])) H := hP
      have hD : va_D (fun q : Nat => s.heap.size ≤ q) (bz_wB ad cI cL (bz_tR (bz_aA t x r)) (fun a => nI (f a), A1, A2, o1, c1) (fun j => nI (rw j), co) (0) ++ (bz_wM am cI cL cZ (bz_tM (bz_aA t x r)) (0, 0, 0) (fun a => nI (g a), fun a => nI (tr a), S3) ++ [(qo, .inl (cL, 1, .inr (.inl O)))])) := hD
      refine lv_icmp_eq (tgt := 564) hx hb d_law_164 (by decide) (fun c_164 => ?_) (fun c_164 => ?_)
      · skip
        refine W.widen (k := 23 + (k + 1)) (n := 1349 + 6 * (k + 1)) (by omega) (by omega) ?_
        exact ih _ _ _ ⟨bz_aA t x r, false, f, A1, A2, o1, c1, rw, co, 0, g, tr, S3, O, bz_aA_ok ht hn hx0 hr4, fun h => absurd h (by decide), hP, hD, hS⟩ (lv_sub hl [0, 1, 2, 3, 4] rfl)
      · skip
        exact absurd rfl c_164
    · skip
      refine lv_aload_n hx hb d_law_100 rfl (lv_at hl 1 rfl) ?_
      refine lv_aload_n hx hb d_law_101 rfl (lv_at hl 0 rfl) ?_
      refine lv_iload hx hb d_law_102 (lv_at hl 4 rfl) ?_
      refine lv_iconst (v := 1) hx hb d_law_104 (by decide) ?_
      refine lv_iadd hx hb d_law_105 ?_
      refine bz_ri (y := nI (4 * k + 1)) (nI_1 _) ?_
      refine bz_sld (j := (4 * k + 1)) hx hb hX hbl hbA hS (by omega) (by omega) d_law_106 ?_
      refine lv_i2l hx hb d_law_107 rfl ?_
      refine lv_bipush (v := 32) hx hb d_law_108 (by decide) ?_
      refine lv_lshl hx hb d_law_110 rfl ?_
      refine lv_aload_n hx hb d_law_111 rfl (lv_at hl 0 rfl) ?_
      refine lv_iload hx hb d_law_112 (lv_at hl 4 rfl) ?_
      refine lv_iconst (v := 2) hx hb d_law_114 (by decide) ?_
      refine lv_iadd hx hb d_law_115 ?_
      refine bz_ri (y := nI (4 * k + 2)) (nI_add _ 2) ?_
      refine bz_sld (j := (4 * k + 2)) hx hb hX hbl hbA hS (by omega) (by omega) d_law_116 ?_
      refine lv_i2l hx hb d_law_117 rfl ?_
      refine lv_ldc2 (v := 4294967295) hx hb hown (htb _ wd_567) d_law_118 ?_
      refine lv_land hx hb d_law_121 ?_
      refine lv_lor hx hb d_law_122 ?_
      refine bz_rl (y := lN x) (hz0.symm) ?_
      refine lv_aload_n hx hb d_law_123 rfl (lv_at hl 0 rfl) ?_
      refine lv_iload hx hb d_law_124 (lv_at hl 4 rfl) ?_
      refine lv_iconst (v := 3) hx hb d_law_126 (by decide) ?_
      refine lv_iadd hx hb d_law_127 ?_
      refine bz_ri (y := nI (4 * k + 3)) (nI_add _ 3) ?_
      refine bz_sld (j := (4 * k + 3)) hx hb hX hbl hbA hS (by omega) (by omega) d_law_128 ?_
      refine bz_ri (y := nI r) (hq1) ?_
      refine bz_si (va_runV (As := [.long (lN x), .int (nI r)]) (rest := []) ⟨hx, hb, hml, hown, htb⟩ (c_B_area_r l dC dI ad cI cL t (fun a => nI (f a), A1, A2, o1, c1) (fun j => nI (rw j), co) (bz_i slv) ht x r hx0 hr4 hn) (cwV 2 htb (bz_gV wd_133 wd_130 wd_131 wd_132 wd_19) rfl rfl rfl (by decide +kernel) ⟨Nat.le_of_ble_eq_true rfl, Nat.le_of_ble_eq_true rfl⟩) (bz_rv hN hK2 (hP.sub (ws' := bz_wB ad cI cL (bz_tR t) (fun a => nI (f a), A1, A2, o1, c1) (fun j => nI (rw j), co) (bz_i slv)) [0, 1, 2, 3, 4, 5, 6, 7, 8, 9, 10, 11, 12] rfl) (q0 := 0) rfl rfl) rfl rfl hl.1 rfl (lv_room (Nat.le_of_ble_eq_true rfl)) d_law_129 ⟨show 23 + k + 0 ≤ 601024 by omega, show 1349 + 6 * k + 0 ≤ 7293034 by omega⟩) ?_
      refine lv_aload_n hx hb d_law_132 rfl (lv_at hl 2 rfl) ?_
      refine lv_aload_n hx hb d_law_133 rfl (lv_at hl 0 rfl) ?_
      refine lv_iload hx hb d_law_134 (lv_at hl 4 rfl) ?_
      refine lv_iconst (v := 1) hx hb d_law_136 (by decide) ?_
      refine lv_iadd hx hb d_law_137 ?_
      refine bz_ri (y := nI (4 * k + 1)) (nI_1 _) ?_
      refine bz_sld (j := (4 * k + 1)) hx hb hX hbl hbA hS (by omega) (by omega) d_law_138 ?_
      refine lv_i2l hx hb d_law_139 rfl ?_
      refine lv_bipush (v := 32) hx hb d_law_140 (by decide) ?_
      refine lv_lshl hx hb d_law_142 rfl ?_
      refine lv_aload_n hx hb d_law_143 rfl (lv_at hl 0 rfl) ?_
      refine lv_iload hx hb d_law_144 (lv_at hl 4 rfl) ?_
      refine lv_iconst (v := 2) hx hb d_law_146 (by decide) ?_
      refine lv_iadd hx hb d_law_147 ?_
      refine bz_ri (y := nI (4 * k + 2)) (nI_add _ 2) ?_
      refine bz_sld (j := (4 * k + 2)) hx hb hX hbl hbA hS (by omega) (by omega) d_law_148 ?_
      refine lv_i2l hx hb d_law_149 rfl ?_
      refine lv_ldc2 (v := 4294967295) hx hb hown (htb _ wd_567) d_law_150 ?_
      refine lv_land hx hb d_law_153 ?_
      refine lv_lor hx hb d_law_154 ?_
      refine bz_rl (y := lN x) (hz0.symm) ?_
      refine lv_aload_n hx hb d_law_155 rfl (lv_at hl 0 rfl) ?_
      refine lv_iload hx hb d_law_156 (lv_at hl 4 rfl) ?_
      refine lv_iconst (v := 3) hx hb d_law_158 (by decide) ?_
      refine lv_iadd hx hb d_law_159 ?_
      refine bz_ri (y := nI (4 * k + 3)) (nI_add _ 3) ?_
      refine bz_sld (j := (4 * k + 3)) hx hb hX hbl hbA hS (by omega) (by omega) d_law_160 ?_
      refine bz_ri (y := nI r) (hq1) ?_
      have hPc := hP.sub (ws' := bz_wM am cI cL cZ (bz_tM t) (th, bz_i slv, bz_i (slv && decide (bz_n t ≤ 8))) (fun a => nI (g a), fun a => nI (tr a), S3)) [13, 14, 15, 16, 17, 18, 19, 20, 21] rfl
      have hDc := hD.sub (ws' := bz_wM am cI cL cZ (bz_tM t) (th, bz_i slv, bz_i (slv && decide (bz_n t ≤ 8))) (fun a => nI (g a), fun a => nI (tr a), S3)) [13, 14, 15, 16, 17, 18, 19, 20, 21] (by decide) rfl
      have hFc := va_free (wc := bz_wM am cI cL cZ (bz_tM t) (th, bz_i slv, bz_i (slv && decide (bz_n t ≤ 8))) (fun a => nI (g a), fun a => nI (tr a), S3)) hD hS hA [13, 14, 15, 16, 17, 18, 19, 20, 21] rfl
      refine va_calli (va_runV (As := [.long (lN x), .int (nI r)]) (rest := [.int (-14)]) ⟨hx, hb, hml, hown, htb⟩ (c_M_area_r l dC dI _ am cI cL cZ t th (bz_i slv) (bz_i (slv && decide (bz_n t ≤ 8))) (fun a => nI (g a)) (fun a => nI (tr a)) S3 ht x r hx0 hr4 hn) (cwV 2 htb (bz_gV wd_456 wd_453 wd_454 wd_455 wd_23) rfl rfl rfl (by decide +kernel) ⟨Nat.le_of_ble_eq_true rfl, Nat.le_of_ble_eq_true rfl⟩) (bz_wv hN hK hPc hDc (q0 := 0) rfl rfl) rfl rfl hl.1 rfl (lv_room (Nat.le_of_ble_eq_true rfl)) d_law_161 ⟨show 23 + k + 0 ≤ 601024 by omega, show 1349 + 6 * k + 0 ≤ 7293034 by omega⟩) hS (fun q _ h => hFc q h) hFc (fun r9 w t9 H locs ht9 hvm hw9 hB9 hz9 hk9 hS => ?_)
      obtain ⟨hP1, hK1, hD1⟩ := hB9
      rw [ht9] at hP1
      obtain ⟨hP, hD⟩ := bz_jM hP hD hk9 hFc hP1 hD1
      obtain rfl : r9 = (-14) := hw9
      have hP : va_P (dC, dI) vwCl (bz_wB ad cI cL (bz_tR t) (fun a => nI (f a), A1, A2, o1, c1) (fun j => nI (rw j), co) (bz_i slv) ++ (bz_wM am cI cL cZ (bz_tM t) (0, bz_i slv, bz_i (slv && decide (bz_n t ≤ 8))) (fun a => nI (g a), fun a => nI (tr a), S3) ++ [(qo, .inl (cL, 1, .inr (.inl O)))])) H := hP
      have hD : va_D (fun q : Nat => s.heap.size ≤ q) (bz_wB ad cI cL (bz_tR t) (fun a => nI (f a), A1, A2, o1, c1) (fun j => nI (rw j), co) (bz_i slv) ++ (bz_wM am cI cL cZ (bz_tM t) (0, bz_i slv, bz_i (slv && decide (bz_n t ≤ 8))) (fun a => nI (g a), fun a => nI (tr a), S3) ++ [(qo, .inl (cL, 1, .inr (.inl O)))])) := hD
      refine lv_icmp_eq (tgt := 564) hx hb d_law_164 (by decide) (fun c_164 => ?_) (fun c_164 => ?_)
      · skip
        refine W.widen (k := 23 + (k + 1)) (n := 1349 + 6 * (k + 1)) (by omega) (by omega) ?_
        exact ih _ _ _ ⟨t, slv, f, A1, A2, o1, c1, rw, co, 0, g, tr, S3, O, ht, hR, hP, hD, hS⟩ (lv_sub hl [0, 1, 2, 3, 4] rfl)
      · skip
        exact absurd rfl c_164
  · skip
    refine lv_aload_n hx hb d_law_100 rfl (lv_at hl 1 rfl) ?_
    refine lv_aload_n hx hb d_law_101 rfl (lv_at hl 0 rfl) ?_
    refine lv_iload hx hb d_law_102 (lv_at hl 4 rfl) ?_
    refine lv_iconst (v := 1) hx hb d_law_104 (by decide) ?_
    refine lv_iadd hx hb d_law_105 ?_
    refine bz_ri (y := nI (4 * k + 1)) (nI_1 _) ?_
    refine bz_sld (j := (4 * k + 1)) hx hb hX hbl hbA hS (by omega) (by omega) d_law_106 ?_
    refine lv_i2l hx hb d_law_107 rfl ?_
    refine lv_bipush (v := 32) hx hb d_law_108 (by decide) ?_
    refine lv_lshl hx hb d_law_110 rfl ?_
    refine lv_aload_n hx hb d_law_111 rfl (lv_at hl 0 rfl) ?_
    refine lv_iload hx hb d_law_112 (lv_at hl 4 rfl) ?_
    refine lv_iconst (v := 2) hx hb d_law_114 (by decide) ?_
    refine lv_iadd hx hb d_law_115 ?_
    refine bz_ri (y := nI (4 * k + 2)) (nI_add _ 2) ?_
    refine bz_sld (j := (4 * k + 2)) hx hb hX hbl hbA hS (by omega) (by omega) d_law_116 ?_
    refine lv_i2l hx hb d_law_117 rfl ?_
    refine lv_ldc2 (v := 4294967295) hx hb hown (htb _ wd_567) d_law_118 ?_
    refine lv_land hx hb d_law_121 ?_
    refine lv_lor hx hb d_law_122 ?_
    refine bz_rl (y := z) (hz0.symm) ?_
    refine lv_aload_n hx hb d_law_123 rfl (lv_at hl 0 rfl) ?_
    refine lv_iload hx hb d_law_124 (lv_at hl 4 rfl) ?_
    refine lv_iconst (v := 3) hx hb d_law_126 (by decide) ?_
    refine lv_iadd hx hb d_law_127 ?_
    refine bz_ri (y := nI (4 * k + 3)) (nI_add _ 3) ?_
    refine bz_sld (j := (4 * k + 3)) hx hb hX hbl hbA hS (by omega) (by omega) d_law_128 ?_
    refine bz_si (va_runV (As := [.long z, .int (xs (4 * k + 3))]) (rest := []) ⟨hx, hb, hml, hown, htb⟩ (c_B_area_o l dC dI ad cI cL t (fun a => nI (f a), A1, A2, o1, c1) (fun j => nI (rw j), co) (bz_i slv) ht z _ hz) (cwV 2 htb (bz_gV wd_133 wd_130 wd_131 wd_132 wd_19) rfl rfl rfl (by decide +kernel) ⟨Nat.le_of_ble_eq_true rfl, Nat.le_of_ble_eq_true rfl⟩) (bz_rv hN hK2 (hP.sub (ws' := bz_wB ad cI cL (bz_tR t) (fun a => nI (f a), A1, A2, o1, c1) (fun j => nI (rw j), co) (bz_i slv)) [0, 1, 2, 3, 4, 5, 6, 7, 8, 9, 10, 11, 12] rfl) (q0 := 0) rfl rfl) rfl rfl hl.1 rfl (lv_room (Nat.le_of_ble_eq_true rfl)) d_law_129 ⟨show 23 + k + 0 ≤ 601024 by omega, show 1349 + 6 * k + 0 ≤ 7293034 by omega⟩) ?_
    refine lv_aload_n hx hb d_law_132 rfl (lv_at hl 2 rfl) ?_
    refine lv_aload_n hx hb d_law_133 rfl (lv_at hl 0 rfl) ?_
    refine lv_iload hx hb d_law_134 (lv_at hl 4 rfl) ?_
    refine lv_iconst (v := 1) hx hb d_law_136 (by decide) ?_
    refine lv_iadd hx hb d_law_137 ?_
    refine bz_ri (y := nI (4 * k + 1)) (nI_1 _) ?_
    refine bz_sld (j := (4 * k + 1)) hx hb hX hbl hbA hS (by omega) (by omega) d_law_138 ?_
    refine lv_i2l hx hb d_law_139 rfl ?_
    refine lv_bipush (v := 32) hx hb d_law_140 (by decide) ?_
    refine lv_lshl hx hb d_law_142 rfl ?_
    refine lv_aload_n hx hb d_law_143 rfl (lv_at hl 0 rfl) ?_
    refine lv_iload hx hb d_law_144 (lv_at hl 4 rfl) ?_
    refine lv_iconst (v := 2) hx hb d_law_146 (by decide) ?_
    refine lv_iadd hx hb d_law_147 ?_
    refine bz_ri (y := nI (4 * k + 2)) (nI_add _ 2) ?_
    refine bz_sld (j := (4 * k + 2)) hx hb hX hbl hbA hS (by omega) (by omega) d_law_148 ?_
    refine lv_i2l hx hb d_law_149 rfl ?_
    refine lv_ldc2 (v := 4294967295) hx hb hown (htb _ wd_567) d_law_150 ?_
    refine lv_land hx hb d_law_153 ?_
    refine lv_lor hx hb d_law_154 ?_
    refine bz_rl (y := z) (hz0.symm) ?_
    refine lv_aload_n hx hb d_law_155 rfl (lv_at hl 0 rfl) ?_
    refine lv_iload hx hb d_law_156 (lv_at hl 4 rfl) ?_
    refine lv_iconst (v := 3) hx hb d_law_158 (by decide) ?_
    refine lv_iadd hx hb d_law_159 ?_
    refine bz_ri (y := nI (4 * k + 3)) (nI_add _ 3) ?_
    refine bz_sld (j := (4 * k + 3)) hx hb hX hbl hbA hS (by omega) (by omega) d_law_160 ?_
    have hPc := hP.sub (ws' := bz_wM am cI cL cZ (bz_tM t) (th, bz_i slv, bz_i (slv && decide (bz_n t ≤ 8))) (fun a => nI (g a), fun a => nI (tr a), S3)) [13, 14, 15, 16, 17, 18, 19, 20, 21] rfl
    have hDc := hD.sub (ws' := bz_wM am cI cL cZ (bz_tM t) (th, bz_i slv, bz_i (slv && decide (bz_n t ≤ 8))) (fun a => nI (g a), fun a => nI (tr a), S3)) [13, 14, 15, 16, 17, 18, 19, 20, 21] (by decide) rfl
    have hFc := va_free (wc := bz_wM am cI cL cZ (bz_tM t) (th, bz_i slv, bz_i (slv && decide (bz_n t ≤ 8))) (fun a => nI (g a), fun a => nI (tr a), S3)) hD hS hA [13, 14, 15, 16, 17, 18, 19, 20, 21] rfl
    refine va_calli (va_runV (As := [.long z, .int (xs (4 * k + 3))]) (rest := [.int (-12)]) ⟨hx, hb, hml, hown, htb⟩ (c_M_area_o l dC dI _ am cI cL cZ t th (bz_i slv) (bz_i (slv && decide (bz_n t ≤ 8))) (fun a => nI (g a)) (fun a => nI (tr a)) S3 ht z _ hz) (cwV 2 htb (bz_gV wd_456 wd_453 wd_454 wd_455 wd_23) rfl rfl rfl (by decide +kernel) ⟨Nat.le_of_ble_eq_true rfl, Nat.le_of_ble_eq_true rfl⟩) (bz_wv hN hK hPc hDc (q0 := 0) rfl rfl) rfl rfl hl.1 rfl (lv_room (Nat.le_of_ble_eq_true rfl)) d_law_161 ⟨show 23 + k + 0 ≤ 601024 by omega, show 1349 + 6 * k + 0 ≤ 7293034 by omega⟩) hS (fun q _ h => hFc q h) hFc (fun r9 w t9 H locs ht9 hvm hw9 hB9 hz9 hk9 hS => ?_)
    obtain ⟨hP1, hK1, hD1⟩ := hB9
    rw [ht9] at hP1
    obtain ⟨hP, hD⟩ := bz_jM hP hD hk9 hFc hP1 hD1
    obtain rfl : r9 = (-12) := hw9
    have hP : va_P (dC, dI) vwCl (bz_wB ad cI cL (bz_tR t) (fun a => nI (f a), A1, A2, o1, c1) (fun j => nI (rw j), co) (bz_i slv) ++ (bz_wM am cI cL cZ (bz_tM t) (0, bz_i slv, bz_i (slv && decide (bz_n t ≤ 8))) (fun a => nI (g a), fun a => nI (tr a), S3) ++ [(qo, .inl (cL, 1, .inr (.inl O)))])) H := hP
    have hD : va_D (fun q : Nat => s.heap.size ≤ q) (bz_wB ad cI cL (bz_tR t) (fun a => nI (f a), A1, A2, o1, c1) (fun j => nI (rw j), co) (bz_i slv) ++ (bz_wM am cI cL cZ (bz_tM t) (0, bz_i slv, bz_i (slv && decide (bz_n t ≤ 8))) (fun a => nI (g a), fun a => nI (tr a), S3) ++ [(qo, .inl (cL, 1, .inr (.inl O)))])) := hD
    refine lv_icmp_eq (tgt := 564) hx hb d_law_164 (by decide) (fun c_164 => ?_) (fun c_164 => ?_)
    · skip
      refine W.widen (k := 23 + (k + 1)) (n := 1349 + 6 * (k + 1)) (by omega) (by omega) ?_
      exact ih _ _ _ ⟨t, slv, f, A1, A2, o1, c1, rw, co, 0, g, tr, S3, O, ht, hR, hP, hD, hS⟩ (lv_sub hl [0, 1, 2, 3, 4] rfl)
    · skip
      exact absurd rfl c_164
