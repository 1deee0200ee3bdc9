theorem dX12_nextToken_153 : decode cX12_nextToken 153 = .ok (.putfield 151, 3) := by decide +kernel
theorem dX12_nextToken_156 : decode cX12_nextToken 156 = .ok (.aload_n 0, 1) := by decide +kernel
theorem dX12_nextToken_157 : decode cX12_nextToken 157 = .ok (.lconst 0, 1) := by decide +kernel
theorem dX12_nextToken_158 : decode cX12_nextToken 158 = .ok (.putfield 164, 3) := by decide +kernel
theorem dX12_nextToken_161 : decode cX12_nextToken 161 = .ok (.aload_n 0, 1) := by decide +kernel
theorem dX12_nextToken_162 : decode cX12_nextToken 162 = .ok (.aload_n 0, 1) := by decide +kernel
theorem dX12_nextToken_163 : decode cX12_nextToken 163 = .ok (.getfield 142, 3) := by decide +kernel
theorem dX12_nextToken_166 : decode cX12_nextToken 166 = .ok (.invokevirtual 145, 3) := by decide +kernel
theorem dX12_nextToken_169 : decode cX12_nextToken 169 = .ok (.invokestatic 161, 3) := by decide +kernel
theorem dX12_nextToken_172 : decode cX12_nextToken 172 = .ok (.ifCond .eq 51, 3) := by decide +kernel
theorem dX12_nextToken_175 : decode cX12_nextToken 175 = .ok (.aload_n 0, 1) := by decide +kernel
theorem dX12_nextToken_176 : decode cX12_nextToken 176 = .ok (.getfield 142, 3) := by decide +kernel
theorem dX12_nextToken_179 : decode cX12_nextToken 179 = .ok (.aload_n 0, 1) := by decide +kernel
theorem dX12_nextToken_180 : decode cX12_nextToken 180 = .ok (.getfield 148, 3) := by decide +kernel
theorem dX12_nextToken_183 : decode cX12_nextToken 183 = .ok (.isub, 1) := by decide +kernel
theorem dX12_nextToken_184 : decode cX12_nextToken 184 = .ok (.bipush 6, 2) := by decide +kernel
theorem dX12_nextToken_186 : decode cX12_nextToken 186 = .ok (.if_icmp .ge 24, 3) := by decide +kernel
theorem dX12_nextToken_189 : decode cX12_nextToken 189 = .ok (.aload_n 0, 1) := by decide +kernel
theorem dX12_nextToken_190 : decode cX12_nextToken 190 = .ok (.aload_n 0, 1) := by decide +kernel
theorem dX12_nextToken_191 : decode cX12_nextToken 191 = .ok (.getfield 164, 3) := by decide +kernel
theorem dX12_nextToken_194 : decode cX12_nextToken 194 = .ok (.bipush 8, 2) := by decide +kernel
theorem dX12_nextToken_196 : decode cX12_nextToken 196 = .ok (.lshl, 1) := by decide +kernel
theorem dX12_nextToken_197 : decode cX12_nextToken 197 = .ok (.aload_n 0, 1) := by decide +kernel
theorem dX12_nextToken_198 : decode cX12_nextToken 198 = .ok (.aload_n 0, 1) := by decide +kernel
theorem dX12_nextToken_199 : decode cX12_nextToken 199 = .ok (.getfield 142, 3) := by decide +kernel
theorem dX12_nextToken_202 : decode cX12_nextToken 202 = .ok (.invokevirtual 145, 3) := by decide +kernel
theorem dX12_nextToken_205 : decode cX12_nextToken 205 = .ok (.i2l, 1) := by decide +kernel
theorem dX12_nextToken_206 : decode cX12_nextToken 206 = .ok (.lor, 1) := by decide +kernel
theorem dX12_nextToken_207 : decode cX12_nextToken 207 = .ok (.putfield 164, 3) := by decide +kernel
theorem dX12_nextToken_210 : decode cX12_nextToken 210 = .ok (.aload_n 0, 1) := by decide +kernel
theorem dX12_nextToken_211 : decode cX12_nextToken 211 = .ok (.dup, 1) := by decide +kernel
theorem dX12_nextToken_212 : decode cX12_nextToken 212 = .ok (.getfield 142, 3) := by decide +kernel
theorem dX12_nextToken_215 : decode cX12_nextToken 215 = .ok (.iconst 1, 1) := by decide +kernel
theorem dX12_nextToken_216 : decode cX12_nextToken 216 = .ok (.iadd, 1) := by decide +kernel
theorem dX12_nextToken_217 : decode cX12_nextToken 217 = .ok (.putfield 142, 3) := by decide +kernel
theorem dX12_nextToken_220 : decode cX12_nextToken 220 = .ok (.goto (-59), 3) := by decide +kernel
theorem dX12_nextToken_223 : decode cX12_nextToken 223 = .ok (.aload_n 0, 1) := by decide +kernel
theorem dX12_nextToken_224 : decode cX12_nextToken 224 = .ok (.getfield 142, 3) := by decide +kernel
theorem dX12_nextToken_227 : decode cX12_nextToken 227 = .ok (.aload_n 0, 1) := by decide +kernel
theorem dX12_nextToken_228 : decode cX12_nextToken 228 = .ok (.getfield 148, 3) := by decide +kernel
theorem dX12_nextToken_231 : decode cX12_nextToken 231 = .ok (.isub, 1) := by decide +kernel
theorem dX12_nextToken_232 : decode cX12_nextToken 232 = .ok (.bipush 6, 2) := by decide +kernel
theorem dX12_nextToken_234 : decode cX12_nextToken 234 = .ok (.if_icmp .le 162, 3) := by decide +kernel
theorem dX12_nextToken_237 : decode cX12_nextToken 237 = .ok (.aload_n 0, 1) := by decide +kernel
theorem dX12_nextToken_238 : decode cX12_nextToken 238 = .ok (.lconst 0, 1) := by decide +kernel
theorem dX12_nextToken_239 : decode cX12_nextToken 239 = .ok (.putfield 164, 3) := by decide +kernel
theorem dX12_nextToken_242 : decode cX12_nextToken 242 = .ok (.goto 154, 3) := by decide +kernel
theorem dX12_nextToken_245 : decode cX12_nextToken 245 = .ok (.aload_n 0, 1) := by decide +kernel
theorem dX12_nextToken_246 : decode cX12_nextToken 246 = .ok (.dup, 1) := by decide +kernel
theorem dX12_nextToken_247 : decode cX12_nextToken 247 = .ok (.getfield 142, 3) := by decide +kernel
theorem dX12_nextToken_250 : decode cX12_nextToken 250 = .ok (.iconst 1, 1) := by decide +kernel
theorem dX12_nextToken_251 : decode cX12_nextToken 251 = .ok (.iadd, 1) := by decide +kernel
theorem dX12_nextToken_252 : decode cX12_nextToken 252 = .ok (.putfield 142, 3) := by decide +kernel
theorem dX12_nextToken_255 : decode cX12_nextToken 255 = .ok (.iload_n 1, 1) := by decide +kernel
theorem dX12_nextToken_256 : decode cX12_nextToken 256 = .ok (.bipush 60, 2) := by decide +kernel
theorem dX12_nextToken_258 : decode cX12_nextToken 258 = .ok (.if_icmp .eq 69, 3) := by decide +kernel
theorem dX12_nextToken_261 : decode cX12_nextToken 261 = .ok (.iload_n 1, 1) := by decide +kernel
theorem dX12_nextToken_262 : decode cX12_nextToken 262 = .ok (.bipush 62, 2) := by decide +kernel
theorem dX12_nextToken_264 : decode cX12_nextToken 264 = .ok (.if_icmp .eq 63, 3) := by decide +kernel
theorem dX12_nextToken_267 : decode cX12_nextToken 267 = .ok (.iload_n 1, 1) := by decide +kernel
theorem dX12_nextToken_268 : decode cX12_nextToken 268 = .ok (.bipush 61, 2) := by decide +kernel
theorem dX12_nextToken_270 : decode cX12_nextToken 270 = .ok (.if_icmp .eq 57, 3) := by decide +kernel
theorem dX12_nextToken_273 : decode cX12_nextToken 273 = .ok (.iload_n 1, 1) := by decide +kernel
theorem dX12_nextToken_274 : decode cX12_nextToken 274 = .ok (.bipush 35, 2) := by decide +kernel
theorem dX12_nextToken_276 : decode cX12_nextToken 276 = .ok (.if_icmp .eq 51, 3) := by decide +kernel
theorem dX12_nextToken_279 : decode cX12_nextToken 279 = .ok (.iload_n 1, 1) := by decide +kernel
theorem dX12_nextToken_280 : decode cX12_nextToken 280 = .ok (.bipush 43, 2) := by decide +kernel
theorem dX12_nextToken_282 : decode cX12_nextToken 282 = .ok (.if_icmp .eq 45, 3) := by decide +kernel
theorem dX12_nextToken_285 : decode cX12_nextToken 285 = .ok (.iload_n 1, 1) := by decide +kernel
theorem dX12_nextToken_286 : decode cX12_nextToken 286 = .ok (.bipush 45, 2) := by decide +kernel
theorem dX12_nextToken_288 : decode cX12_nextToken 288 = .ok (.if_icmp .eq 39, 3) := by decide +kernel
theorem dX12_nextToken_291 : decode cX12_nextToken 291 = .ok (.iload_n 1, 1) := by decide +kernel
theorem dX12_nextToken_292 : decode cX12_nextToken 292 = .ok (.bipush 42, 2) := by decide +kernel
theorem dX12_nextToken_294 : decode cX12_nextToken 294 = .ok (.if_icmp .eq 33, 3) := by decide +kernel
theorem dX12_nextToken_297 : decode cX12_nextToken 297 = .ok (.iload_n 1, 1) := by decide +kernel
theorem dX12_nextToken_298 : decode cX12_nextToken 298 = .ok (.bipush 47, 2) := by decide +kernel
theorem dX12_nextToken_300 : decode cX12_nextToken 300 = .ok (.if_icmp .eq 27, 3) := by decide +kernel
theorem dX12_nextToken_303 : decode cX12_nextToken 303 = .ok (.iload_n 1, 1) := by decide +kernel
theorem dX12_nextToken_304 : decode cX12_nextToken 304 = .ok (.bipush 40, 2) := by decide +kernel
theorem dX12_nextToken_306 : decode cX12_nextToken 306 = .ok (.if_icmp .eq 21, 3) := by decide +kernel
theorem dX12_nextToken_309 : decode cX12_nextToken 309 = .ok (.iload_n 1, 1) := by decide +kernel
theorem dX12_nextToken_310 : decode cX12_nextToken 310 = .ok (.bipush 41, 2) := by decide +kernel
theorem dX12_nextToken_312 : decode cX12_nextToken 312 = .ok (.if_icmp .eq 15, 3) := by decide +kernel
theorem dX12_nextToken_315 : decode cX12_nextToken 315 = .ok (.iload_n 1, 1) := by decide +kernel
theorem dX12_nextToken_316 : decode cX12_nextToken 316 = .ok (.bipush 44, 2) := by decide +kernel
theorem dX12_nextToken_318 : decode cX12_nextToken 318 = .ok (.if_icmp .eq 9, 3) := by decide +kernel
theorem dX12_nextToken_321 : decode cX12_nextToken 321 = .ok (.iload_n 1, 1) := by decide +kernel
theorem dX12_nextToken_322 : decode cX12_nextToken 322 = .ok (.bipush 59, 2) := by decide +kernel
theorem dX12_nextToken_324 : decode cX12_nextToken 324 = .ok (.if_icmp .ne 7, 3) := by decide +kernel
theorem dX12_nextToken_327 : decode cX12_nextToken 327 = .ok (.iconst 1, 1) := by decide +kernel
theorem dX12_nextToken_328 : decode cX12_nextToken 328 = .ok (.goto 4, 3) := by decide +kernel
theorem dX12_nextToken_331 : decode cX12_nextToken 331 = .ok (.iconst 0, 1) := by decide +kernel
theorem dX12_nextToken_332 : decode cX12_nextToken 332 = .ok (.istore_n 2, 1) := by decide +kernel
theorem dX12_nextToken_333 : decode cX12_nextToken 333 = .ok (.aload_n 0, 1) := by decide +kernel
theorem dX12_nextToken_334 : decode cX12_nextToken 334 = .ok (.iload_n 2, 1) := by decide +kernel
theorem dX12_nextToken_335 : decode cX12_nextToken 335 = .ok (.ifCond .eq 7, 3) := by decide +kernel
theorem dX12_nextToken_338 : decode cX12_nextToken 338 = .ok (.iload_n 1, 1) := by decide +kernel
theorem dX12_nextToken_339 : decode cX12_nextToken 339 = .ok (.goto 4, 3) := by decide +kernel
theorem dX12_nextToken_342 : decode cX12_nextToken 342 = .ok (.iconst 3, 1) := by decide +kernel
theorem dX12_nextToken_343 : decode cX12_nextToken 343 = .ok (.putfield 151, 3) := by decide +kernel
theorem dX12_nextToken_346 : decode cX12_nextToken 346 = .ok (.iload_n 1, 1) := by decide +kernel
theorem dX12_nextToken_347 : decode cX12_nextToken 347 = .ok (.bipush 60, 2) := by decide +kernel
theorem dX12_nextToken_349 : decode cX12_nextToken 349 = .ok (.if_icmp .eq 9, 3) := by decide +kernel
theorem dX12_nextToken_352 : decode cX12_nextToken 352 = .ok (.iload_n 1, 1) := by decide +kernel
theorem dX12_nextToken_353 : decode cX12_nextToken 353 = .ok (.bipush 62, 2) := by decide +kernel
theorem dX12_nextToken_355 : decode cX12_nextToken 355 = .ok (.if_icmp .ne 41, 3) := by decide +kernel
theorem dX12_nextToken_358 : decode cX12_nextToken 358 = .ok (.aload_n 0, 1) := by decide +kernel
theorem dX12_nextToken_359 : decode cX12_nextToken 359 = .ok (.aload_n 0, 1) := by decide +kernel
theorem dX12_nextToken_360 : decode cX12_nextToken 360 = .ok (.getfield 142, 3) := by decide +kernel
theorem dX12_nextToken_363 : decode cX12_nextToken 363 = .ok (.invokevirtual 145, 3) := by decide +kernel
theorem dX12_nextToken_366 : decode cX12_nextToken 366 = .ok (.bipush 61, 2) := by decide +kernel
theorem dX12_nextToken_368 : decode cX12_nextToken 368 = .ok (.if_icmp .ne 28, 3) := by decide +kernel
theorem dX12_nextToken_371 : decode cX12_nextToken 371 = .ok (.aload_n 0, 1) := by decide +kernel
theorem dX12_nextToken_372 : decode cX12_nextToken 372 = .ok (.dup, 1) := by decide +kernel
theorem dX12_nextToken_373 : decode cX12_nextToken 373 = .ok (.getfield 142, 3) := by decide +kernel
theorem dX12_nextToken_376 : decode cX12_nextToken 376 = .ok (.iconst 1, 1) := by decide +kernel
theorem dX12_nextToken_377 : decode cX12_nextToken 377 = .ok (.iadd, 1) := by decide +kernel
theorem dX12_nextToken_378 : decode cX12_nextToken 378 = .ok (.putfield 142, 3) := by decide +kernel
theorem dX12_nextToken_381 : decode cX12_nextToken 381 = .ok (.aload_n 0, 1) := by decide +kernel
theorem dX12_nextToken_382 : decode cX12_nextToken 382 = .ok (.iload_n 1, 1) := by decide +kernel
theorem dX12_nextToken_383 : decode cX12_nextToken 383 = .ok (.bipush 60, 2) := by decide +kernel
theorem dX12_nextToken_385 : decode cX12_nextToken 385 = .ok (.if_icmp .ne 7, 3) := by decide +kernel
theorem dX12_nextToken_388 : decode cX12_nextToken 388 = .ok (.iconst 4, 1) := by decide +kernel
theorem dX12_nextToken_389 : decode cX12_nextToken 389 = .ok (.goto 4, 3) := by decide +kernel
theorem dX12_nextToken_392 : decode cX12_nextToken 392 = .ok (.iconst 5, 1) := by decide +kernel
theorem dX12_nextToken_393 : decode cX12_nextToken 393 = .ok (.putfield 151, 3) := by decide +kernel
theorem dX12_nextToken_396 : decode cX12_nextToken 396 = .ok (.return_, 1) := by decide +kernel
theorem dX12_w3_0 : decode cX12_w3 0 = .ok (.iload_n 0, 1) := by decide +kernel
theorem dX12_w3_1 : decode cX12_w3 1 = .ok (.i2l, 1) := by decide +kernel
theorem dX12_w3_2 : decode cX12_w3 2 = .ok (.bipush 8, 2) := by decide +kernel
theorem dX12_w3_4 : decode cX12_w3 4 = .ok (.lshl, 1) := by decide +kernel
theorem dX12_w3_5 : decode cX12_w3 5 = .ok (.iload_n 1, 1) := by decide +kernel
theorem dX12_w3_6 : decode cX12_w3 6 = .ok (.i2l, 1) := by decide +kernel
theorem dX12_w3_7 : decode cX12_w3 7 = .ok (.lor, 1) := by decide +kernel
theorem dX12_w3_8 : decode cX12_w3 8 = .ok (.bipush 8, 2) := by decide +kernel
theorem dX12_w3_10 : decode cX12_w3 10 = .ok (.lshl, 1) := by decide +kernel
theorem dX12_w3_11 : decode cX12_w3 11 = .ok (.iload_n 2, 1) := by decide +kernel
theorem dX12_w3_12 : decode cX12_w3 12 = .ok (.i2l, 1) := by decide +kernel
theorem dX12_w3_13 : decode cX12_w3 13 = .ok (.lor, 1) := by decide +kernel
theorem dX12_w3_14 : decode cX12_w3 14 = .ok (.lreturn, 1) := by decide +kernel
theorem dX12_w4_0 : decode cX12_w4 0 = .ok (.iload_n 0, 1) := by decide +kernel
theorem dX12_w4_1 : decode cX12_w4 1 = .ok (.iload_n 1, 1) := by decide +kernel
theorem dX12_w4_2 : decode cX12_w4 2 = .ok (.iload_n 2, 1) := by decide +kernel
theorem dX12_w4_3 : decode cX12_w4 3 = .ok (.invokestatic 168, 3) := by decide +kernel
theorem dX12_w4_6 : decode cX12_w4 6 = .ok (.bipush 8, 2) := by decide +kernel
theorem dX12_w4_8 : decode cX12_w4 8 = .ok (.lshl, 1) := by decide +kernel
theorem dX12_w4_9 : decode cX12_w4 9 = .ok (.iload_n 3, 1) := by decide +kernel
theorem dX12_w4_10 : decode cX12_w4 10 = .ok (.i2l, 1) := by decide +kernel
theorem dX12_w4_11 : decode cX12_w4 11 = .ok (.lor, 1) := by decide +kernel
theorem dX12_w4_12 : decode cX12_w4 12 = .ok (.lreturn, 1) := by decide +kernel
theorem dX12_isWord_0 : decode cX12_isWord 0 = .ok (.aload_n 0, 1) := by decide +kernel
theorem dX12_isWord_1 : decode cX12_isWord 1 = .ok (.getfield 151, 3) := by decide +kernel
theorem dX12_isWord_4 : decode cX12_isWord 4 = .ok (.iconst 2, 1) := by decide +kernel
theorem dX12_isWord_5 : decode cX12_isWord 5 = .ok (.if_icmp .ne 16, 3) := by decide +kernel
theorem dX12_isWord_8 : decode cX12_isWord 8 = .ok (.aload_n 0, 1) := by decide +kernel
theorem dX12_isWord_9 : decode cX12_isWord 9 = .ok (.getfield 164, 3) := by decide +kernel
theorem dX12_isWord_12 : decode cX12_isWord 12 = .ok (.lload_n 1, 1) := by decide +kernel
theorem dX12_isWord_13 : decode cX12_isWord 13 = .ok (.lcmp, 1) := by decide +kernel
theorem dX12_isWord_14 : decode cX12_isWord 14 = .ok (.ifCond .ne 7, 3) := by decide +kernel
theorem dX12_isWord_17 : decode cX12_isWord 17 = .ok (.iconst 1, 1) := by decide +kernel
theorem dX12_isWord_18 : decode cX12_isWord 18 = .ok (.goto 4, 3) := by decide +kernel
theorem dX12_isWord_21 : decode cX12_isWord 21 = .ok (.iconst 0, 1) := by decide +kernel
theorem dX12_isWord_22 : decode cX12_isWord 22 = .ok (.ireturn, 1) := by decide +kernel
theorem dX12_emit_0 : decode cX12_emit 0 = .ok (.aload_n 0, 1) := by decide +kernel
theorem dX12_emit_1 : decode cX12_emit 1 = .ok (.getfield 16, 3) := by decide +kernel
theorem dX12_emit_4 : decode cX12_emit 4 = .ok (.aload_n 0, 1) := by decide +kernel
theorem dX12_emit_5 : decode cX12_emit 5 = .ok (.getfield 176, 3) := by decide +kernel
theorem dX12_emit_8 : decode cX12_emit 8 = .ok (.bipush 80, 2) := by decide +kernel
theorem dX12_emit_10 : decode cX12_emit 10 = .ok (.iadd, 1) := by decide +kernel
theorem dX12_emit_11 : decode cX12_emit 11 = .ok (.iconst 2, 1) := by decide +kernel
theorem dX12_emit_12 : decode cX12_emit 12 = .ok (.aload_n 0, 1) := by decide +kernel
theorem dX12_emit_13 : decode cX12_emit 13 = .ok (.getfield 179, 3) := by decide +kernel
theorem dX12_emit_16 : decode cX12_emit 16 = .ok (.imul, 1) := by decide +kernel
theorem dX12_emit_17 : decode cX12_emit 17 = .ok (.iadd, 1) := by decide +kernel
theorem dX12_emit_18 : decode cX12_emit 18 = .ok (.iload_n 1, 1) := by decide +kernel
theorem dX12_emit_19 : decode cX12_emit 19 = .ok (.iastore, 1) := by decide +kernel
theorem dX12_emit_20 : decode cX12_emit 20 = .ok (.aload_n 0, 1) := by decide +kernel
theorem dX12_emit_21 : decode cX12_emit 21 = .ok (.getfield 16, 3) := by decide +kernel
theorem dX12_emit_24 : decode cX12_emit 24 = .ok (.aload_n 0, 1) := by decide +kernel
theorem dX12_emit_25 : decode cX12_emit 25 = .ok (.getfield 176, 3) := by decide +kernel
theorem dX12_emit_28 : decode cX12_emit 28 = .ok (.bipush 80, 2) := by decide +kernel
theorem dX12_emit_30 : decode cX12_emit 30 = .ok (.iadd, 1) := by decide +kernel
theorem dX12_emit_31 : decode cX12_emit 31 = .ok (.iconst 2, 1) := by decide +kernel
theorem dX12_emit_32 : decode cX12_emit 32 = .ok (.aload_n 0, 1) := by decide +kernel
theorem dX12_emit_33 : decode cX12_emit 33 = .ok (.getfield 179, 3) := by decide +kernel
theorem dX12_emit_36 : decode cX12_emit 36 = .ok (.imul, 1) := by decide +kernel
theorem dX12_emit_37 : decode cX12_emit 37 = .ok (.iadd, 1) := by decide +kernel
theorem dX12_emit_38 : decode cX12_emit 38 = .ok (.iconst 1, 1) := by decide +kernel
theorem dX12_emit_39 : decode cX12_emit 39 = .ok (.iadd, 1) := by decide +kernel
theorem dX12_emit_40 : decode cX12_emit 40 = .ok (.iload_n 2, 1) := by decide +kernel
theorem dX12_emit_41 : decode cX12_emit 41 = .ok (.iastore, 1) := by decide +kernel
theorem dX12_emit_42 : decode cX12_emit 42 = .ok (.aload_n 0, 1) := by decide +kernel
theorem dX12_emit_43 : decode cX12_emit 43 = .ok (.dup, 1) := by decide +kernel
theorem dX12_emit_44 : decode cX12_emit 44 = .ok (.getfield 179, 3) := by decide +kernel
theorem dX12_emit_47 : decode cX12_emit 47 = .ok (.iconst 1, 1) := by decide +kernel
theorem dX12_emit_48 : decode cX12_emit 48 = .ok (.iadd, 1) := by decide +kernel
theorem dX12_emit_49 : decode cX12_emit 49 = .ok (.putfield 179, 3) := by decide +kernel
theorem dX12_emit_52 : decode cX12_emit 52 = .ok (.return_, 1) := by decide +kernel
theorem dX12_push_0 : decode cX12_push 0 = .ok (.aload_n 0, 1) := by decide +kernel
theorem dX12_push_1 : decode cX12_push 1 = .ok (.getfield 41, 3) := by decide +kernel
theorem dX12_push_4 : decode cX12_push 4 = .ok (.aload_n 0, 1) := by decide +kernel
theorem dX12_push_5 : decode cX12_push 5 = .ok (.getfield 182, 3) := by decide +kernel
theorem dX12_push_8 : decode cX12_push 8 = .ok (.iload_n 1, 1) := by decide +kernel
theorem dX12_push_9 : decode cX12_push 9 = .ok (.iastore, 1) := by decide +kernel
theorem dX12_push_10 : decode cX12_push 10 = .ok (.aload_n 0, 1) := by decide +kernel
theorem dX12_push_11 : decode cX12_push 11 = .ok (.dup, 1) := by decide +kernel
theorem dX12_push_12 : decode cX12_push 12 = .ok (.getfield 182, 3) := by decide +kernel
theorem dX12_push_15 : decode cX12_push 15 = .ok (.iconst 1, 1) := by decide +kernel
theorem dX12_push_16 : decode cX12_push 16 = .ok (.iadd, 1) := by decide +kernel
theorem dX12_push_17 : decode cX12_push 17 = .ok (.putfield 182, 3) := by decide +kernel
theorem dX12_push_20 : decode cX12_push 20 = .ok (.return_, 1) := by decide +kernel
theorem dX12_whole_0 : decode cX12_whole 0 = .ok (.aload_n 0, 1) := by decide +kernel
theorem dX12_whole_1 : decode cX12_whole 1 = .ok (.iconst 1, 1) := by decide +kernel
theorem dX12_whole_2 : decode cX12_whole 2 = .ok (.putfield 185, 3) := by decide +kernel
theorem dX12_whole_5 : decode cX12_whole 5 = .ok (.aload_n 0, 1) := by decide +kernel
theorem dX12_whole_6 : decode cX12_whole 6 = .ok (.getfield 182, 3) := by decide +kernel
theorem dX12_whole_9 : decode cX12_whole 9 = .ok (.ifCond .le 47, 3) := by decide +kernel
theorem dX12_whole_12 : decode cX12_whole 12 = .ok (.aload_n 0, 1) := by decide +kernel
theorem dX12_whole_13 : decode cX12_whole 13 = .ok (.getfield 41, 3) := by decide +kernel
theorem dX12_whole_16 : decode cX12_whole 16 = .ok (.aload_n 0, 1) := by decide +kernel
theorem dX12_whole_17 : decode cX12_whole 17 = .ok (.getfield 182, 3) := by decide +kernel
theorem dX12_whole_20 : decode cX12_whole 20 = .ok (.iconst 1, 1) := by decide +kernel
theorem dX12_whole_21 : decode cX12_whole 21 = .ok (.isub, 1) := by decide +kernel
theorem dX12_whole_22 : decode cX12_whole 22 = .ok (.iaload, 1) := by decide +kernel
theorem dX12_whole_23 : decode cX12_whole 23 = .ok (.iconst 2, 1) := by decide +kernel
theorem dX12_whole_24 : decode cX12_whole 24 = .ok (.if_icmp .ne 32, 3) := by decide +kernel
theorem dX12_whole_27 : decode cX12_whole 27 = .ok (.aload_n 0, 1) := by decide +kernel
theorem dX12_whole_28 : decode cX12_whole 28 = .ok (.dup, 1) := by decide +kernel
theorem dX12_whole_29 : decode cX12_whole 29 = .ok (.getfield 182, 3) := by decide +kernel
theorem dX12_whole_32 : decode cX12_whole 32 = .ok (.iconst 1, 1) := by decide +kernel
theorem dX12_whole_33 : decode cX12_whole 33 = .ok (.isub, 1) := by decide +kernel
theorem dX12_whole_34 : decode cX12_whole 34 = .ok (.putfield 182, 3) := by decide +kernel
theorem dX12_whole_37 : decode cX12_whole 37 = .ok (.aload_n 0, 1) := by decide +kernel
theorem dX12_whole_38 : decode cX12_whole 38 = .ok (.dup, 1) := by decide +kernel
theorem dX12_whole_39 : decode cX12_whole 39 = .ok (.getfield 189, 3) := by decide +kernel
theorem dX12_whole_42 : decode cX12_whole 42 = .ok (.iconst 1, 1) := by decide +kernel
theorem dX12_whole_43 : decode cX12_whole 43 = .ok (.isub, 1) := by decide +kernel
theorem dX12_whole_44 : decode cX12_whole 44 = .ok (.putfield 189, 3) := by decide +kernel
theorem dX12_whole_47 : decode cX12_whole 47 = .ok (.aload_n 0, 1) := by decide +kernel
theorem dX12_whole_48 : decode cX12_whole 48 = .ok (.iconst 2, 1) := by decide +kernel
theorem dX12_whole_49 : decode cX12_whole 49 = .ok (.iconst 0, 1) := by decide +kernel
theorem dX12_whole_50 : decode cX12_whole 50 = .ok (.invokevirtual 192, 3) := by decide +kernel
theorem dX12_whole_53 : decode cX12_whole 53 = .ok (.goto (-48), 3) := by decide +kernel
theorem dX12_whole_56 : decode cX12_whole 56 = .ok (.return_, 1) := by decide +kernel
theorem dX12_settle_0 : decode cX12_settle 0 = .ok (.aload_n 0, 1) := by decide +kernel
theorem dX12_settle_1 : decode cX12_settle 1 = .ok (.getfield 182, 3) := by decide +kernel
theorem dX12_settle_4 : decode cX12_settle 4 = .ok (.ifCond .le 61, 3) := by decide +kernel
theorem dX12_settle_7 : decode cX12_settle 7 = .ok (.aload_n 0, 1) := by decide +kernel
theorem dX12_settle_8 : decode cX12_settle 8 = .ok (.getfield 41, 3) := by decide +kernel
theorem dX12_settle_11 : decode cX12_settle 11 = .ok (.aload_n 0, 1) := by decide +kernel
theorem dX12_settle_12 : decode cX12_settle 12 = .ok (.getfield 182, 3) := by decide +kernel
theorem dX12_settle_15 : decode cX12_settle 15 = .ok (.iconst 1, 1) := by decide +kernel
theorem dX12_settle_16 : decode cX12_settle 16 = .ok (.isub, 1) := by decide +kernel
theorem dX12_settle_17 : decode cX12_settle 17 = .ok (.iaload, 1) := by decide +kernel
theorem dX12_settle_18 : decode cX12_settle 18 = .ok (.bipush 40, 2) := by decide +kernel
theorem dX12_settle_20 : decode cX12_settle 20 = .ok (.if_icmp .ge 45, 3) := by decide +kernel
theorem dX12_settle_23 : decode cX12_settle 23 = .ok (.aload_n 0, 1) := by decide +kernel
theorem dX12_settle_24 : decode cX12_settle 24 = .ok (.getfield 41, 3) := by decide +kernel
theorem dX12_settle_27 : decode cX12_settle 27 = .ok (.aload_n 0, 1) := by decide +kernel
theorem dX12_settle_28 : decode cX12_settle 28 = .ok (.getfield 182, 3) := by decide +kernel
theorem dX12_settle_31 : decode cX12_settle 31 = .ok (.iconst 1, 1) := by decide +kernel
theorem dX12_settle_32 : decode cX12_settle 32 = .ok (.isub, 1) := by decide +kernel
theorem dX12_settle_33 : decode cX12_settle 33 = .ok (.iaload, 1) := by decide +kernel
theorem dX12_settle_34 : decode cX12_settle 34 = .ok (.iload_n 1, 1) := by decide +kernel
theorem dX12_settle_35 : decode cX12_settle 35 = .ok (.if_icmp .lt 30, 3) := by decide +kernel
theorem dX12_settle_38 : decode cX12_settle 38 = .ok (.aload_n 0, 1) := by decide +kernel
theorem dX12_settle_39 : decode cX12_settle 39 = .ok (.dup, 1) := by decide +kernel
theorem dX12_settle_40 : decode cX12_settle 40 = .ok (.getfield 182, 3) := by decide +kernel
theorem dX12_settle_43 : decode cX12_settle 43 = .ok (.iconst 1, 1) := by decide +kernel
theorem dX12_settle_44 : decode cX12_settle 44 = .ok (.isub, 1) := by decide +kernel
theorem dX12_settle_45 : decode cX12_settle 45 = .ok (.putfield 182, 3) := by decide +kernel
theorem dX12_settle_48 : decode cX12_settle 48 = .ok (.aload_n 0, 1) := by decide +kernel
theorem dX12_settle_49 : decode cX12_settle 49 = .ok (.aload_n 0, 1) := by decide +kernel
theorem dX12_settle_50 : decode cX12_settle 50 = .ok (.getfield 41, 3) := by decide +kernel
theorem dX12_settle_53 : decode cX12_settle 53 = .ok (.aload_n 0, 1) := by decide +kernel
theorem dX12_settle_54 : decode cX12_settle 54 = .ok (.getfield 182, 3) := by decide +kernel
theorem dX12_settle_57 : decode cX12_settle 57 = .ok (.iaload, 1) := by decide +kernel
theorem dX12_settle_58 : decode cX12_settle 58 = .ok (.iconst 0, 1) := by decide +kernel
theorem dX12_settle_59 : decode cX12_settle 59 = .ok (.invokevirtual 192, 3) := by decide +kernel
theorem dX12_settle_62 : decode cX12_settle 62 = .ok (.goto (-62), 3) := by decide +kernel
theorem dX12_settle_65 : decode cX12_settle 65 = .ok (.return_, 1) := by decide +kernel
theorem dX12_letterOf_0 : decode cX12_letterOf 0 = .ok (.aload_n 0, 1) := by decide +kernel
theorem dX12_letterOf_1 : decode cX12_letterOf 1 = .ok (.getfield 151, 3) := by decide +kernel
theorem dX12_letterOf_4 : decode cX12_letterOf 4 = .ok (.iconst 2, 1) := by decide +kernel
theorem dX12_letterOf_5 : decode cX12_letterOf 5 = .ok (.if_icmp .ne 36, 3) := by decide +kernel
theorem dX12_letterOf_8 : decode cX12_letterOf 8 = .ok (.aload_n 0, 1) := by decide +kernel
theorem dX12_letterOf_9 : decode cX12_letterOf 9 = .ok (.getfield 164, 3) := by decide +kernel
theorem dX12_letterOf_12 : decode cX12_letterOf 12 = .ok (.ldc2_w 196, 3) := by decide +kernel
theorem dX12_letterOf_15 : decode cX12_letterOf 15 = .ok (.lcmp, 1) := by decide +kernel
theorem dX12_letterOf_16 : decode cX12_letterOf 16 = .ok (.ifCond .lt 25, 3) := by decide +kernel
theorem dX12_letterOf_19 : decode cX12_letterOf 19 = .ok (.aload_n 0, 1) := by decide +kernel
theorem dX12_letterOf_20 : decode cX12_letterOf 20 = .ok (.getfield 164, 3) := by decide +kernel
theorem dX12_letterOf_23 : decode cX12_letterOf 23 = .ok (.ldc2_w 198, 3) := by decide +kernel
theorem dX12_letterOf_26 : decode cX12_letterOf 26 = .ok (.lcmp, 1) := by decide +kernel
theorem dX12_letterOf_27 : decode cX12_letterOf 27 = .ok (.ifCond .gt 14, 3) := by decide +kernel
theorem dX12_letterOf_30 : decode cX12_letterOf 30 = .ok (.aload_n 0, 1) := by decide +kernel
theorem dX12_letterOf_31 : decode cX12_letterOf 31 = .ok (.getfield 164, 3) := by decide +kernel
theorem dX12_letterOf_34 : decode cX12_letterOf 34 = .ok (.l2i, 1) := by decide +kernel
theorem dX12_letterOf_35 : decode cX12_letterOf 35 = .ok (.bipush 65, 2) := by decide +kernel
theorem dX12_letterOf_37 : decode cX12_letterOf 37 = .ok (.isub, 1) := by decide +kernel
theorem dX12_letterOf_38 : decode cX12_letterOf 38 = .ok (.goto 4, 3) := by decide +kernel
theorem dX12_letterOf_41 : decode cX12_letterOf 41 = .ok (.iconst (-1), 1) := by decide +kernel
theorem dX12_letterOf_42 : decode cX12_letterOf 42 = .ok (.ireturn, 1) := by decide +kernel
theorem dX12_eye_0 : decode cX12_eye 0 = .ok (.aload_n 0, 1) := by decide +kernel
theorem dX12_eye_1 : decode cX12_eye 1 = .ok (.invokevirtual 200, 3) := by decide +kernel
theorem dX12_eye_4 : decode cX12_eye 4 = .ok (.aload_n 0, 1) := by decide +kernel
theorem dX12_eye_5 : decode cX12_eye 5 = .ok (.getfield 151, 3) := by decide +kernel
theorem dX12_eye_8 : decode cX12_eye 8 = .ok (.iconst 1, 1) := by decide +kernel
theorem dX12_eye_9 : decode cX12_eye 9 = .ok (.if_icmp .eq 5, 3) := by decide +kernel
theorem dX12_eye_12 : decode cX12_eye 12 = .ok (.iconst 1, 1) := by decide +kernel
theorem dX12_eye_13 : decode cX12_eye 13 = .ok (.ireturn, 1) := by decide +kernel
theorem dX12_eye_14 : decode cX12_eye 14 = .ok (.aload_n 0, 1) := by decide +kernel
theorem dX12_eye_15 : decode cX12_eye 15 = .ok (.getfield 157, 3) := by decide +kernel
theorem dX12_eye_18 : decode cX12_eye 18 = .ok (.iconst 0, 1) := by decide +kernel
theorem dX12_eye_19 : decode cX12_eye 19 = .ok (.bipush 15, 2) := by decide +kernel
theorem dX12_eye_21 : decode cX12_eye 21 = .ok (.invokestatic 71, 3) := by decide +kernel
theorem dX12_eye_24 : decode cX12_eye 24 = .ok (.ifCond .ne 5, 3) := by decide +kernel
theorem dX12_eye_27 : decode cX12_eye 27 = .ok (.iconst 2, 1) := by decide +kernel
theorem dX12_eye_28 : decode cX12_eye 28 = .ok (.ireturn, 1) := by decide +kernel
theorem dX12_eye_29 : decode cX12_eye 29 = .ok (.aload_n 0, 1) := by decide +kernel
theorem dX12_eye_30 : decode cX12_eye 30 = .ok (.iload_n 1, 1) := by decide +kernel
theorem dX12_eye_31 : decode cX12_eye 31 = .ok (.aload_n 0, 1) := by decide +kernel
theorem dX12_eye_32 : decode cX12_eye 32 = .ok (.getfield 157, 3) := by decide +kernel
theorem dX12_eye_35 : decode cX12_eye 35 = .ok (.invokevirtual 192, 3) := by decide +kernel
theorem dX12_eye_38 : decode cX12_eye 38 = .ok (.aload_n 0, 1) := by decide +kernel
theorem dX12_eye_39 : decode cX12_eye 39 = .ok (.invokevirtual 200, 3) := by decide +kernel
theorem dX12_eye_42 : decode cX12_eye 42 = .ok (.aload_n 0, 1) := by decide +kernel
theorem dX12_eye_43 : decode cX12_eye 43 = .ok (.invokevirtual 203, 3) := by decide +kernel
theorem dX12_eye_46 : decode cX12_eye 46 = .ok (.iconst 0, 1) := by decide +kernel
theorem dX12_eye_47 : decode cX12_eye 47 = .ok (.ireturn, 1) := by decide +kernel
theorem dX12_beginOne_0 : decode cX12_beginOne 0 = .ok (.aload_n 0, 1) := by decide +kernel
theorem dX12_beginOne_1 : decode cX12_beginOne 1 = .ok (.getfield 151, 3) := by decide +kernel
theorem dX12_beginOne_4 : decode cX12_beginOne 4 = .ok (.iconst 1, 1) := by decide +kernel
theorem dX12_beginOne_5 : decode cX12_beginOne 5 = .ok (.if_icmp .ne 34, 3) := by decide +kernel
theorem dX12_beginOne_8 : decode cX12_beginOne 8 = .ok (.aload_n 0, 1) := by decide +kernel
theorem dX12_beginOne_9 : decode cX12_beginOne 9 = .ok (.getfield 157, 3) := by decide +kernel
theorem dX12_beginOne_12 : decode cX12_beginOne 12 = .ok (.sipush 9999, 3) := by decide +kernel
theorem dX12_beginOne_15 : decode cX12_beginOne 15 = .ok (.if_icmp .le 5, 3) := by decide +kernel
theorem dX12_beginOne_18 : decode cX12_beginOne 18 = .ok (.iconst 2, 1) := by decide +kernel
theorem dX12_beginOne_19 : decode cX12_beginOne 19 = .ok (.ireturn, 1) := by decide +kernel
theorem dX12_beginOne_20 : decode cX12_beginOne 20 = .ok (.aload_n 0, 1) := by decide +kernel
theorem dX12_beginOne_21 : decode cX12_beginOne 21 = .ok (.iconst 0, 1) := by decide +kernel
theorem dX12_beginOne_22 : decode cX12_beginOne 22 = .ok (.aload_n 0, 1) := by decide +kernel
theorem dX12_beginOne_23 : decode cX12_beginOne 23 = .ok (.getfield 157, 3) := by decide +kernel
theorem dX12_beginOne_26 : decode cX12_beginOne 26 = .ok (.invokevirtual 192, 3) := by decide +kernel
theorem dX12_beginOne_29 : decode cX12_beginOne 29 = .ok (.aload_n 0, 1) := by decide +kernel
theorem dX12_beginOne_30 : decode cX12_beginOne 30 = .ok (.invokevirtual 200, 3) := by decide +kernel
theorem dX12_beginOne_33 : decode cX12_beginOne 33 = .ok (.aload_n 0, 1) := by decide +kernel
theorem dX12_beginOne_34 : decode cX12_beginOne 34 = .ok (.invokevirtual 203, 3) := by decide +kernel
theorem dX12_beginOne_37 : decode cX12_beginOne 37 = .ok (.iconst 0, 1) := by decide +kernel
theorem dX12_beginOne_38 : decode cX12_beginOne 38 = .ok (.ireturn, 1) := by decide +kernel
theorem dX12_beginOne_39 : decode cX12_beginOne 39 = .ok (.aload_n 0, 1) := by decide +kernel
theorem dX12_beginOne_40 : decode cX12_beginOne 40 = .ok (.invokevirtual 206, 3) := by decide +kernel
theorem dX12_beginOne_43 : decode cX12_beginOne 43 = .ok (.ifCond .lt 38, 3) := by decide +kernel
theorem dX12_beginOne_46 : decode cX12_beginOne 46 = .ok (.aload_n 0, 1) := by decide +kernel
theorem dX12_beginOne_47 : decode cX12_beginOne 47 = .ok (.getfield 210, 3) := by decide +kernel
theorem dX12_beginOne_50 : decode cX12_beginOne 50 = .ok (.aload_n 0, 1) := by decide +kernel
theorem dX12_beginOne_51 : decode cX12_beginOne 51 = .ok (.invokevirtual 206, 3) := by decide +kernel
theorem dX12_beginOne_54 : decode cX12_beginOne 54 = .ok (.ishr, 1) := by decide +kernel
theorem dX12_beginOne_55 : decode cX12_beginOne 55 = .ok (.iconst 1, 1) := by decide +kernel
theorem dX12_beginOne_56 : decode cX12_beginOne 56 = .ok (.iand, 1) := by decide +kernel
theorem dX12_beginOne_57 : decode cX12_beginOne 57 = .ok (.ifCond .ne 5, 3) := by decide +kernel
theorem dX12_beginOne_60 : decode cX12_beginOne 60 = .ok (.iconst 5, 1) := by decide +kernel
theorem dX12_beginOne_61 : decode cX12_beginOne 61 = .ok (.ireturn, 1) := by decide +kernel
theorem dX12_beginOne_62 : decode cX12_beginOne 62 = .ok (.aload_n 0, 1) := by decide +kernel
theorem dX12_beginOne_63 : decode cX12_beginOne 63 = .ok (.iconst 1, 1) := by decide +kernel
theorem dX12_beginOne_64 : decode cX12_beginOne 64 = .ok (.aload_n 0, 1) := by decide +kernel
theorem dX12_beginOne_65 : decode cX12_beginOne 65 = .ok (.invokevirtual 206, 3) := by decide +kernel
theorem dX12_beginOne_68 : decode cX12_beginOne 68 = .ok (.invokevirtual 192, 3) := by decide +kernel
theorem dX12_beginOne_71 : decode cX12_beginOne 71 = .ok (.aload_n 0, 1) := by decide +kernel
theorem dX12_beginOne_72 : decode cX12_beginOne 72 = .ok (.invokevirtual 200, 3) := by decide +kernel
theorem dX12_beginOne_75 : decode cX12_beginOne 75 = .ok (.aload_n 0, 1) := by decide +kernel
theorem dX12_beginOne_76 : decode cX12_beginOne 76 = .ok (.invokevirtual 203, 3) := by decide +kernel
theorem dX12_beginOne_79 : decode cX12_beginOne 79 = .ok (.iconst 0, 1) := by decide +kernel
theorem dX12_beginOne_80 : decode cX12_beginOne 80 = .ok (.ireturn, 1) := by decide +kernel
theorem dX12_beginOne_81 : decode cX12_beginOne 81 = .ok (.aload_n 0, 1) := by decide +kernel
theorem dX12_beginOne_82 : decode cX12_beginOne 82 = .ok (.bipush 116, 2) := by decide +kernel
theorem dX12_beginOne_84 : decode cX12_beginOne 84 = .ok (.bipush 105, 2) := by decide +kernel
theorem dX12_beginOne_86 : decode cX12_beginOne 86 = .ok (.bipush 99, 2) := by decide +kernel
theorem dX12_beginOne_88 : decode cX12_beginOne 88 = .ok (.bipush 107, 2) := by decide +kernel
theorem dX12_beginOne_90 : decode cX12_beginOne 90 = .ok (.invokestatic 213, 3) := by decide +kernel
theorem dX12_beginOne_93 : decode cX12_beginOne 93 = .ok (.invokevirtual 217, 3) := by decide +kernel
theorem dX12_beginOne_96 : decode cX12_beginOne 96 = .ok (.ifCond .eq 20, 3) := by decide +kernel
theorem dX12_beginOne_99 : decode cX12_beginOne 99 = .ok (.aload_n 0, 1) := by decide +kernel
theorem dX12_beginOne_100 : decode cX12_beginOne 100 = .ok (.bipush 30, 2) := by decide +kernel
theorem dX12_beginOne_102 : decode cX12_beginOne 102 = .ok (.iconst 0, 1) := by decide +kernel
theorem dX12_beginOne_103 : decode cX12_beginOne 103 = .ok (.invokevirtual 192, 3) := by decide +kernel
theorem dX12_beginOne_106 : decode cX12_beginOne 106 = .ok (.aload_n 0, 1) := by decide +kernel
theorem dX12_beginOne_107 : decode cX12_beginOne 107 = .ok (.invokevirtual 200, 3) := by decide +kernel
theorem dX12_beginOne_110 : decode cX12_beginOne 110 = .ok (.aload_n 0, 1) := by decide +kernel
theorem dX12_beginOne_111 : decode cX12_beginOne 111 = .ok (.invokevirtual 203, 3) := by decide +kernel
theorem dX12_beginOne_114 : decode cX12_beginOne 114 = .ok (.iconst 0, 1) := by decide +kernel
theorem dX12_beginOne_115 : decode cX12_beginOne 115 = .ok (.ireturn, 1) := by decide +kernel
theorem dX12_beginOne_116 : decode cX12_beginOne 116 = .ok (.aload_n 0, 1) := by decide +kernel
theorem dX12_beginOne_117 : decode cX12_beginOne 117 = .ok (.bipush 108, 2) := by decide +kernel
theorem dX12_beginOne_119 : decode cX12_beginOne 119 = .ok (.bipush 101, 2) := by decide +kernel
theorem dX12_beginOne_121 : decode cX12_beginOne 121 = .ok (.bipush 110, 2) := by decide +kernel
theorem dX12_beginOne_123 : decode cX12_beginOne 123 = .ok (.bipush 115, 2) := by decide +kernel
theorem dX12_beginOne_125 : decode cX12_beginOne 125 = .ok (.invokestatic 213, 3) := by decide +kernel
theorem dX12_beginOne_128 : decode cX12_beginOne 128 = .ok (.invokevirtual 217, 3) := by decide +kernel
theorem dX12_beginOne_131 : decode cX12_beginOne 131 = .ok (.ifCond .ne 21, 3) := by decide +kernel
theorem dX12_beginOne_134 : decode cX12_beginOne 134 = .ok (.aload_n 0, 1) := by decide +kernel
theorem dX12_beginOne_135 : decode cX12_beginOne 135 = .ok (.bipush 112, 2) := by decide +kernel
theorem dX12_beginOne_137 : decode cX12_beginOne 137 = .ok (.bipush 97, 2) := by decide +kernel
theorem dX12_beginOne_139 : decode cX12_beginOne 139 = .ok (.bipush 105, 2) := by decide +kernel
theorem dX12_beginOne_141 : decode cX12_beginOne 141 = .ok (.bipush 114, 2) := by decide +kernel
theorem dX12_beginOne_143 : decode cX12_beginOne 143 = .ok (.invokestatic 213, 3) := by decide +kernel
theorem dX12_beginOne_146 : decode cX12_beginOne 146 = .ok (.invokevirtual 217, 3) := by decide +kernel
theorem dX12_beginOne_149 : decode cX12_beginOne 149 = .ok (.ifCond .eq 33, 3) := by decide +kernel
theorem dX12_beginOne_152 : decode cX12_beginOne 152 = .ok (.aload_n 0, 1) := by decide +kernel
theorem dX12_beginOne_153 : decode cX12_beginOne 153 = .ok (.aload_n 0, 1) := by decide +kernel
theorem dX12_beginOne_154 : decode cX12_beginOne 154 = .ok (.bipush 108, 2) := by decide +kernel
theorem dX12_beginOne_156 : decode cX12_beginOne 156 = .ok (.bipush 101, 2) := by decide +kernel
theorem dX12_beginOne_158 : decode cX12_beginOne 158 = .ok (.bipush 110, 2) := by decide +kernel
theorem dX12_beginOne_160 : decode cX12_beginOne 160 = .ok (.bipush 115, 2) := by decide +kernel
theorem dX12_beginOne_162 : decode cX12_beginOne 162 = .ok (.invokestatic 213, 3) := by decide +kernel
theorem dX12_beginOne_165 : decode cX12_beginOne 165 = .ok (.invokevirtual 217, 3) := by decide +kernel
theorem dX12_beginOne_168 : decode cX12_beginOne 168 = .ok (.ifCond .eq 8, 3) := by decide +kernel
theorem dX12_beginOne_171 : decode cX12_beginOne 171 = .ok (.bipush 31, 2) := by decide +kernel
theorem dX12_beginOne_173 : decode cX12_beginOne 173 = .ok (.goto 5, 3) := by decide +kernel
theorem dX12_beginOne_176 : decode cX12_beginOne 176 = .ok (.bipush 32, 2) := by decide +kernel
theorem dX12_beginOne_178 : decode cX12_beginOne 178 = .ok (.invokevirtual 221, 3) := by decide +kernel
theorem dX12_beginOne_181 : decode cX12_beginOne 181 = .ok (.ireturn, 1) := by decide +kernel
theorem dX12_beginOne_182 : decode cX12_beginOne 182 = .ok (.aload_n 0, 1) := by decide +kernel
theorem dX12_beginOne_183 : decode cX12_beginOne 183 = .ok (.bipush 109, 2) := by decide +kernel
theorem dX12_beginOne_185 : decode cX12_beginOne 185 = .ok (.bipush 105, 2) := by decide +kernel
theorem dX12_beginOne_187 : decode cX12_beginOne 187 = .ok (.bipush 110, 2) := by decide +kernel
theorem dX12_beginOne_189 : decode cX12_beginOne 189 = .ok (.invokestatic 168, 3) := by decide +kernel
theorem dX12_beginOne_192 : decode cX12_beginOne 192 = .ok (.invokevirtual 217, 3) := by decide +kernel
theorem dX12_beginOne_195 : decode cX12_beginOne 195 = .ok (.ifCond .eq 8, 3) := by decide +kernel
theorem dX12_beginOne_198 : decode cX12_beginOne 198 = .ok (.bipush 41, 2) := by decide +kernel
theorem dX12_beginOne_200 : decode cX12_beginOne 200 = .ok (.goto 52, 3) := by decide +kernel
theorem dX12_beginOne_203 : decode cX12_beginOne 203 = .ok (.aload_n 0, 1) := by decide +kernel
theorem dX12_beginOne_204 : decode cX12_beginOne 204 = .ok (.bipush 109, 2) := by decide +kernel
theorem dX12_beginOne_206 : decode cX12_beginOne 206 = .ok (.bipush 97, 2) := by decide +kernel
theorem dX12_beginOne_208 : decode cX12_beginOne 208 = .ok (.bipush 120, 2) := by decide +kernel
theorem dX12_beginOne_210 : decode cX12_beginOne 210 = .ok (.invokestatic 168, 3) := by decide +kernel
theorem dX12_beginOne_213 : decode cX12_beginOne 213 = .ok (.invokevirtual 217, 3) := by decide +kernel
theorem dX12_beginOne_216 : decode cX12_beginOne 216 = .ok (.ifCond .eq 8, 3) := by decide +kernel
theorem dX12_beginOne_219 : decode cX12_beginOne 219 = .ok (.bipush 42, 2) := by decide +kernel
theorem dX12_beginOne_221 : decode cX12_beginOne 221 = .ok (.goto 31, 3) := by decide +kernel
theorem dX12_beginOne_224 : decode cX12_beginOne 224 = .ok (.aload_n 0, 1) := by decide +kernel
theorem dX12_beginOne_225 : decode cX12_beginOne 225 = .ok (.getfield 151, 3) := by decide +kernel
theorem dX12_beginOne_228 : decode cX12_beginOne 228 = .ok (.bipush 40, 2) := by decide +kernel
theorem dX12_beginOne_230 : decode cX12_beginOne 230 = .ok (.if_icmp .ne 8, 3) := by decide +kernel
theorem dX12_beginOne_233 : decode cX12_beginOne 233 = .ok (.bipush 40, 2) := by decide +kernel
theorem dX12_beginOne_235 : decode cX12_beginOne 235 = .ok (.goto 17, 3) := by decide +kernel
theorem dX12_beginOne_238 : decode cX12_beginOne 238 = .ok (.aload_n 0, 1) := by decide +kernel
theorem dX12_beginOne_239 : decode cX12_beginOne 239 = .ok (.getfield 151, 3) := by decide +kernel
theorem dX12_beginOne_242 : decode cX12_beginOne 242 = .ok (.bipush 45, 2) := by decide +kernel
theorem dX12_beginOne_244 : decode cX12_beginOne 244 = .ok (.if_icmp .ne 7, 3) := by decide +kernel
theorem dX12_beginOne_247 : decode cX12_beginOne 247 = .ok (.iconst 2, 1) := by decide +kernel
theorem dX12_beginOne_248 : decode cX12_beginOne 248 = .ok (.goto 4, 3) := by decide +kernel
theorem dX12_beginOne_251 : decode cX12_beginOne 251 = .ok (.iconst 0, 1) := by decide +kernel
theorem dX12_beginOne_252 : decode cX12_beginOne 252 = .ok (.istore_n 1, 1) := by decide +kernel
theorem dX12_beginOne_253 : decode cX12_beginOne 253 = .ok (.iload_n 1, 1) := by decide +kernel
theorem dX12_beginOne_254 : decode cX12_beginOne 254 = .ok (.ifCond .ne 5, 3) := by decide +kernel
theorem dX12_beginOne_257 : decode cX12_beginOne 257 = .ok (.iconst 1, 1) := by decide +kernel
theorem dX12_beginOne_258 : decode cX12_beginOne 258 = .ok (.ireturn, 1) := by decide +kernel
theorem dX12_beginOne_259 : decode cX12_beginOne 259 = .ok (.iload_n 1, 1) := by decide +kernel
theorem dX12_beginOne_260 : decode cX12_beginOne 260 = .ok (.bipush 40, 2) := by decide +kernel
theorem dX12_beginOne_262 : decode cX12_beginOne 262 = .ok (.if_icmp .le 18, 3) := by decide +kernel
theorem dX12_beginOne_265 : decode cX12_beginOne 265 = .ok (.aload_n 0, 1) := by decide +kernel
theorem dX12_beginOne_266 : decode cX12_beginOne 266 = .ok (.invokevirtual 200, 3) := by decide +kernel
theorem dX12_beginOne_269 : decode cX12_beginOne 269 = .ok (.aload_n 0, 1) := by decide +kernel
theorem dX12_beginOne_270 : decode cX12_beginOne 270 = .ok (.getfield 151, 3) := by decide +kernel
theorem dX12_beginOne_273 : decode cX12_beginOne 273 = .ok (.bipush 40, 2) := by decide +kernel
theorem dX12_beginOne_275 : decode cX12_beginOne 275 = .ok (.if_icmp .eq 5, 3) := by decide +kernel
theorem dX12_beginOne_278 : decode cX12_beginOne 278 = .ok (.iconst 1, 1) := by decide +kernel
theorem dX12_beginOne_279 : decode cX12_beginOne 279 = .ok (.ireturn, 1) := by decide +kernel
theorem dX12_beginOne_280 : decode cX12_beginOne 280 = .ok (.aload_n 0, 1) := by decide +kernel
theorem dX12_beginOne_281 : decode cX12_beginOne 281 = .ok (.getfield 189, 3) := by decide +kernel
theorem dX12_beginOne_284 : decode cX12_beginOne 284 = .ok (.bipush 8, 2) := by decide +kernel
theorem dX12_beginOne_286 : decode cX12_beginOne 286 = .ok (.if_icmp .ne 5, 3) := by decide +kernel
theorem dX12_beginOne_289 : decode cX12_beginOne 289 = .ok (.iconst 3, 1) := by decide +kernel
theorem dX12_beginOne_290 : decode cX12_beginOne 290 = .ok (.ireturn, 1) := by decide +kernel
theorem dX12_beginOne_291 : decode cX12_beginOne 291 = .ok (.aload_n 0, 1) := by decide +kernel
theorem dX12_beginOne_292 : decode cX12_beginOne 292 = .ok (.dup, 1) := by decide +kernel
theorem dX12_beginOne_293 : decode cX12_beginOne 293 = .ok (.getfield 189, 3) := by decide +kernel
theorem dX12_beginOne_296 : decode cX12_beginOne 296 = .ok (.iconst 1, 1) := by decide +kernel
theorem dX12_beginOne_297 : decode cX12_beginOne 297 = .ok (.iadd, 1) := by decide +kernel
theorem dX12_beginOne_298 : decode cX12_beginOne 298 = .ok (.putfield 189, 3) := by decide +kernel
theorem dX12_beginOne_301 : decode cX12_beginOne 301 = .ok (.aload_n 0, 1) := by decide +kernel
theorem dX12_beginOne_302 : decode cX12_beginOne 302 = .ok (.iload_n 1, 1) := by decide +kernel
theorem dX12_beginOne_303 : decode cX12_beginOne 303 = .ok (.invokevirtual 224, 3) := by decide +kernel
theorem dX12_beginOne_306 : decode cX12_beginOne 306 = .ok (.aload_n 0, 1) := by decide +kernel
theorem dX12_beginOne_307 : decode cX12_beginOne 307 = .ok (.invokevirtual 200, 3) := by decide +kernel
theorem dX12_beginOne_310 : decode cX12_beginOne 310 = .ok (.iconst 0, 1) := by decide +kernel
theorem dX12_beginOne_311 : decode cX12_beginOne 311 = .ok (.ireturn, 1) := by decide +kernel
theorem dX12_hasParen_0 : decode cX12_hasParen 0 = .ok (.iconst 0, 1) := by decide +kernel
theorem dX12_hasParen_1 : decode cX12_hasParen 1 = .ok (.istore_n 1, 1) := by decide +kernel
theorem dX12_hasParen_2 : decode cX12_hasParen 2 = .ok (.iload_n 1, 1) := by decide +kernel
theorem dX12_hasParen_3 : decode cX12_hasParen 3 = .ok (.aload_n 0, 1) := by decide +kernel
theorem dX12_hasParen_4 : decode cX12_hasParen 4 = .ok (.getfield 182, 3) := by decide +kernel
theorem dX12_hasParen_7 : decode cX12_hasParen 7 = .ok (.if_icmp .ge 22, 3) := by decide +kernel
theorem dX12_hasParen_10 : decode cX12_hasParen 10 = .ok (.aload_n 0, 1) := by decide +kernel
theorem dX12_hasParen_11 : decode cX12_hasParen 11 = .ok (.getfield 41, 3) := by decide +kernel
theorem dX12_hasParen_14 : decode cX12_hasParen 14 = .ok (.iload_n 1, 1) := by decide +kernel
theorem dX12_hasParen_15 : decode cX12_hasParen 15 = .ok (.iaload, 1) := by decide +kernel
theorem dX12_hasParen_16 : decode cX12_hasParen 16 = .ok (.bipush 40, 2) := by decide +kernel
theorem dX12_hasParen_18 : decode cX12_hasParen 18 = .ok (.if_icmp .lt 5, 3) := by decide +kernel
theorem dX12_hasParen_21 : decode cX12_hasParen 21 = .ok (.iconst 1, 1) := by decide +kernel
theorem dX12_hasParen_22 : decode cX12_hasParen 22 = .ok (.ireturn, 1) := by decide +kernel
theorem dX12_hasParen_23 : decode cX12_hasParen 23 = .ok (.iinc 1 1, 3) := by decide +kernel
theorem dX12_hasParen_26 : decode cX12_hasParen 26 = .ok (.goto (-24), 3) := by decide +kernel
theorem dX12_hasParen_29 : decode cX12_hasParen 29 = .ok (.iconst 0, 1) := by decide +kernel
theorem dX12_hasParen_30 : decode cX12_hasParen 30 = .ok (.ireturn, 1) := by decide +kernel
theorem dX12_goesOn_0 : decode cX12_goesOn 0 = .ok (.aload_n 0, 1) := by decide +kernel
theorem dX12_goesOn_1 : decode cX12_goesOn 1 = .ok (.getfield 151, 3) := by decide +kernel
theorem dX12_goesOn_4 : decode cX12_goesOn 4 = .ok (.bipush 43, 2) := by decide +kernel
theorem dX12_goesOn_6 : decode cX12_goesOn 6 = .ok (.if_icmp .eq 55, 3) := by decide +kernel
theorem dX12_goesOn_9 : decode cX12_goesOn 9 = .ok (.aload_n 0, 1) := by decide +kernel
theorem dX12_goesOn_10 : decode cX12_goesOn 10 = .ok (.getfield 151, 3) := by decide +kernel
theorem dX12_goesOn_13 : decode cX12_goesOn 13 = .ok (.bipush 45, 2) := by decide +kernel
theorem dX12_goesOn_15 : decode cX12_goesOn 15 = .ok (.if_icmp .eq 46, 3) := by decide +kernel
theorem dX12_goesOn_18 : decode cX12_goesOn 18 = .ok (.aload_n 0, 1) := by decide +kernel
theorem dX12_goesOn_19 : decode cX12_goesOn 19 = .ok (.getfield 151, 3) := by decide +kernel
theorem dX12_goesOn_22 : decode cX12_goesOn 22 = .ok (.bipush 42, 2) := by decide +kernel
theorem dX12_goesOn_24 : decode cX12_goesOn 24 = .ok (.if_icmp .eq 37, 3) := by decide +kernel
theorem dX12_goesOn_27 : decode cX12_goesOn 27 = .ok (.aload_n 0, 1) := by decide +kernel
theorem dX12_goesOn_28 : decode cX12_goesOn 28 = .ok (.getfield 151, 3) := by decide +kernel
theorem dX12_goesOn_31 : decode cX12_goesOn 31 = .ok (.bipush 47, 2) := by decide +kernel
theorem dX12_goesOn_33 : decode cX12_goesOn 33 = .ok (.if_icmp .eq 28, 3) := by decide +kernel
theorem dX12_goesOn_36 : decode cX12_goesOn 36 = .ok (.aload_n 0, 1) := by decide +kernel
theorem dX12_goesOn_37 : decode cX12_goesOn 37 = .ok (.getfield 151, 3) := by decide +kernel
theorem dX12_goesOn_40 : decode cX12_goesOn 40 = .ok (.bipush 44, 2) := by decide +kernel
theorem dX12_goesOn_42 : decode cX12_goesOn 42 = .ok (.if_icmp .eq 12, 3) := by decide +kernel
theorem dX12_goesOn_45 : decode cX12_goesOn 45 = .ok (.aload_n 0, 1) := by decide +kernel
theorem dX12_goesOn_46 : decode cX12_goesOn 46 = .ok (.getfield 151, 3) := by decide +kernel
theorem dX12_goesOn_49 : decode cX12_goesOn 49 = .ok (.bipush 41, 2) := by decide +kernel
theorem dX12_goesOn_51 : decode cX12_goesOn 51 = .ok (.if_icmp .ne 14, 3) := by decide +kernel
theorem dX12_goesOn_54 : decode cX12_goesOn 54 = .ok (.aload_n 0, 1) := by decide +kernel
theorem dX12_goesOn_55 : decode cX12_goesOn 55 = .ok (.invokevirtual 227, 3) := by decide +kernel
theorem dX12_goesOn_58 : decode cX12_goesOn 58 = .ok (.ifCond .eq 7, 3) := by decide +kernel
theorem dX12_goesOn_61 : decode cX12_goesOn 61 = .ok (.iconst 1, 1) := by decide +kernel
theorem dX12_goesOn_62 : decode cX12_goesOn 62 = .ok (.goto 4, 3) := by decide +kernel
theorem dX12_goesOn_65 : decode cX12_goesOn 65 = .ok (.iconst 0, 1) := by decide +kernel
theorem dX12_goesOn_66 : decode cX12_goesOn 66 = .ok (.ireturn, 1) := by decide +kernel
theorem dX12_behindOne_0 : decode cX12_behindOne 0 = .ok (.aload_n 0, 1) := by decide +kernel
theorem dX12_behindOne_1 : decode cX12_behindOne 1 = .ok (.getfield 151, 3) := by decide +kernel
theorem dX12_behindOne_4 : decode cX12_behindOne 4 = .ok (.istore_n 1, 1) := by decide +kernel
theorem dX12_behindOne_5 : decode cX12_behindOne 5 = .ok (.iload_n 1, 1) := by decide +kernel
theorem dX12_behindOne_6 : decode cX12_behindOne 6 = .ok (.bipush 43, 2) := by decide +kernel
theorem dX12_behindOne_8 : decode cX12_behindOne 8 = .ok (.if_icmp .eq 9, 3) := by decide +kernel
theorem dX12_behindOne_11 : decode cX12_behindOne 11 = .ok (.iload_n 1, 1) := by decide +kernel
theorem dX12_behindOne_12 : decode cX12_behindOne 12 = .ok (.bipush 45, 2) := by decide +kernel
theorem dX12_behindOne_14 : decode cX12_behindOne 14 = .ok (.if_icmp .ne 31, 3) := by decide +kernel
theorem dX12_behindOne_17 : decode cX12_behindOne 17 = .ok (.aload_n 0, 1) := by decide +kernel
theorem dX12_behindOne_18 : decode cX12_behindOne 18 = .ok (.iconst 3, 1) := by decide +kernel
theorem dX12_behindOne_19 : decode cX12_behindOne 19 = .ok (.invokevirtual 231, 3) := by decide +kernel
theorem dX12_behindOne_22 : decode cX12_behindOne 22 = .ok (.aload_n 0, 1) := by decide +kernel
theorem dX12_behindOne_23 : decode cX12_behindOne 23 = .ok (.iload_n 1, 1) := by decide +kernel
theorem dX12_behindOne_24 : decode cX12_behindOne 24 = .ok (.bipush 43, 2) := by decide +kernel
theorem dX12_behindOne_26 : decode cX12_behindOne 26 = .ok (.if_icmp .ne 7, 3) := by decide +kernel
theorem dX12_behindOne_29 : decode cX12_behindOne 29 = .ok (.iconst 3, 1) := by decide +kernel
theorem dX12_behindOne_30 : decode cX12_behindOne 30 = .ok (.goto 4, 3) := by decide +kernel
theorem dX12_behindOne_33 : decode cX12_behindOne 33 = .ok (.iconst 4, 1) := by decide +kernel
theorem dX12_behindOne_34 : decode cX12_behindOne 34 = .ok (.invokevirtual 224, 3) := by decide +kernel
theorem dX12_behindOne_37 : decode cX12_behindOne 37 = .ok (.aload_n 0, 1) := by decide +kernel
theorem dX12_behindOne_38 : decode cX12_behindOne 38 = .ok (.iconst 0, 1) := by decide +kernel
theorem dX12_behindOne_39 : decode cX12_behindOne 39 = .ok (.putfield 185, 3) := by decide +kernel
theorem dX12_behindOne_42 : decode cX12_behindOne 42 = .ok (.goto 166, 3) := by decide +kernel
theorem dX12_behindOne_45 : decode cX12_behindOne 45 = .ok (.iload_n 1, 1) := by decide +kernel
theorem dX12_behindOne_46 : decode cX12_behindOne 46 = .ok (.bipush 42, 2) := by decide +kernel
theorem dX12_behindOne_48 : decode cX12_behindOne 48 = .ok (.if_icmp .eq 9, 3) := by decide +kernel
theorem dX12_behindOne_51 : decode cX12_behindOne 51 = .ok (.iload_n 1, 1) := by decide +kernel
theorem dX12_behindOne_52 : decode cX12_behindOne 52 = .ok (.bipush 47, 2) := by decide +kernel
theorem dX12_behindOne_54 : decode cX12_behindOne 54 = .ok (.if_icmp .ne 32, 3) := by decide +kernel
theorem dX12_behindOne_57 : decode cX12_behindOne 57 = .ok (.aload_n 0, 1) := by decide +kernel
theorem dX12_behindOne_58 : decode cX12_behindOne 58 = .ok (.iconst 5, 1) := by decide +kernel
theorem dX12_behindOne_59 : decode cX12_behindOne 59 = .ok (.invokevirtual 231, 3) := by decide +kernel
theorem dX12_behindOne_62 : decode cX12_behindOne 62 = .ok (.aload_n 0, 1) := by decide +kernel
theorem dX12_behindOne_63 : decode cX12_behindOne 63 = .ok (.iload_n 1, 1) := by decide +kernel
theorem dX12_behindOne_64 : decode cX12_behindOne 64 = .ok (.bipush 42, 2) := by decide +kernel
theorem dX12_behindOne_66 : decode cX12_behindOne 66 = .ok (.if_icmp .ne 7, 3) := by decide +kernel
theorem dX12_behindOne_69 : decode cX12_behindOne 69 = .ok (.iconst 5, 1) := by decide +kernel
theorem dX12_behindOne_70 : decode cX12_behindOne 70 = .ok (.goto 5, 3) := by decide +kernel
theorem dX12_behindOne_73 : decode cX12_behindOne 73 = .ok (.bipush 6, 2) := by decide +kernel
theorem dX12_behindOne_75 : decode cX12_behindOne 75 = .ok (.invokevirtual 224, 3) := by decide +kernel
theorem dX12_behindOne_78 : decode cX12_behindOne 78 = .ok (.aload_n 0, 1) := by decide +kernel
theorem dX12_behindOne_79 : decode cX12_behindOne 79 = .ok (.iconst 0, 1) := by decide +kernel
theorem dX12_behindOne_80 : decode cX12_behindOne 80 = .ok (.putfield 185, 3) := by decide +kernel
theorem dX12_behindOne_83 : decode cX12_behindOne 83 = .ok (.goto 125, 3) := by decide +kernel
theorem dX12_behindOne_86 : decode cX12_behindOne 86 = .ok (.aload_n 0, 1) := by decide +kernel
theorem dX12_behindOne_87 : decode cX12_behindOne 87 = .ok (.iconst 3, 1) := by decide +kernel
theorem dX12_behindOne_88 : decode cX12_behindOne 88 = .ok (.invokevirtual 231, 3) := by decide +kernel
theorem dX12_behindOne_91 : decode cX12_behindOne 91 = .ok (.aload_n 0, 1) := by decide +kernel
theorem dX12_behindOne_92 : decode cX12_behindOne 92 = .ok (.getfield 41, 3) := by decide +kernel
theorem dX12_behindOne_95 : decode cX12_behindOne 95 = .ok (.aload_n 0, 1) := by decide +kernel
theorem dX12_behindOne_96 : decode cX12_behindOne 96 = .ok (.getfield 182, 3) := by decide +kernel
theorem dX12_behindOne_99 : decode cX12_behindOne 99 = .ok (.iconst 1, 1) := by decide +kernel
theorem dX12_behindOne_100 : decode cX12_behindOne 100 = .ok (.isub, 1) := by decide +kernel
theorem dX12_behindOne_101 : decode cX12_behindOne 101 = .ok (.iaload, 1) := by decide +kernel
theorem dX12_behindOne_102 : decode cX12_behindOne 102 = .ok (.istore_n 2, 1) := by decide +kernel
theorem dX12_behindOne_103 : decode cX12_behindOne 103 = .ok (.iload_n 1, 1) := by decide +kernel
theorem dX12_behindOne_104 : decode cX12_behindOne 104 = .ok (.bipush 44, 2) := by decide +kernel
theorem dX12_behindOne_106 : decode cX12_behindOne 106 = .ok (.if_icmp .ne 40, 3) := by decide +kernel
theorem dX12_behindOne_109 : decode cX12_behindOne 109 = .ok (.iload_n 2, 1) := by decide +kernel
theorem dX12_behindOne_110 : decode cX12_behindOne 110 = .ok (.bipush 41, 2) := by decide +kernel
theorem dX12_behindOne_112 : decode cX12_behindOne 112 = .ok (.if_icmp .eq 11, 3) := by decide +kernel
theorem dX12_behindOne_115 : decode cX12_behindOne 115 = .ok (.iload_n 2, 1) := by decide +kernel
theorem dX12_behindOne_116 : decode cX12_behindOne 116 = .ok (.bipush 42, 2) := by decide +kernel
theorem dX12_behindOne_118 : decode cX12_behindOne 118 = .ok (.if_icmp .eq 5, 3) := by decide +kernel
theorem dX12_behindOne_121 : decode cX12_behindOne 121 = .ok (.iconst 1, 1) := by decide +kernel
theorem dX12_behindOne_122 : decode cX12_behindOne 122 = .ok (.ireturn, 1) := by decide +kernel
theorem dX12_behindOne_123 : decode cX12_behindOne 123 = .ok (.aload_n 0, 1) := by decide +kernel
theorem dX12_behindOne_124 : decode cX12_behindOne 124 = .ok (.getfield 41, 3) := by decide +kernel
theorem dX12_behindOne_127 : decode cX12_behindOne 127 = .ok (.aload_n 0, 1) := by decide +kernel
theorem dX12_behindOne_128 : decode cX12_behindOne 128 = .ok (.getfield 182, 3) := by decide +kernel
theorem dX12_behindOne_131 : decode cX12_behindOne 131 = .ok (.iconst 1, 1) := by decide +kernel
theorem dX12_behindOne_132 : decode cX12_behindOne 132 = .ok (.isub, 1) := by decide +kernel
theorem dX12_behindOne_133 : decode cX12_behindOne 133 = .ok (.dup2, 1) := by decide +kernel
theorem dX12_behindOne_134 : decode cX12_behindOne 134 = .ok (.iaload, 1) := by decide +kernel
theorem dX12_behindOne_135 : decode cX12_behindOne 135 = .ok (.iconst 2, 1) := by decide +kernel
theorem dX12_behindOne_136 : decode cX12_behindOne 136 = .ok (.iadd, 1) := by decide +kernel
theorem dX12_behindOne_137 : decode cX12_behindOne 137 = .ok (.iastore, 1) := by decide +kernel
theorem dX12_behindOne_138 : decode cX12_behindOne 138 = .ok (.aload_n 0, 1) := by decide +kernel
theorem dX12_behindOne_139 : decode cX12_behindOne 139 = .ok (.iconst 0, 1) := by decide +kernel
theorem dX12_behindOne_140 : decode cX12_behindOne 140 = .ok (.putfield 185, 3) := by decide +kernel
theorem dX12_behindOne_143 : decode cX12_behindOne 143 = .ok (.goto 65, 3) := by decide +kernel
theorem dX12_behindOne_146 : decode cX12_behindOne 146 = .ok (.iload_n 2, 1) := by decide +kernel
theorem dX12_behindOne_147 : decode cX12_behindOne 147 = .ok (.bipush 41, 2) := by decide +kernel
theorem dX12_behindOne_149 : decode cX12_behindOne 149 = .ok (.if_icmp .eq 9, 3) := by decide +kernel
theorem dX12_behindOne_152 : decode cX12_behindOne 152 = .ok (.iload_n 2, 1) := by decide +kernel
theorem dX12_behindOne_153 : decode cX12_behindOne 153 = .ok (.bipush 42, 2) := by decide +kernel
theorem dX12_behindOne_155 : decode cX12_behindOne 155 = .ok (.if_icmp .ne 5, 3) := by decide +kernel
theorem dX12_behindOne_158 : decode cX12_behindOne 158 = .ok (.iconst 1, 1) := by decide +kernel
theorem dX12_behindOne_159 : decode cX12_behindOne 159 = .ok (.ireturn, 1) := by decide +kernel
theorem dX12_behindOne_160 : decode cX12_behindOne 160 = .ok (.aload_n 0, 1) := by decide +kernel
theorem dX12_behindOne_161 : decode cX12_behindOne 161 = .ok (.dup, 1) := by decide +kernel
theorem dX12_behindOne_162 : decode cX12_behindOne 162 = .ok (.getfield 182, 3) := by decide +kernel
theorem dX12_behindOne_165 : decode cX12_behindOne 165 = .ok (.iconst 1, 1) := by decide +kernel
theorem dX12_behindOne_166 : decode cX12_behindOne 166 = .ok (.isub, 1) := by decide +kernel
theorem dX12_behindOne_167 : decode cX12_behindOne 167 = .ok (.putfield 182, 3) := by decide +kernel
theorem dX12_behindOne_170 : decode cX12_behindOne 170 = .ok (.aload_n 0, 1) := by decide +kernel
theorem dX12_behindOne_171 : decode cX12_behindOne 171 = .ok (.dup, 1) := by decide +kernel
theorem dX12_behindOne_172 : decode cX12_behindOne 172 = .ok (.getfield 189, 3) := by decide +kernel
theorem dX12_behindOne_175 : decode cX12_behindOne 175 = .ok (.iconst 1, 1) := by decide +kernel
theorem dX12_behindOne_176 : decode cX12_behindOne 176 = .ok (.isub, 1) := by decide +kernel
theorem dX12_behindOne_177 : decode cX12_behindOne 177 = .ok (.putfield 189, 3) := by decide +kernel
theorem dX12_behindOne_180 : decode cX12_behindOne 180 = .ok (.iload_n 2, 1) := by decide +kernel
theorem dX12_behindOne_181 : decode cX12_behindOne 181 = .ok (.bipush 40, 2) := by decide +kernel
theorem dX12_behindOne_183 : decode cX12_behindOne 183 = .ok (.if_icmp .le 21, 3) := by decide +kernel
theorem dX12_behindOne_186 : decode cX12_behindOne 186 = .ok (.aload_n 0, 1) := by decide +kernel
theorem dX12_behindOne_187 : decode cX12_behindOne 187 = .ok (.iload_n 2, 1) := by decide +kernel
theorem dX12_behindOne_188 : decode cX12_behindOne 188 = .ok (.bipush 43, 2) := by decide +kernel
theorem dX12_behindOne_190 : decode cX12_behindOne 190 = .ok (.if_icmp .ne 8, 3) := by decide +kernel
theorem dX12_behindOne_193 : decode cX12_behindOne 193 = .ok (.bipush 7, 2) := by decide +kernel
theorem dX12_behindOne_195 : decode cX12_behindOne 195 = .ok (.goto 5, 3) := by decide +kernel
theorem dX12_behindOne_198 : decode cX12_behindOne 198 = .ok (.bipush 8, 2) := by decide +kernel
theorem dX12_behindOne_200 : decode cX12_behindOne 200 = .ok (.iconst 0, 1) := by decide +kernel
theorem dX12_behindOne_201 : decode cX12_behindOne 201 = .ok (.invokevirtual 192, 3) := by decide +kernel
theorem dX12_behindOne_204 : decode cX12_behindOne 204 = .ok (.aload_n 0, 1) := by decide +kernel
theorem dX12_behindOne_205 : decode cX12_behindOne 205 = .ok (.invokevirtual 203, 3) := by decide +kernel
theorem dX12_behindOne_208 : decode cX12_behindOne 208 = .ok (.aload_n 0, 1) := by decide +kernel
theorem dX12_behindOne_209 : decode cX12_behindOne 209 = .ok (.invokevirtual 200, 3) := by decide +kernel
theorem dX12_behindOne_212 : decode cX12_behindOne 212 = .ok (.iconst 0, 1) := by decide +kernel
theorem dX12_behindOne_213 : decode cX12_behindOne 213 = .ok (.ireturn, 1) := by decide +kernel
theorem dX12_summed_0 : decode cX12_summed 0 = .ok (.aload_n 0, 1) := by decide +kernel
theorem dX12_summed_1 : decode cX12_summed 1 = .ok (.iconst 0, 1) := by decide +kernel
theorem dX12_summed_2 : decode cX12_summed 2 = .ok (.putfield 182, 3) := by decide +kernel
theorem dX12_summed_5 : decode cX12_summed 5 = .ok (.aload_n 0, 1) := by decide +kernel
theorem dX12_summed_6 : decode cX12_summed 6 = .ok (.iconst 0, 1) := by decide +kernel
theorem dX12_summed_7 : decode cX12_summed 7 = .ok (.putfield 185, 3) := by decide +kernel
theorem dX12_summed_10 : decode cX12_summed 10 = .ok (.aload_n 0, 1) := by decide +kernel
theorem dX12_summed_11 : decode cX12_summed 11 = .ok (.getfield 185, 3) := by decide +kernel
theorem dX12_summed_14 : decode cX12_summed 14 = .ok (.ifCond .eq 10, 3) := by decide +kernel
theorem dX12_summed_17 : decode cX12_summed 17 = .ok (.aload_n 0, 1) := by decide +kernel
theorem dX12_summed_18 : decode cX12_summed 18 = .ok (.invokevirtual 234, 3) := by decide +kernel
theorem dX12_summed_21 : decode cX12_summed 21 = .ok (.ifCond .eq 31, 3) := by decide +kernel
theorem dX12_summed_24 : decode cX12_summed 24 = .ok (.aload_n 0, 1) := by decide +kernel
theorem dX12_summed_25 : decode cX12_summed 25 = .ok (.getfield 185, 3) := by decide +kernel
theorem dX12_summed_28 : decode cX12_summed 28 = .ok (.ifCond .eq 10, 3) := by decide +kernel
theorem dX12_summed_31 : decode cX12_summed 31 = .ok (.aload_n 0, 1) := by decide +kernel
theorem dX12_summed_32 : decode cX12_summed 32 = .ok (.invokevirtual 237, 3) := by decide +kernel
theorem dX12_summed_35 : decode cX12_summed 35 = .ok (.goto 7, 3) := by decide +kernel
theorem dX12_summed_38 : decode cX12_summed 38 = .ok (.aload_n 0, 1) := by decide +kernel
theorem dX12_summed_39 : decode cX12_summed 39 = .ok (.invokevirtual 240, 3) := by decide +kernel
theorem dX12_summed_42 : decode cX12_summed 42 = .ok (.istore_n 1, 1) := by decide +kernel
theorem dX12_summed_43 : decode cX12_summed 43 = .ok (.iload_n 1, 1) := by decide +kernel
theorem dX12_summed_44 : decode cX12_summed 44 = .ok (.ifCond .eq 5, 3) := by decide +kernel
theorem dX12_summed_47 : decode cX12_summed 47 = .ok (.iload_n 1, 1) := by decide +kernel
theorem dX12_summed_48 : decode cX12_summed 48 = .ok (.ireturn, 1) := by decide +kernel
theorem dX12_summed_49 : decode cX12_summed 49 = .ok (.goto (-39), 3) := by decide +kernel
theorem dX12_summed_52 : decode cX12_summed 52 = .ok (.aload_n 0, 1) := by decide +kernel
theorem dX12_summed_53 : decode cX12_summed 53 = .ok (.iconst 3, 1) := by decide +kernel
theorem dX12_summed_54 : decode cX12_summed 54 = .ok (.invokevirtual 231, 3) := by decide +kernel
theorem dX12_summed_57 : decode cX12_summed 57 = .ok (.aload_n 0, 1) := by decide +kernel
theorem dX12_summed_58 : decode cX12_summed 58 = .ok (.getfield 182, 3) := by decide +kernel
theorem dX12_summed_61 : decode cX12_summed 61 = .ok (.ifCond .le 7, 3) := by decide +kernel
theorem dX12_summed_64 : decode cX12_summed 64 = .ok (.iconst 1, 1) := by decide +kernel
theorem dX12_summed_65 : decode cX12_summed 65 = .ok (.goto 4, 3) := by decide +kernel
theorem dX12_summed_68 : decode cX12_summed 68 = .ok (.iconst 0, 1) := by decide +kernel
theorem dX12_summed_69 : decode cX12_summed 69 = .ok (.ireturn, 1) := by decide +kernel
theorem dX12_compareOf_0 : decode cX12_compareOf 0 = .ok (.aload_n 0, 1) := by decide +kernel
theorem dX12_compareOf_1 : decode cX12_compareOf 1 = .ok (.getfield 151, 3) := by decide +kernel
theorem dX12_compareOf_4 : decode cX12_compareOf 4 = .ok (.bipush 60, 2) := by decide +kernel
theorem dX12_compareOf_6 : decode cX12_compareOf 6 = .ok (.if_icmp .ne 8, 3) := by decide +kernel
theorem dX12_compareOf_9 : decode cX12_compareOf 9 = .ok (.bipush 10, 2) := by decide +kernel
theorem dX12_compareOf_11 : decode cX12_compareOf 11 = .ok (.goto 72, 3) := by decide +kernel
