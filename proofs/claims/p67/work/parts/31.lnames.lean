def RL : String := "JournalDiskLaw"
abbrev cL_below : ByteArray := method_2_code
def yL_below : MethodName := ⟨RL, "below", "(II)I"⟩
abbrev cL_cell : ByteArray := method_3_code
def yL_cell : MethodName := ⟨RL, "cell", "([II)I"⟩
abbrev cL_node : ByteArray := method_4_code
def yL_node : MethodName := ⟨RL, "node", "(LJournalDisk;I)I"⟩
abbrev cL_act : ByteArray := method_5_code
def yL_act : MethodName := ⟨RL, "act", "(LJournalDisk;[ZII)Z"⟩
abbrev cL_handle : ByteArray := method_6_code
def yL_handle : MethodName := ⟨RL, "handle", "(LJournalDisk;[ZIIII)Z"⟩
abbrev cL_power : ByteArray := method_7_code
def yL_power : MethodName := ⟨RL, "power", "(LJournalDisk;II)Z"⟩
abbrev cL_isSound : ByteArray := method_8_code
def yL_isSound : MethodName := ⟨RL, "isSound", "(LJournalDisk;)Z"⟩
abbrev cL_law : ByteArray := code
def yL_law : MethodName := ⟨RL, "law", "([I)Z"⟩
theorem dL_below_0 : decode cL_below 0 = .ok (.iload_n 0, 1) := by decide +kernel
theorem dL_below_1 : decode cL_below 1 = .ok (.ldc 7, 2) := by decide +kernel
theorem dL_below_3 : decode cL_below 3 = .ok (.iand, 1) := by decide +kernel
theorem dL_below_4 : decode cL_below 4 = .ok (.iload_n 1, 1) := by decide +kernel
theorem dL_below_5 : decode cL_below 5 = .ok (.irem, 1) := by decide +kernel
theorem dL_below_6 : decode cL_below 6 = .ok (.ireturn, 1) := by decide +kernel
theorem dL_cell_0 : decode cL_cell 0 = .ok (.iload_n 1, 1) := by decide +kernel
theorem dL_cell_1 : decode cL_cell 1 = .ok (.aload_n 0, 1) := by decide +kernel
theorem dL_cell_2 : decode cL_cell 2 = .ok (.arraylength, 1) := by decide +kernel
theorem dL_cell_3 : decode cL_cell 3 = .ok (.if_icmp .ge 9, 3) := by decide +kernel
theorem dL_cell_6 : decode cL_cell 6 = .ok (.aload_n 0, 1) := by decide +kernel
theorem dL_cell_7 : decode cL_cell 7 = .ok (.iload_n 1, 1) := by decide +kernel
theorem dL_cell_8 : decode cL_cell 8 = .ok (.iaload, 1) := by decide +kernel
theorem dL_cell_9 : decode cL_cell 9 = .ok (.goto 9, 3) := by decide +kernel
theorem dL_cell_12 : decode cL_cell 12 = .ok (.ldc 8, 2) := by decide +kernel
theorem dL_cell_14 : decode cL_cell 14 = .ok (.iload_n 1, 1) := by decide +kernel
theorem dL_cell_15 : decode cL_cell 15 = .ok (.iconst 3, 1) := by decide +kernel
theorem dL_cell_16 : decode cL_cell 16 = .ok (.iadd, 1) := by decide +kernel
theorem dL_cell_17 : decode cL_cell 17 = .ok (.imul, 1) := by decide +kernel
theorem dL_cell_18 : decode cL_cell 18 = .ok (.ireturn, 1) := by decide +kernel
theorem dL_node_0 : decode cL_node 0 = .ok (.iload_n 1, 1) := by decide +kernel
theorem dL_node_1 : decode cL_node 1 = .ok (.bipush 11, 2) := by decide +kernel
theorem dL_node_3 : decode cL_node 3 = .ok (.invokestatic 9, 3) := by decide +kernel
theorem dL_node_6 : decode cL_node 6 = .ok (.istore_n 2, 1) := by decide +kernel
theorem dL_node_7 : decode cL_node 7 = .ok (.aload_n 0, 1) := by decide +kernel
theorem dL_node_8 : decode cL_node 8 = .ok (.iload_n 2, 1) := by decide +kernel
theorem dL_node_9 : decode cL_node 9 = .ok (.invokevirtual 15, 3) := by decide +kernel
theorem dL_node_12 : decode cL_node 12 = .ok (.ifCond .le 7, 3) := by decide +kernel
theorem dL_node_15 : decode cL_node 15 = .ok (.iload_n 2, 1) := by decide +kernel
theorem dL_node_16 : decode cL_node 16 = .ok (.goto 4, 3) := by decide +kernel
theorem dL_node_19 : decode cL_node 19 = .ok (.iconst 0, 1) := by decide +kernel
theorem dL_node_20 : decode cL_node 20 = .ok (.ireturn, 1) := by decide +kernel
theorem dL_act_0 : decode cL_act 0 = .ok (.aload_n 0, 1) := by decide +kernel
theorem dL_act_1 : decode cL_act 1 = .ok (.iload_n 3, 1) := by decide +kernel
theorem dL_act_2 : decode cL_act 2 = .ok (.invokestatic 21, 3) := by decide +kernel
theorem dL_act_5 : decode cL_act 5 = .ok (.istore 4, 2) := by decide +kernel
theorem dL_act_7 : decode cL_act 7 = .ok (.aload_n 0, 1) := by decide +kernel
theorem dL_act_8 : decode cL_act 8 = .ok (.iload_n 3, 1) := by decide +kernel
theorem dL_act_9 : decode cL_act 9 = .ok (.iconst 4, 1) := by decide +kernel
theorem dL_act_10 : decode cL_act 10 = .ok (.ishr, 1) := by decide +kernel
theorem dL_act_11 : decode cL_act 11 = .ok (.invokestatic 21, 3) := by decide +kernel
theorem dL_act_14 : decode cL_act 14 = .ok (.istore 5, 2) := by decide +kernel
theorem dL_act_16 : decode cL_act 16 = .ok (.iconst 1, 1) := by decide +kernel
theorem dL_act_17 : decode cL_act 17 = .ok (.iload_n 3, 1) := by decide +kernel
theorem dL_act_18 : decode cL_act 18 = .ok (.bipush 8, 2) := by decide +kernel
theorem dL_act_20 : decode cL_act 20 = .ok (.ishr, 1) := by decide +kernel
theorem dL_act_21 : decode cL_act 21 = .ok (.bipush 6, 2) := by decide +kernel
theorem dL_act_23 : decode cL_act 23 = .ok (.invokestatic 9, 3) := by decide +kernel
theorem dL_act_26 : decode cL_act 26 = .ok (.iadd, 1) := by decide +kernel
theorem dL_act_27 : decode cL_act 27 = .ok (.istore 6, 2) := by decide +kernel
theorem dL_act_29 : decode cL_act 29 = .ok (.iconst 1, 1) := by decide +kernel
theorem dL_act_30 : decode cL_act 30 = .ok (.iload_n 2, 1) := by decide +kernel
theorem dL_act_31 : decode cL_act 31 = .ok (.iconst 5, 1) := by decide +kernel
theorem dL_act_32 : decode cL_act 32 = .ok (.ishr, 1) := by decide +kernel
theorem dL_act_33 : decode cL_act 33 = .ok (.bipush 6, 2) := by decide +kernel
theorem dL_act_35 : decode cL_act 35 = .ok (.invokestatic 9, 3) := by decide +kernel
theorem dL_act_38 : decode cL_act 38 = .ok (.iadd, 1) := by decide +kernel
theorem dL_act_39 : decode cL_act 39 = .ok (.istore 7, 2) := by decide +kernel
theorem dL_act_41 : decode cL_act 41 = .ok (.iload_n 2, 1) := by decide +kernel
theorem dL_act_42 : decode cL_act 42 = .ok (.iconst 4, 1) := by decide +kernel
theorem dL_act_43 : decode cL_act 43 = .ok (.ishr, 1) := by decide +kernel
theorem dL_act_44 : decode cL_act 44 = .ok (.iconst 3, 1) := by decide +kernel
theorem dL_act_45 : decode cL_act 45 = .ok (.invokestatic 9, 3) := by decide +kernel
theorem dL_act_48 : decode cL_act 48 = .ok (.istore 8, 2) := by decide +kernel
theorem dL_act_50 : decode cL_act 50 = .ok (.iload_n 2, 1) := by decide +kernel
theorem dL_act_51 : decode cL_act 51 = .ok (.bipush 20, 2) := by decide +kernel
theorem dL_act_53 : decode cL_act 53 = .ok (.invokestatic 9, 3) := by decide +kernel
theorem dL_act_56 : decode cL_act 56 = .ok (.tableswitch 358 0 18 #[92, 92, 92, 104, 104, 116, 140, 154, 168, 180, 196, 212, 224, 243, 261, 288, 305, 346, 346], 92) := by decide +kernel
theorem dL_act_148 : decode cL_act 148 = .ok (.aload_n 0, 1) := by decide +kernel
theorem dL_act_149 : decode cL_act 149 = .ok (.iload 4, 2) := by decide +kernel
theorem dL_act_151 : decode cL_act 151 = .ok (.iload 6, 2) := by decide +kernel
theorem dL_act_153 : decode cL_act 153 = .ok (.invokevirtual 25, 3) := by decide +kernel
theorem dL_act_156 : decode cL_act 156 = .ok (.pop, 1) := by decide +kernel
theorem dL_act_157 : decode cL_act 157 = .ok (.goto 264, 3) := by decide +kernel
theorem dL_act_160 : decode cL_act 160 = .ok (.aload_n 0, 1) := by decide +kernel
theorem dL_act_161 : decode cL_act 161 = .ok (.iload 4, 2) := by decide +kernel
theorem dL_act_163 : decode cL_act 163 = .ok (.iload 6, 2) := by decide +kernel
theorem dL_act_165 : decode cL_act 165 = .ok (.invokevirtual 28, 3) := by decide +kernel
theorem dL_act_168 : decode cL_act 168 = .ok (.pop, 1) := by decide +kernel
theorem dL_act_169 : decode cL_act 169 = .ok (.goto 252, 3) := by decide +kernel
theorem dL_act_172 : decode cL_act 172 = .ok (.aload_n 0, 1) := by decide +kernel
theorem dL_act_173 : decode cL_act 173 = .ok (.iload 4, 2) := by decide +kernel
theorem dL_act_175 : decode cL_act 175 = .ok (.iload 6, 2) := by decide +kernel
theorem dL_act_177 : decode cL_act 177 = .ok (.iload_n 2, 1) := by decide +kernel
theorem dL_act_178 : decode cL_act 178 = .ok (.iconst 5, 1) := by decide +kernel
theorem dL_act_179 : decode cL_act 179 = .ok (.ishr, 1) := by decide +kernel
theorem dL_act_180 : decode cL_act 180 = .ok (.iconst 5, 1) := by decide +kernel
theorem dL_act_181 : decode cL_act 181 = .ok (.invokestatic 9, 3) := by decide +kernel
theorem dL_act_184 : decode cL_act 184 = .ok (.iconst 1, 1) := by decide +kernel
theorem dL_act_185 : decode cL_act 185 = .ok (.isub, 1) := by decide +kernel
theorem dL_act_186 : decode cL_act 186 = .ok (.iload 6, 2) := by decide +kernel
theorem dL_act_188 : decode cL_act 188 = .ok (.iconst 0, 1) := by decide +kernel
theorem dL_act_189 : decode cL_act 189 = .ok (.invokevirtual 31, 3) := by decide +kernel
theorem dL_act_192 : decode cL_act 192 = .ok (.pop, 1) := by decide +kernel
theorem dL_act_193 : decode cL_act 193 = .ok (.goto 228, 3) := by decide +kernel
theorem dL_act_196 : decode cL_act 196 = .ok (.aload_n 0, 1) := by decide +kernel
theorem dL_act_197 : decode cL_act 197 = .ok (.iload 4, 2) := by decide +kernel
theorem dL_act_199 : decode cL_act 199 = .ok (.iload 6, 2) := by decide +kernel
theorem dL_act_201 : decode cL_act 201 = .ok (.iload 5, 2) := by decide +kernel
theorem dL_act_203 : decode cL_act 203 = .ok (.invokevirtual 35, 3) := by decide +kernel
theorem dL_act_206 : decode cL_act 206 = .ok (.pop, 1) := by decide +kernel
theorem dL_act_207 : decode cL_act 207 = .ok (.goto 214, 3) := by decide +kernel
theorem dL_act_210 : decode cL_act 210 = .ok (.aload_n 0, 1) := by decide +kernel
theorem dL_act_211 : decode cL_act 211 = .ok (.iload 4, 2) := by decide +kernel
theorem dL_act_213 : decode cL_act 213 = .ok (.iload 6, 2) := by decide +kernel
theorem dL_act_215 : decode cL_act 215 = .ok (.iload 5, 2) := by decide +kernel
theorem dL_act_217 : decode cL_act 217 = .ok (.invokevirtual 39, 3) := by decide +kernel
theorem dL_act_220 : decode cL_act 220 = .ok (.pop, 1) := by decide +kernel
theorem dL_act_221 : decode cL_act 221 = .ok (.goto 200, 3) := by decide +kernel
theorem dL_act_224 : decode cL_act 224 = .ok (.aload_n 0, 1) := by decide +kernel
theorem dL_act_225 : decode cL_act 225 = .ok (.iload 4, 2) := by decide +kernel
theorem dL_act_227 : decode cL_act 227 = .ok (.iload 6, 2) := by decide +kernel
theorem dL_act_229 : decode cL_act 229 = .ok (.invokevirtual 42, 3) := by decide +kernel
theorem dL_act_232 : decode cL_act 232 = .ok (.pop, 1) := by decide +kernel
theorem dL_act_233 : decode cL_act 233 = .ok (.goto 188, 3) := by decide +kernel
theorem dL_act_236 : decode cL_act 236 = .ok (.aload_n 0, 1) := by decide +kernel
theorem dL_act_237 : decode cL_act 237 = .ok (.iload 4, 2) := by decide +kernel
theorem dL_act_239 : decode cL_act 239 = .ok (.iload 6, 2) := by decide +kernel
theorem dL_act_241 : decode cL_act 241 = .ok (.iload 5, 2) := by decide +kernel
theorem dL_act_243 : decode cL_act 243 = .ok (.iload 7, 2) := by decide +kernel
theorem dL_act_245 : decode cL_act 245 = .ok (.invokevirtual 45, 3) := by decide +kernel
theorem dL_act_248 : decode cL_act 248 = .ok (.pop, 1) := by decide +kernel
theorem dL_act_249 : decode cL_act 249 = .ok (.goto 172, 3) := by decide +kernel
theorem dL_act_252 : decode cL_act 252 = .ok (.aload_n 0, 1) := by decide +kernel
theorem dL_act_253 : decode cL_act 253 = .ok (.iload 4, 2) := by decide +kernel
theorem dL_act_255 : decode cL_act 255 = .ok (.iload 6, 2) := by decide +kernel
theorem dL_act_257 : decode cL_act 257 = .ok (.iload 5, 2) := by decide +kernel
theorem dL_act_259 : decode cL_act 259 = .ok (.iload 7, 2) := by decide +kernel
theorem dL_act_261 : decode cL_act 261 = .ok (.invokevirtual 49, 3) := by decide +kernel
theorem dL_act_264 : decode cL_act 264 = .ok (.pop, 1) := by decide +kernel
theorem dL_act_265 : decode cL_act 265 = .ok (.goto 156, 3) := by decide +kernel
theorem dL_act_268 : decode cL_act 268 = .ok (.aload_n 0, 1) := by decide +kernel
theorem dL_act_269 : decode cL_act 269 = .ok (.iload 4, 2) := by decide +kernel
theorem dL_act_271 : decode cL_act 271 = .ok (.iload 6, 2) := by decide +kernel
theorem dL_act_273 : decode cL_act 273 = .ok (.invokevirtual 52, 3) := by decide +kernel
theorem dL_act_276 : decode cL_act 276 = .ok (.pop, 1) := by decide +kernel
theorem dL_act_277 : decode cL_act 277 = .ok (.goto 144, 3) := by decide +kernel
theorem dL_act_280 : decode cL_act 280 = .ok (.aload_n 0, 1) := by decide +kernel
theorem dL_act_281 : decode cL_act 281 = .ok (.iload 4, 2) := by decide +kernel
theorem dL_act_283 : decode cL_act 283 = .ok (.iload_n 2, 1) := by decide +kernel
theorem dL_act_284 : decode cL_act 284 = .ok (.iconst 5, 1) := by decide +kernel
theorem dL_act_285 : decode cL_act 285 = .ok (.ishr, 1) := by decide +kernel
theorem dL_act_286 : decode cL_act 286 = .ok (.sipush 321, 3) := by decide +kernel
theorem dL_act_289 : decode cL_act 289 = .ok (.invokestatic 9, 3) := by decide +kernel
theorem dL_act_292 : decode cL_act 292 = .ok (.invokevirtual 55, 3) := by decide +kernel
theorem dL_act_295 : decode cL_act 295 = .ok (.pop, 1) := by decide +kernel
theorem dL_act_296 : decode cL_act 296 = .ok (.goto 125, 3) := by decide +kernel
theorem dL_act_299 : decode cL_act 299 = .ok (.aload_n 0, 1) := by decide +kernel
theorem dL_act_300 : decode cL_act 300 = .ok (.iload 4, 2) := by decide +kernel
theorem dL_act_302 : decode cL_act 302 = .ok (.iload_n 2, 1) := by decide +kernel
theorem dL_act_303 : decode cL_act 303 = .ok (.iconst 5, 1) := by decide +kernel
theorem dL_act_304 : decode cL_act 304 = .ok (.ishr, 1) := by decide +kernel
theorem dL_act_305 : decode cL_act 305 = .ok (.bipush 20, 2) := by decide +kernel
theorem dL_act_307 : decode cL_act 307 = .ok (.invokestatic 9, 3) := by decide +kernel
theorem dL_act_310 : decode cL_act 310 = .ok (.invokevirtual 58, 3) := by decide +kernel
theorem dL_act_313 : decode cL_act 313 = .ok (.pop, 1) := by decide +kernel
theorem dL_act_314 : decode cL_act 314 = .ok (.goto 107, 3) := by decide +kernel
theorem dL_act_317 : decode cL_act 317 = .ok (.aload_n 0, 1) := by decide +kernel
theorem dL_act_318 : decode cL_act 318 = .ok (.iload 4, 2) := by decide +kernel
theorem dL_act_320 : decode cL_act 320 = .ok (.iload_n 2, 1) := by decide +kernel
theorem dL_act_321 : decode cL_act 321 = .ok (.iconst 5, 1) := by decide +kernel
theorem dL_act_322 : decode cL_act 322 = .ok (.ishr, 1) := by decide +kernel
theorem dL_act_323 : decode cL_act 323 = .ok (.iconst 4, 1) := by decide +kernel
theorem dL_act_324 : decode cL_act 324 = .ok (.invokestatic 9, 3) := by decide +kernel
theorem dL_act_327 : decode cL_act 327 = .ok (.iload 5, 2) := by decide +kernel
theorem dL_act_329 : decode cL_act 329 = .ok (.iload_n 2, 1) := by decide +kernel
theorem dL_act_330 : decode cL_act 330 = .ok (.bipush 7, 2) := by decide +kernel
theorem dL_act_332 : decode cL_act 332 = .ok (.ishr, 1) := by decide +kernel
theorem dL_act_333 : decode cL_act 333 = .ok (.iconst 4, 1) := by decide +kernel
theorem dL_act_334 : decode cL_act 334 = .ok (.invokestatic 9, 3) := by decide +kernel
theorem dL_act_337 : decode cL_act 337 = .ok (.invokevirtual 61, 3) := by decide +kernel
theorem dL_act_340 : decode cL_act 340 = .ok (.pop, 1) := by decide +kernel
theorem dL_act_341 : decode cL_act 341 = .ok (.goto 80, 3) := by decide +kernel
theorem dL_act_344 : decode cL_act 344 = .ok (.aload_n 0, 1) := by decide +kernel
theorem dL_act_345 : decode cL_act 345 = .ok (.iload 4, 2) := by decide +kernel
theorem dL_act_347 : decode cL_act 347 = .ok (.iload_n 2, 1) := by decide +kernel
theorem dL_act_348 : decode cL_act 348 = .ok (.iconst 5, 1) := by decide +kernel
theorem dL_act_349 : decode cL_act 349 = .ok (.ishr, 1) := by decide +kernel
theorem dL_act_350 : decode cL_act 350 = .ok (.iconst 4, 1) := by decide +kernel
theorem dL_act_351 : decode cL_act 351 = .ok (.invokestatic 9, 3) := by decide +kernel
theorem dL_act_354 : decode cL_act 354 = .ok (.invokevirtual 64, 3) := by decide +kernel
theorem dL_act_357 : decode cL_act 357 = .ok (.pop, 1) := by decide +kernel
theorem dL_act_358 : decode cL_act 358 = .ok (.goto 63, 3) := by decide +kernel
theorem dL_act_361 : decode cL_act 361 = .ok (.aload_n 0, 1) := by decide +kernel
theorem dL_act_362 : decode cL_act 362 = .ok (.iload_n 2, 1) := by decide +kernel
theorem dL_act_363 : decode cL_act 363 = .ok (.iconst 5, 1) := by decide +kernel
theorem dL_act_364 : decode cL_act 364 = .ok (.ishr, 1) := by decide +kernel
theorem dL_act_365 : decode cL_act 365 = .ok (.iconst 4, 1) := by decide +kernel
theorem dL_act_366 : decode cL_act 366 = .ok (.invokestatic 9, 3) := by decide +kernel
theorem dL_act_369 : decode cL_act 369 = .ok (.iload_n 2, 1) := by decide +kernel
theorem dL_act_370 : decode cL_act 370 = .ok (.bipush 7, 2) := by decide +kernel
theorem dL_act_372 : decode cL_act 372 = .ok (.ishr, 1) := by decide +kernel
theorem dL_act_373 : decode cL_act 373 = .ok (.iconst 4, 1) := by decide +kernel
theorem dL_act_374 : decode cL_act 374 = .ok (.invokestatic 9, 3) := by decide +kernel
theorem dL_act_377 : decode cL_act 377 = .ok (.ifCond .ne 12, 3) := by decide +kernel
theorem dL_act_380 : decode cL_act 380 = .ok (.iload_n 3, 1) := by decide +kernel
theorem dL_act_381 : decode cL_act 381 = .ok (.bipush 9, 2) := by decide +kernel
theorem dL_act_383 : decode cL_act 383 = .ok (.invokestatic 9, 3) := by decide +kernel
theorem dL_act_386 : decode cL_act 386 = .ok (.goto 9, 3) := by decide +kernel
theorem dL_act_389 : decode cL_act 389 = .ok (.iload_n 3, 1) := by decide +kernel
theorem dL_act_390 : decode cL_act 390 = .ok (.bipush 121, 2) := by decide +kernel
theorem dL_act_392 : decode cL_act 392 = .ok (.invokestatic 9, 3) := by decide +kernel
theorem dL_act_395 : decode cL_act 395 = .ok (.invokevirtual 67, 3) := by decide +kernel
theorem dL_act_398 : decode cL_act 398 = .ok (.pop, 1) := by decide +kernel
theorem dL_act_399 : decode cL_act 399 = .ok (.goto 22, 3) := by decide +kernel
theorem dL_act_402 : decode cL_act 402 = .ok (.aload_n 0, 1) := by decide +kernel
theorem dL_act_403 : decode cL_act 403 = .ok (.aload_n 1, 1) := by decide +kernel
theorem dL_act_404 : decode cL_act 404 = .ok (.iload 8, 2) := by decide +kernel
theorem dL_act_406 : decode cL_act 406 = .ok (.iload 4, 2) := by decide +kernel
theorem dL_act_408 : decode cL_act 408 = .ok (.iload_n 2, 1) := by decide +kernel
theorem dL_act_409 : decode cL_act 409 = .ok (.iload_n 3, 1) := by decide +kernel
theorem dL_act_410 : decode cL_act 410 = .ok (.invokestatic 70, 3) := by decide +kernel
theorem dL_act_413 : decode cL_act 413 = .ok (.ireturn, 1) := by decide +kernel
theorem dL_act_414 : decode cL_act 414 = .ok (.aload_n 0, 1) := by decide +kernel
theorem dL_act_415 : decode cL_act 415 = .ok (.iload_n 2, 1) := by decide +kernel
theorem dL_act_416 : decode cL_act 416 = .ok (.iload_n 3, 1) := by decide +kernel
theorem dL_act_417 : decode cL_act 417 = .ok (.invokestatic 74, 3) := by decide +kernel
theorem dL_act_420 : decode cL_act 420 = .ok (.ireturn, 1) := by decide +kernel
theorem dL_act_421 : decode cL_act 421 = .ok (.iconst 1, 1) := by decide +kernel
theorem dL_act_422 : decode cL_act 422 = .ok (.ireturn, 1) := by decide +kernel
theorem dL_handle_0 : decode cL_handle 0 = .ok (.aload_n 1, 1) := by decide +kernel
theorem dL_handle_1 : decode cL_handle 1 = .ok (.iload_n 2, 1) := by decide +kernel
theorem dL_handle_2 : decode cL_handle 2 = .ok (.baload, 1) := by decide +kernel
theorem dL_handle_3 : decode cL_handle 3 = .ok (.ifCond .ne 57, 3) := by decide +kernel
theorem dL_handle_6 : decode cL_handle 6 = .ok (.iconst 0, 1) := by decide +kernel
theorem dL_handle_7 : decode cL_handle 7 = .ok (.istore_n 2, 1) := by decide +kernel
theorem dL_handle_8 : decode cL_handle 8 = .ok (.aload_n 1, 1) := by decide +kernel
theorem dL_handle_9 : decode cL_handle 9 = .ok (.iload_n 2, 1) := by decide +kernel
theorem dL_handle_10 : decode cL_handle 10 = .ok (.baload, 1) := by decide +kernel
theorem dL_handle_11 : decode cL_handle 11 = .ok (.ifCond .eq 9, 3) := by decide +kernel
theorem dL_handle_14 : decode cL_handle 14 = .ok (.iinc 2 1, 3) := by decide +kernel
theorem dL_handle_17 : decode cL_handle 17 = .ok (.goto (-9), 3) := by decide +kernel
theorem dL_handle_20 : decode cL_handle 20 = .ok (.aload_n 0, 1) := by decide +kernel
theorem dL_handle_21 : decode cL_handle 21 = .ok (.iload_n 3, 1) := by decide +kernel
theorem dL_handle_22 : decode cL_handle 22 = .ok (.invokevirtual 78, 3) := by decide +kernel
theorem dL_handle_25 : decode cL_handle 25 = .ok (.istore 6, 2) := by decide +kernel
theorem dL_handle_27 : decode cL_handle 27 = .ok (.aload_n 1, 1) := by decide +kernel
theorem dL_handle_28 : decode cL_handle 28 = .ok (.iload_n 2, 1) := by decide +kernel
theorem dL_handle_29 : decode cL_handle 29 = .ok (.iload 6, 2) := by decide +kernel
theorem dL_handle_31 : decode cL_handle 31 = .ok (.iload_n 2, 1) := by decide +kernel
theorem dL_handle_32 : decode cL_handle 32 = .ok (.if_icmp .ne 7, 3) := by decide +kernel
theorem dL_handle_35 : decode cL_handle 35 = .ok (.iconst 1, 1) := by decide +kernel
theorem dL_handle_36 : decode cL_handle 36 = .ok (.goto 4, 3) := by decide +kernel
theorem dL_handle_39 : decode cL_handle 39 = .ok (.iconst 0, 1) := by decide +kernel
theorem dL_handle_40 : decode cL_handle 40 = .ok (.bastore, 1) := by decide +kernel
theorem dL_handle_41 : decode cL_handle 41 = .ok (.iload 6, 2) := by decide +kernel
theorem dL_handle_43 : decode cL_handle 43 = .ok (.iload_n 2, 1) := by decide +kernel
theorem dL_handle_44 : decode cL_handle 44 = .ok (.if_icmp .eq 10, 3) := by decide +kernel
theorem dL_handle_47 : decode cL_handle 47 = .ok (.iload 6, 2) := by decide +kernel
theorem dL_handle_49 : decode cL_handle 49 = .ok (.bipush (-3), 2) := by decide +kernel
theorem dL_handle_51 : decode cL_handle 51 = .ok (.if_icmp .ne 7, 3) := by decide +kernel
theorem dL_handle_54 : decode cL_handle 54 = .ok (.iconst 1, 1) := by decide +kernel
theorem dL_handle_55 : decode cL_handle 55 = .ok (.goto 4, 3) := by decide +kernel
theorem dL_handle_58 : decode cL_handle 58 = .ok (.iconst 0, 1) := by decide +kernel
theorem dL_handle_59 : decode cL_handle 59 = .ok (.ireturn, 1) := by decide +kernel
theorem dL_handle_60 : decode cL_handle 60 = .ok (.iload 4, 2) := by decide +kernel
theorem dL_handle_62 : decode cL_handle 62 = .ok (.bipush 6, 2) := by decide +kernel
theorem dL_handle_64 : decode cL_handle 64 = .ok (.ishr, 1) := by decide +kernel
theorem dL_handle_65 : decode cL_handle 65 = .ok (.iconst 4, 1) := by decide +kernel
theorem dL_handle_66 : decode cL_handle 66 = .ok (.invokestatic 9, 3) := by decide +kernel
theorem dL_handle_69 : decode cL_handle 69 = .ok (.ifCond .ne 16, 3) := by decide +kernel
theorem dL_handle_72 : decode cL_handle 72 = .ok (.aload_n 1, 1) := by decide +kernel
theorem dL_handle_73 : decode cL_handle 73 = .ok (.iload_n 2, 1) := by decide +kernel
theorem dL_handle_74 : decode cL_handle 74 = .ok (.iconst 0, 1) := by decide +kernel
theorem dL_handle_75 : decode cL_handle 75 = .ok (.bastore, 1) := by decide +kernel
theorem dL_handle_76 : decode cL_handle 76 = .ok (.aload_n 0, 1) := by decide +kernel
theorem dL_handle_77 : decode cL_handle 77 = .ok (.iload_n 2, 1) := by decide +kernel
theorem dL_handle_78 : decode cL_handle 78 = .ok (.invokevirtual 81, 3) := by decide +kernel
theorem dL_handle_81 : decode cL_handle 81 = .ok (.pop, 1) := by decide +kernel
theorem dL_handle_82 : decode cL_handle 82 = .ok (.goto 54, 3) := by decide +kernel
theorem dL_handle_85 : decode cL_handle 85 = .ok (.iload 4, 2) := by decide +kernel
theorem dL_handle_87 : decode cL_handle 87 = .ok (.bipush 6, 2) := by decide +kernel
theorem dL_handle_89 : decode cL_handle 89 = .ok (.ishr, 1) := by decide +kernel
theorem dL_handle_90 : decode cL_handle 90 = .ok (.iconst 2, 1) := by decide +kernel
theorem dL_handle_91 : decode cL_handle 91 = .ok (.invokestatic 9, 3) := by decide +kernel
theorem dL_handle_94 : decode cL_handle 94 = .ok (.ifCond .ne 17, 3) := by decide +kernel
theorem dL_handle_97 : decode cL_handle 97 = .ok (.aload_n 0, 1) := by decide +kernel
theorem dL_handle_98 : decode cL_handle 98 = .ok (.iload_n 2, 1) := by decide +kernel
theorem dL_handle_99 : decode cL_handle 99 = .ok (.iload 5, 2) := by decide +kernel
theorem dL_handle_101 : decode cL_handle 101 = .ok (.sipush 257, 3) := by decide +kernel
theorem dL_handle_104 : decode cL_handle 104 = .ok (.invokestatic 9, 3) := by decide +kernel
theorem dL_handle_107 : decode cL_handle 107 = .ok (.invokevirtual 84, 3) := by decide +kernel
theorem dL_handle_110 : decode cL_handle 110 = .ok (.pop, 1) := by decide +kernel
theorem dL_handle_111 : decode cL_handle 111 = .ok (.aload_n 0, 1) := by decide +kernel
theorem dL_handle_112 : decode cL_handle 112 = .ok (.iload_n 2, 1) := by decide +kernel
theorem dL_handle_113 : decode cL_handle 113 = .ok (.iconst 1, 1) := by decide +kernel
theorem dL_handle_114 : decode cL_handle 114 = .ok (.iload 5, 2) := by decide +kernel
theorem dL_handle_116 : decode cL_handle 116 = .ok (.iconst 3, 1) := by decide +kernel
theorem dL_handle_117 : decode cL_handle 117 = .ok (.ishr, 1) := by decide +kernel
theorem dL_handle_118 : decode cL_handle 118 = .ok (.bipush 64, 2) := by decide +kernel
theorem dL_handle_120 : decode cL_handle 120 = .ok (.invokestatic 9, 3) := by decide +kernel
theorem dL_handle_123 : decode cL_handle 123 = .ok (.iadd, 1) := by decide +kernel
theorem dL_handle_124 : decode cL_handle 124 = .ok (.iload 5, 2) := by decide +kernel
theorem dL_handle_126 : decode cL_handle 126 = .ok (.sipush 256, 3) := by decide +kernel
theorem dL_handle_129 : decode cL_handle 129 = .ok (.invokestatic 9, 3) := by decide +kernel
theorem dL_handle_132 : decode cL_handle 132 = .ok (.invokevirtual 87, 3) := by decide +kernel
theorem dL_handle_135 : decode cL_handle 135 = .ok (.pop, 1) := by decide +kernel
theorem dL_handle_136 : decode cL_handle 136 = .ok (.iconst 1, 1) := by decide +kernel
theorem dL_handle_137 : decode cL_handle 137 = .ok (.ireturn, 1) := by decide +kernel
theorem dL_power_0 : decode cL_power 0 = .ok (.iload_n 1, 1) := by decide +kernel
theorem dL_power_1 : decode cL_power 1 = .ok (.bipush 6, 2) := by decide +kernel
theorem dL_power_3 : decode cL_power 3 = .ok (.ishr, 1) := by decide +kernel
theorem dL_power_4 : decode cL_power 4 = .ok (.iconst 5, 1) := by decide +kernel
theorem dL_power_5 : decode cL_power 5 = .ok (.invokestatic 9, 3) := by decide +kernel
theorem dL_power_8 : decode cL_power 8 = .ok (.tableswitch 71 0 2 #[28, 45, 62], 28) := by decide +kernel
theorem dL_power_36 : decode cL_power 36 = .ok (.aload_n 0, 1) := by decide +kernel
theorem dL_power_37 : decode cL_power 37 = .ok (.invokevirtual 90, 3) := by decide +kernel
theorem dL_power_40 : decode cL_power 40 = .ok (.aload_n 0, 1) := by decide +kernel
theorem dL_power_41 : decode cL_power 41 = .ok (.invokevirtual 94, 3) := by decide +kernel
theorem dL_power_44 : decode cL_power 44 = .ok (.if_icmp .eq 7, 3) := by decide +kernel
theorem dL_power_47 : decode cL_power 47 = .ok (.iconst 1, 1) := by decide +kernel
theorem dL_power_48 : decode cL_power 48 = .ok (.goto 4, 3) := by decide +kernel
theorem dL_power_51 : decode cL_power 51 = .ok (.iconst 0, 1) := by decide +kernel
theorem dL_power_52 : decode cL_power 52 = .ok (.ireturn, 1) := by decide +kernel
theorem dL_power_53 : decode cL_power 53 = .ok (.aload_n 0, 1) := by decide +kernel
theorem dL_power_54 : decode cL_power 54 = .ok (.invokevirtual 97, 3) := by decide +kernel
theorem dL_power_57 : decode cL_power 57 = .ok (.aload_n 0, 1) := by decide +kernel
theorem dL_power_58 : decode cL_power 58 = .ok (.invokevirtual 94, 3) := by decide +kernel
theorem dL_power_61 : decode cL_power 61 = .ok (.if_icmp .eq 7, 3) := by decide +kernel
theorem dL_power_64 : decode cL_power 64 = .ok (.iconst 1, 1) := by decide +kernel
theorem dL_power_65 : decode cL_power 65 = .ok (.goto 4, 3) := by decide +kernel
theorem dL_power_68 : decode cL_power 68 = .ok (.iconst 0, 1) := by decide +kernel
theorem dL_power_69 : decode cL_power 69 = .ok (.ireturn, 1) := by decide +kernel
theorem dL_power_70 : decode cL_power 70 = .ok (.aload_n 0, 1) := by decide +kernel
theorem dL_power_71 : decode cL_power 71 = .ok (.invokevirtual 100, 3) := by decide +kernel
theorem dL_power_74 : decode cL_power 74 = .ok (.aload_n 0, 1) := by decide +kernel
theorem dL_power_75 : decode cL_power 75 = .ok (.invokevirtual 94, 3) := by decide +kernel
theorem dL_power_78 : decode cL_power 78 = .ok (.ireturn, 1) := by decide +kernel
theorem dL_power_79 : decode cL_power 79 = .ok (.aload_n 0, 1) := by decide +kernel
theorem dL_power_80 : decode cL_power 80 = .ok (.iload_n 2, 1) := by decide +kernel
theorem dL_power_81 : decode cL_power 81 = .ok (.iconst 4, 1) := by decide +kernel
theorem dL_power_82 : decode cL_power 82 = .ok (.invokestatic 9, 3) := by decide +kernel
theorem dL_power_85 : decode cL_power 85 = .ok (.iconst 1, 1) := by decide +kernel
theorem dL_power_86 : decode cL_power 86 = .ok (.iload_n 2, 1) := by decide +kernel
theorem dL_power_87 : decode cL_power 87 = .ok (.iconst 2, 1) := by decide +kernel
theorem dL_power_88 : decode cL_power 88 = .ok (.ishr, 1) := by decide +kernel
theorem dL_power_89 : decode cL_power 89 = .ok (.bipush 40, 2) := by decide +kernel
theorem dL_power_91 : decode cL_power 91 = .ok (.invokestatic 9, 3) := by decide +kernel
theorem dL_power_94 : decode cL_power 94 = .ok (.iadd, 1) := by decide +kernel
theorem dL_power_95 : decode cL_power 95 = .ok (.iload_n 2, 1) := by decide +kernel
theorem dL_power_96 : decode cL_power 96 = .ok (.iconst 5, 1) := by decide +kernel
theorem dL_power_97 : decode cL_power 97 = .ok (.ishr, 1) := by decide +kernel
theorem dL_power_98 : decode cL_power 98 = .ok (.bipush 41, 2) := by decide +kernel
theorem dL_power_100 : decode cL_power 100 = .ok (.invokestatic 9, 3) := by decide +kernel
theorem dL_power_103 : decode cL_power 103 = .ok (.invokevirtual 103, 3) := by decide +kernel
theorem dL_power_106 : decode cL_power 106 = .ok (.aload_n 0, 1) := by decide +kernel
theorem dL_power_107 : decode cL_power 107 = .ok (.invokevirtual 94, 3) := by decide +kernel
theorem dL_power_110 : decode cL_power 110 = .ok (.ifCond .ne 7, 3) := by decide +kernel
theorem dL_power_113 : decode cL_power 113 = .ok (.iconst 1, 1) := by decide +kernel
theorem dL_power_114 : decode cL_power 114 = .ok (.goto 4, 3) := by decide +kernel
theorem dL_power_117 : decode cL_power 117 = .ok (.iconst 0, 1) := by decide +kernel
theorem dL_power_118 : decode cL_power 118 = .ok (.ireturn, 1) := by decide +kernel
theorem dL_isSound_0 : decode cL_isSound 0 = .ok (.bipush 32, 2) := by decide +kernel
theorem dL_isSound_2 : decode cL_isSound 2 = .ok (.newarray .int, 2) := by decide +kernel
theorem dL_isSound_4 : decode cL_isSound 4 = .ok (.astore_n 1, 1) := by decide +kernel
theorem dL_isSound_5 : decode cL_isSound 5 = .ok (.iconst 0, 1) := by decide +kernel
theorem dL_isSound_6 : decode cL_isSound 6 = .ok (.istore_n 2, 1) := by decide +kernel
theorem dL_isSound_7 : decode cL_isSound 7 = .ok (.iconst 0, 1) := by decide +kernel
theorem dL_isSound_8 : decode cL_isSound 8 = .ok (.istore_n 3, 1) := by decide +kernel
theorem dL_isSound_9 : decode cL_isSound 9 = .ok (.iconst 0, 1) := by decide +kernel
theorem dL_isSound_10 : decode cL_isSound 10 = .ok (.istore 4, 2) := by decide +kernel
theorem dL_isSound_12 : decode cL_isSound 12 = .ok (.iload 4, 2) := by decide +kernel
theorem dL_isSound_14 : decode cL_isSound 14 = .ok (.bipush 32, 2) := by decide +kernel
theorem dL_isSound_16 : decode cL_isSound 16 = .ok (.if_icmp .ge 121, 3) := by decide +kernel
theorem dL_isSound_19 : decode cL_isSound 19 = .ok (.aload_n 0, 1) := by decide +kernel
theorem dL_isSound_20 : decode cL_isSound 20 = .ok (.iload 4, 2) := by decide +kernel
theorem dL_isSound_22 : decode cL_isSound 22 = .ok (.invokevirtual 15, 3) := by decide +kernel
theorem dL_isSound_25 : decode cL_isSound 25 = .ok (.iconst 2, 1) := by decide +kernel
theorem dL_isSound_26 : decode cL_isSound 26 = .ok (.if_icmp .eq 6, 3) := by decide +kernel
theorem dL_isSound_29 : decode cL_isSound 29 = .ok (.goto 102, 3) := by decide +kernel
theorem dL_isSound_32 : decode cL_isSound 32 = .ok (.iconst 0, 1) := by decide +kernel
theorem dL_isSound_33 : decode cL_isSound 33 = .ok (.istore 5, 2) := by decide +kernel
theorem dL_isSound_35 : decode cL_isSound 35 = .ok (.iconst 0, 1) := by decide +kernel
theorem dL_isSound_36 : decode cL_isSound 36 = .ok (.istore 6, 2) := by decide +kernel
theorem dL_isSound_38 : decode cL_isSound 38 = .ok (.iload 6, 2) := by decide +kernel
theorem dL_isSound_40 : decode cL_isSound 40 = .ok (.aload_n 0, 1) := by decide +kernel
theorem dL_isSound_41 : decode cL_isSound 41 = .ok (.iload 4, 2) := by decide +kernel
theorem dL_isSound_43 : decode cL_isSound 43 = .ok (.invokevirtual 107, 3) := by decide +kernel
theorem dL_isSound_46 : decode cL_isSound 46 = .ok (.if_icmp .ge 85, 3) := by decide +kernel
theorem dL_isSound_49 : decode cL_isSound 49 = .ok (.aload_n 0, 1) := by decide +kernel
theorem dL_isSound_50 : decode cL_isSound 50 = .ok (.iload 4, 2) := by decide +kernel
theorem dL_isSound_52 : decode cL_isSound 52 = .ok (.iload 6, 2) := by decide +kernel
theorem dL_isSound_54 : decode cL_isSound 54 = .ok (.invokevirtual 110, 3) := by decide +kernel
theorem dL_isSound_57 : decode cL_isSound 57 = .ok (.istore 7, 2) := by decide +kernel
theorem dL_isSound_59 : decode cL_isSound 59 = .ok (.aload_n 0, 1) := by decide +kernel
theorem dL_isSound_60 : decode cL_isSound 60 = .ok (.iload 4, 2) := by decide +kernel
theorem dL_isSound_62 : decode cL_isSound 62 = .ok (.iload 7, 2) := by decide +kernel
theorem dL_isSound_64 : decode cL_isSound 64 = .ok (.invokevirtual 113, 3) := by decide +kernel
theorem dL_isSound_67 : decode cL_isSound 67 = .ok (.istore 8, 2) := by decide +kernel
theorem dL_isSound_69 : decode cL_isSound 69 = .ok (.iload 7, 2) := by decide +kernel
theorem dL_isSound_71 : decode cL_isSound 71 = .ok (.iload 5, 2) := by decide +kernel
theorem dL_isSound_73 : decode cL_isSound 73 = .ok (.if_icmp .le 38, 3) := by decide +kernel
theorem dL_isSound_76 : decode cL_isSound 76 = .ok (.iload 8, 2) := by decide +kernel
theorem dL_isSound_78 : decode cL_isSound 78 = .ok (.ifCond .lt 33, 3) := by decide +kernel
theorem dL_isSound_81 : decode cL_isSound 81 = .ok (.aload_n 0, 1) := by decide +kernel
theorem dL_isSound_82 : decode cL_isSound 82 = .ok (.iload 8, 2) := by decide +kernel
theorem dL_isSound_84 : decode cL_isSound 84 = .ok (.invokevirtual 15, 3) := by decide +kernel
theorem dL_isSound_87 : decode cL_isSound 87 = .ok (.ifCond .eq 24, 3) := by decide +kernel
theorem dL_isSound_90 : decode cL_isSound 90 = .ok (.aload_n 0, 1) := by decide +kernel
theorem dL_isSound_91 : decode cL_isSound 91 = .ok (.iload 8, 2) := by decide +kernel
theorem dL_isSound_93 : decode cL_isSound 93 = .ok (.invokevirtual 15, 3) := by decide +kernel
theorem dL_isSound_96 : decode cL_isSound 96 = .ok (.iconst 2, 1) := by decide +kernel
theorem dL_isSound_97 : decode cL_isSound 97 = .ok (.if_icmp .ne 16, 3) := by decide +kernel
theorem dL_isSound_100 : decode cL_isSound 100 = .ok (.aload_n 0, 1) := by decide +kernel
theorem dL_isSound_101 : decode cL_isSound 101 = .ok (.iload 8, 2) := by decide +kernel
theorem dL_isSound_103 : decode cL_isSound 103 = .ok (.invokevirtual 116, 3) := by decide +kernel
theorem dL_isSound_106 : decode cL_isSound 106 = .ok (.iload 4, 2) := by decide +kernel
theorem dL_isSound_108 : decode cL_isSound 108 = .ok (.if_icmp .eq 5, 3) := by decide +kernel
theorem dL_isSound_111 : decode cL_isSound 111 = .ok (.iconst 0, 1) := by decide +kernel
theorem dL_isSound_112 : decode cL_isSound 112 = .ok (.ireturn, 1) := by decide +kernel
theorem dL_isSound_113 : decode cL_isSound 113 = .ok (.aload_n 1, 1) := by decide +kernel
theorem dL_isSound_114 : decode cL_isSound 114 = .ok (.iload 8, 2) := by decide +kernel
theorem dL_isSound_116 : decode cL_isSound 116 = .ok (.dup2, 1) := by decide +kernel
theorem dL_isSound_117 : decode cL_isSound 117 = .ok (.iaload, 1) := by decide +kernel
theorem dL_isSound_118 : decode cL_isSound 118 = .ok (.iconst 1, 1) := by decide +kernel
theorem dL_isSound_119 : decode cL_isSound 119 = .ok (.iadd, 1) := by decide +kernel
theorem dL_isSound_120 : decode cL_isSound 120 = .ok (.iastore, 1) := by decide +kernel
theorem dL_isSound_121 : decode cL_isSound 121 = .ok (.iload 7, 2) := by decide +kernel
theorem dL_isSound_123 : decode cL_isSound 123 = .ok (.istore 5, 2) := by decide +kernel
theorem dL_isSound_125 : decode cL_isSound 125 = .ok (.iinc 6 1, 3) := by decide +kernel
theorem dL_isSound_128 : decode cL_isSound 128 = .ok (.goto (-90), 3) := by decide +kernel
theorem dL_isSound_131 : decode cL_isSound 131 = .ok (.iinc 4 1, 3) := by decide +kernel
theorem dL_isSound_134 : decode cL_isSound 134 = .ok (.goto (-122), 3) := by decide +kernel
theorem dL_isSound_137 : decode cL_isSound 137 = .ok (.iconst 0, 1) := by decide +kernel
theorem dL_isSound_138 : decode cL_isSound 138 = .ok (.istore 4, 2) := by decide +kernel
theorem dL_isSound_140 : decode cL_isSound 140 = .ok (.iload 4, 2) := by decide +kernel
theorem dL_isSound_142 : decode cL_isSound 142 = .ok (.bipush 32, 2) := by decide +kernel
theorem dL_isSound_144 : decode cL_isSound 144 = .ok (.if_icmp .ge 179, 3) := by decide +kernel
theorem dL_isSound_147 : decode cL_isSound 147 = .ok (.aload_n 0, 1) := by decide +kernel
theorem dL_isSound_148 : decode cL_isSound 148 = .ok (.iload 4, 2) := by decide +kernel
theorem dL_isSound_150 : decode cL_isSound 150 = .ok (.invokevirtual 15, 3) := by decide +kernel
theorem dL_isSound_153 : decode cL_isSound 153 = .ok (.istore 5, 2) := by decide +kernel
theorem dL_isSound_155 : decode cL_isSound 155 = .ok (.iload 5, 2) := by decide +kernel
theorem dL_isSound_157 : decode cL_isSound 157 = .ok (.ifCond .ne 6, 3) := by decide +kernel
theorem dL_isSound_160 : decode cL_isSound 160 = .ok (.goto 157, 3) := by decide +kernel
theorem dL_isSound_163 : decode cL_isSound 163 = .ok (.aload_n 0, 1) := by decide +kernel
theorem dL_isSound_164 : decode cL_isSound 164 = .ok (.iload 4, 2) := by decide +kernel
theorem dL_isSound_166 : decode cL_isSound 166 = .ok (.invokevirtual 119, 3) := by decide +kernel
theorem dL_isSound_169 : decode cL_isSound 169 = .ok (.istore 6, 2) := by decide +kernel
theorem dL_isSound_171 : decode cL_isSound 171 = .ok (.aload_n 0, 1) := by decide +kernel
theorem dL_isSound_172 : decode cL_isSound 172 = .ok (.iload 4, 2) := by decide +kernel
theorem dL_isSound_174 : decode cL_isSound 174 = .ok (.invokevirtual 123, 3) := by decide +kernel
theorem dL_isSound_177 : decode cL_isSound 177 = .ok (.aload_n 1, 1) := by decide +kernel
theorem dL_isSound_178 : decode cL_isSound 178 = .ok (.iload 4, 2) := by decide +kernel
theorem dL_isSound_180 : decode cL_isSound 180 = .ok (.iaload, 1) := by decide +kernel
theorem dL_isSound_181 : decode cL_isSound 181 = .ok (.if_icmp .ne 68, 3) := by decide +kernel
theorem dL_isSound_184 : decode cL_isSound 184 = .ok (.iload 6, 2) := by decide +kernel
theorem dL_isSound_186 : decode cL_isSound 186 = .ok (.iload 4, 2) := by decide +kernel
theorem dL_isSound_188 : decode cL_isSound 188 = .ok (.ifCond .le 14, 3) := by decide +kernel
theorem dL_isSound_191 : decode cL_isSound 191 = .ok (.aload_n 1, 1) := by decide +kernel
theorem dL_isSound_192 : decode cL_isSound 192 = .ok (.iload 4, 2) := by decide +kernel
theorem dL_isSound_194 : decode cL_isSound 194 = .ok (.iaload, 1) := by decide +kernel
theorem dL_isSound_195 : decode cL_isSound 195 = .ok (.ifCond .ne 7, 3) := by decide +kernel
theorem dL_isSound_198 : decode cL_isSound 198 = .ok (.iconst 1, 1) := by decide +kernel
theorem dL_isSound_199 : decode cL_isSound 199 = .ok (.goto 4, 3) := by decide +kernel
theorem dL_isSound_202 : decode cL_isSound 202 = .ok (.iconst 0, 1) := by decide +kernel
theorem dL_isSound_203 : decode cL_isSound 203 = .ok (.if_icmp .ne 46, 3) := by decide +kernel
theorem dL_isSound_206 : decode cL_isSound 206 = .ok (.iload 6, 2) := by decide +kernel
theorem dL_isSound_208 : decode cL_isSound 208 = .ok (.ifCond .eq 9, 3) := by decide +kernel
theorem dL_isSound_211 : decode cL_isSound 211 = .ok (.iload 5, 2) := by decide +kernel
theorem dL_isSound_213 : decode cL_isSound 213 = .ok (.iconst 1, 1) := by decide +kernel
theorem dL_isSound_214 : decode cL_isSound 214 = .ok (.if_icmp .ne 35, 3) := by decide +kernel
theorem dL_isSound_217 : decode cL_isSound 217 = .ok (.iload 5, 2) := by decide +kernel
theorem dL_isSound_219 : decode cL_isSound 219 = .ok (.iconst 2, 1) := by decide +kernel
theorem dL_isSound_220 : decode cL_isSound 220 = .ok (.if_icmp .ne 20, 3) := by decide +kernel
theorem dL_isSound_223 : decode cL_isSound 223 = .ok (.aload_n 1, 1) := by decide +kernel
theorem dL_isSound_224 : decode cL_isSound 224 = .ok (.iload 4, 2) := by decide +kernel
theorem dL_isSound_226 : decode cL_isSound 226 = .ok (.iaload, 1) := by decide +kernel
theorem dL_isSound_227 : decode cL_isSound 227 = .ok (.iload 4, 2) := by decide +kernel
theorem dL_isSound_229 : decode cL_isSound 229 = .ok (.ifCond .ne 7, 3) := by decide +kernel
theorem dL_isSound_232 : decode cL_isSound 232 = .ok (.iconst 0, 1) := by decide +kernel
theorem dL_isSound_233 : decode cL_isSound 233 = .ok (.goto 4, 3) := by decide +kernel
theorem dL_isSound_236 : decode cL_isSound 236 = .ok (.iconst 1, 1) := by decide +kernel
theorem dL_isSound_237 : decode cL_isSound 237 = .ok (.if_icmp .ne 12, 3) := by decide +kernel
theorem dL_isSound_240 : decode cL_isSound 240 = .ok (.aload_n 1, 1) := by decide +kernel
theorem dL_isSound_241 : decode cL_isSound 241 = .ok (.iload 4, 2) := by decide +kernel
theorem dL_isSound_243 : decode cL_isSound 243 = .ok (.iaload, 1) := by decide +kernel
theorem dL_isSound_244 : decode cL_isSound 244 = .ok (.bipush 6, 2) := by decide +kernel
theorem dL_isSound_246 : decode cL_isSound 246 = .ok (.if_icmp .le 5, 3) := by decide +kernel
theorem dL_isSound_249 : decode cL_isSound 249 = .ok (.iconst 0, 1) := by decide +kernel
theorem dL_isSound_250 : decode cL_isSound 250 = .ok (.ireturn, 1) := by decide +kernel
theorem dL_isSound_251 : decode cL_isSound 251 = .ok (.aload_n 0, 1) := by decide +kernel
theorem dL_isSound_252 : decode cL_isSound 252 = .ok (.iload 4, 2) := by decide +kernel
theorem dL_isSound_254 : decode cL_isSound 254 = .ok (.invokevirtual 126, 3) := by decide +kernel
theorem dL_isSound_257 : decode cL_isSound 257 = .ok (.aload_n 0, 1) := by decide +kernel
theorem dL_isSound_258 : decode cL_isSound 258 = .ok (.iload 4, 2) := by decide +kernel
theorem dL_isSound_260 : decode cL_isSound 260 = .ok (.invokevirtual 129, 3) := by decide +kernel
theorem dL_isSound_263 : decode cL_isSound 263 = .ok (.if_icmp .gt 30, 3) := by decide +kernel
theorem dL_isSound_266 : decode cL_isSound 266 = .ok (.iload 5, 2) := by decide +kernel
theorem dL_isSound_268 : decode cL_isSound 268 = .ok (.iconst 1, 1) := by decide +kernel
theorem dL_isSound_269 : decode cL_isSound 269 = .ok (.if_icmp .ne 26, 3) := by decide +kernel
theorem dL_isSound_272 : decode cL_isSound 272 = .ok (.bipush 16, 2) := by decide +kernel
theorem dL_isSound_274 : decode cL_isSound 274 = .ok (.aload_n 0, 1) := by decide +kernel
theorem dL_isSound_275 : decode cL_isSound 275 = .ok (.iload 4, 2) := by decide +kernel
theorem dL_isSound_277 : decode cL_isSound 277 = .ok (.invokevirtual 129, 3) := by decide +kernel
theorem dL_isSound_280 : decode cL_isSound 280 = .ok (.imul, 1) := by decide +kernel
theorem dL_isSound_281 : decode cL_isSound 281 = .ok (.aload_n 0, 1) := by decide +kernel
theorem dL_isSound_282 : decode cL_isSound 282 = .ok (.iload 4, 2) := by decide +kernel
theorem dL_isSound_284 : decode cL_isSound 284 = .ok (.invokevirtual 107, 3) := by decide +kernel
theorem dL_isSound_287 : decode cL_isSound 287 = .ok (.bipush 15, 2) := by decide +kernel
theorem dL_isSound_289 : decode cL_isSound 289 = .ok (.iadd, 1) := by decide +kernel
theorem dL_isSound_290 : decode cL_isSound 290 = .ok (.if_icmp .le 5, 3) := by decide +kernel
theorem dL_isSound_293 : decode cL_isSound 293 = .ok (.iconst 0, 1) := by decide +kernel
theorem dL_isSound_294 : decode cL_isSound 294 = .ok (.ireturn, 1) := by decide +kernel
theorem dL_isSound_295 : decode cL_isSound 295 = .ok (.iload_n 2, 1) := by decide +kernel
theorem dL_isSound_296 : decode cL_isSound 296 = .ok (.aload_n 0, 1) := by decide +kernel
theorem dL_isSound_297 : decode cL_isSound 297 = .ok (.iload 4, 2) := by decide +kernel
theorem dL_isSound_299 : decode cL_isSound 299 = .ok (.invokevirtual 129, 3) := by decide +kernel
theorem dL_isSound_302 : decode cL_isSound 302 = .ok (.iadd, 1) := by decide +kernel
theorem dL_isSound_303 : decode cL_isSound 303 = .ok (.istore_n 2, 1) := by decide +kernel
theorem dL_isSound_304 : decode cL_isSound 304 = .ok (.iload_n 3, 1) := by decide +kernel
theorem dL_isSound_305 : decode cL_isSound 305 = .ok (.iload 6, 2) := by decide +kernel
theorem dL_isSound_307 : decode cL_isSound 307 = .ok (.ifCond .eq 7, 3) := by decide +kernel
theorem dL_isSound_310 : decode cL_isSound 310 = .ok (.iconst 1, 1) := by decide +kernel
theorem dL_isSound_311 : decode cL_isSound 311 = .ok (.goto 4, 3) := by decide +kernel
theorem dL_isSound_314 : decode cL_isSound 314 = .ok (.iconst 0, 1) := by decide +kernel
theorem dL_isSound_315 : decode cL_isSound 315 = .ok (.iadd, 1) := by decide +kernel
theorem dL_isSound_316 : decode cL_isSound 316 = .ok (.istore_n 3, 1) := by decide +kernel
theorem dL_isSound_317 : decode cL_isSound 317 = .ok (.iinc 4 1, 3) := by decide +kernel
theorem dL_isSound_320 : decode cL_isSound 320 = .ok (.goto (-180), 3) := by decide +kernel
theorem dL_isSound_323 : decode cL_isSound 323 = .ok (.iconst 0, 1) := by decide +kernel
theorem dL_isSound_324 : decode cL_isSound 324 = .ok (.istore 4, 2) := by decide +kernel
theorem dL_isSound_326 : decode cL_isSound 326 = .ok (.iconst 0, 1) := by decide +kernel
theorem dL_isSound_327 : decode cL_isSound 327 = .ok (.istore 5, 2) := by decide +kernel
theorem dL_isSound_329 : decode cL_isSound 329 = .ok (.iload 5, 2) := by decide +kernel
theorem dL_isSound_331 : decode cL_isSound 331 = .ok (.iconst 4, 1) := by decide +kernel
theorem dL_isSound_332 : decode cL_isSound 332 = .ok (.if_icmp .ge 20, 3) := by decide +kernel
theorem dL_isSound_335 : decode cL_isSound 335 = .ok (.iload 4, 2) := by decide +kernel
theorem dL_isSound_337 : decode cL_isSound 337 = .ok (.aload_n 0, 1) := by decide +kernel
theorem dL_isSound_338 : decode cL_isSound 338 = .ok (.iload 5, 2) := by decide +kernel
theorem dL_isSound_340 : decode cL_isSound 340 = .ok (.invokevirtual 132, 3) := by decide +kernel
theorem dL_isSound_343 : decode cL_isSound 343 = .ok (.iadd, 1) := by decide +kernel
theorem dL_isSound_344 : decode cL_isSound 344 = .ok (.istore 4, 2) := by decide +kernel
theorem dL_isSound_346 : decode cL_isSound 346 = .ok (.iinc 5 1, 3) := by decide +kernel
theorem dL_isSound_349 : decode cL_isSound 349 = .ok (.goto (-20), 3) := by decide +kernel
theorem dL_isSound_352 : decode cL_isSound 352 = .ok (.iload 4, 2) := by decide +kernel
theorem dL_isSound_354 : decode cL_isSound 354 = .ok (.iload_n 2, 1) := by decide +kernel
theorem dL_isSound_355 : decode cL_isSound 355 = .ok (.if_icmp .ne 37, 3) := by decide +kernel
theorem dL_isSound_358 : decode cL_isSound 358 = .ok (.aload_n 0, 1) := by decide +kernel
theorem dL_isSound_359 : decode cL_isSound 359 = .ok (.invokevirtual 135, 3) := by decide +kernel
theorem dL_isSound_362 : decode cL_isSound 362 = .ok (.bipush 120, 2) := by decide +kernel
theorem dL_isSound_364 : decode cL_isSound 364 = .ok (.if_icmp .gt 28, 3) := by decide +kernel
theorem dL_isSound_367 : decode cL_isSound 367 = .ok (.aload_n 0, 1) := by decide +kernel
theorem dL_isSound_368 : decode cL_isSound 368 = .ok (.invokevirtual 135, 3) := by decide +kernel
theorem dL_isSound_371 : decode cL_isSound 371 = .ok (.iload_n 2, 1) := by decide +kernel
theorem dL_isSound_372 : decode cL_isSound 372 = .ok (.if_icmp .gt 20, 3) := by decide +kernel
theorem dL_isSound_375 : decode cL_isSound 375 = .ok (.iload_n 3, 1) := by decide +kernel
theorem dL_isSound_376 : decode cL_isSound 376 = .ok (.aload_n 0, 1) := by decide +kernel
theorem dL_isSound_377 : decode cL_isSound 377 = .ok (.invokevirtual 139, 3) := by decide +kernel
theorem dL_isSound_380 : decode cL_isSound 380 = .ok (.if_icmp .gt 12, 3) := by decide +kernel
theorem dL_isSound_383 : decode cL_isSound 383 = .ok (.aload_n 0, 1) := by decide +kernel
theorem dL_isSound_384 : decode cL_isSound 384 = .ok (.invokevirtual 142, 3) := by decide +kernel
theorem dL_isSound_387 : decode cL_isSound 387 = .ok (.bipush 7, 2) := by decide +kernel
theorem dL_isSound_389 : decode cL_isSound 389 = .ok (.if_icmp .le 5, 3) := by decide +kernel
theorem dL_isSound_392 : decode cL_isSound 392 = .ok (.iconst 0, 1) := by decide +kernel
theorem dL_isSound_393 : decode cL_isSound 393 = .ok (.ireturn, 1) := by decide +kernel
theorem dL_isSound_394 : decode cL_isSound 394 = .ok (.iload_n 3, 1) := by decide +kernel
theorem dL_isSound_395 : decode cL_isSound 395 = .ok (.ifCond .gt 27, 3) := by decide +kernel
theorem dL_isSound_398 : decode cL_isSound 398 = .ok (.aload_n 0, 1) := by decide +kernel
theorem dL_isSound_399 : decode cL_isSound 399 = .ok (.iconst 0, 1) := by decide +kernel
theorem dL_isSound_400 : decode cL_isSound 400 = .ok (.invokevirtual 145, 3) := by decide +kernel
theorem dL_isSound_403 : decode cL_isSound 403 = .ok (.aload_n 0, 1) := by decide +kernel
theorem dL_isSound_404 : decode cL_isSound 404 = .ok (.invokevirtual 135, 3) := by decide +kernel
theorem dL_isSound_407 : decode cL_isSound 407 = .ok (.if_icmp .ne 19, 3) := by decide +kernel
theorem dL_isSound_410 : decode cL_isSound 410 = .ok (.aload_n 0, 1) := by decide +kernel
theorem dL_isSound_411 : decode cL_isSound 411 = .ok (.iconst 0, 1) := by decide +kernel
theorem dL_isSound_412 : decode cL_isSound 412 = .ok (.invokevirtual 148, 3) := by decide +kernel
theorem dL_isSound_415 : decode cL_isSound 415 = .ok (.aload_n 0, 1) := by decide +kernel
theorem dL_isSound_416 : decode cL_isSound 416 = .ok (.invokevirtual 135, 3) := by decide +kernel
theorem dL_isSound_419 : decode cL_isSound 419 = .ok (.if_icmp .ne 7, 3) := by decide +kernel
theorem dL_isSound_422 : decode cL_isSound 422 = .ok (.iconst 1, 1) := by decide +kernel
theorem dL_isSound_423 : decode cL_isSound 423 = .ok (.goto 4, 3) := by decide +kernel
theorem dL_isSound_426 : decode cL_isSound 426 = .ok (.iconst 0, 1) := by decide +kernel
theorem dL_isSound_427 : decode cL_isSound 427 = .ok (.ireturn, 1) := by decide +kernel
theorem dL_law_0 : decode cL_law 0 = .ok (.new 16, 3) := by decide +kernel
theorem dL_law_3 : decode cL_law 3 = .ok (.dup, 1) := by decide +kernel
theorem dL_law_4 : decode cL_law 4 = .ok (.invokespecial 151, 3) := by decide +kernel
theorem dL_law_7 : decode cL_law 7 = .ok (.astore_n 1, 1) := by decide +kernel
theorem dL_law_8 : decode cL_law 8 = .ok (.bipush 6, 2) := by decide +kernel
theorem dL_law_10 : decode cL_law 10 = .ok (.newarray .boolean, 2) := by decide +kernel
theorem dL_law_12 : decode cL_law 12 = .ok (.astore_n 2, 1) := by decide +kernel
theorem dL_law_13 : decode cL_law 13 = .ok (.iconst 0, 1) := by decide +kernel
theorem dL_law_14 : decode cL_law 14 = .ok (.istore_n 3, 1) := by decide +kernel
theorem dL_law_15 : decode cL_law 15 = .ok (.iload_n 3, 1) := by decide +kernel
theorem dL_law_16 : decode cL_law 16 = .ok (.bipush 45, 2) := by decide +kernel
theorem dL_law_18 : decode cL_law 18 = .ok (.if_icmp .ge 112, 3) := by decide +kernel
theorem dL_law_21 : decode cL_law 21 = .ok (.aload_n 0, 1) := by decide +kernel
theorem dL_law_22 : decode cL_law 22 = .ok (.iload_n 3, 1) := by decide +kernel
theorem dL_law_23 : decode cL_law 23 = .ok (.bipush 15, 2) := by decide +kernel
theorem dL_law_25 : decode cL_law 25 = .ok (.irem, 1) := by decide +kernel
theorem dL_law_26 : decode cL_law 26 = .ok (.invokestatic 152, 3) := by decide +kernel
theorem dL_law_29 : decode cL_law 29 = .ok (.iload_n 3, 1) := by decide +kernel
theorem dL_law_30 : decode cL_law 30 = .ok (.bipush 15, 2) := by decide +kernel
theorem dL_law_32 : decode cL_law 32 = .ok (.idiv, 1) := by decide +kernel
theorem dL_law_33 : decode cL_law 33 = .ok (.bipush 7, 2) := by decide +kernel
theorem dL_law_35 : decode cL_law 35 = .ok (.imul, 1) := by decide +kernel
theorem dL_law_36 : decode cL_law 36 = .ok (.ishr, 1) := by decide +kernel
theorem dL_law_37 : decode cL_law 37 = .ok (.istore 4, 2) := by decide +kernel
theorem dL_law_39 : decode cL_law 39 = .ok (.aload_n 0, 1) := by decide +kernel
theorem dL_law_40 : decode cL_law 40 = .ok (.iload_n 3, 1) := by decide +kernel
theorem dL_law_41 : decode cL_law 41 = .ok (.iconst 4, 1) := by decide +kernel
theorem dL_law_42 : decode cL_law 42 = .ok (.iadd, 1) := by decide +kernel
theorem dL_law_43 : decode cL_law 43 = .ok (.bipush 16, 2) := by decide +kernel
theorem dL_law_45 : decode cL_law 45 = .ok (.irem, 1) := by decide +kernel
theorem dL_law_46 : decode cL_law 46 = .ok (.invokestatic 152, 3) := by decide +kernel
theorem dL_law_49 : decode cL_law 49 = .ok (.iload_n 3, 1) := by decide +kernel
theorem dL_law_50 : decode cL_law 50 = .ok (.bipush 16, 2) := by decide +kernel
theorem dL_law_52 : decode cL_law 52 = .ok (.idiv, 1) := by decide +kernel
theorem dL_law_53 : decode cL_law 53 = .ok (.bipush 6, 2) := by decide +kernel
theorem dL_law_55 : decode cL_law 55 = .ok (.imul, 1) := by decide +kernel
theorem dL_law_56 : decode cL_law 56 = .ok (.ishr, 1) := by decide +kernel
theorem dL_law_57 : decode cL_law 57 = .ok (.istore 5, 2) := by decide +kernel
theorem dL_law_59 : decode cL_law 59 = .ok (.aload_n 1, 1) := by decide +kernel
theorem dL_law_60 : decode cL_law 60 = .ok (.aload_n 2, 1) := by decide +kernel
theorem dL_law_61 : decode cL_law 61 = .ok (.iload 4, 2) := by decide +kernel
theorem dL_law_63 : decode cL_law 63 = .ok (.iload 5, 2) := by decide +kernel
theorem dL_law_65 : decode cL_law 65 = .ok (.invokestatic 156, 3) := by decide +kernel
theorem dL_law_68 : decode cL_law 68 = .ok (.ifCond .ne 5, 3) := by decide +kernel
theorem dL_law_71 : decode cL_law 71 = .ok (.iconst 0, 1) := by decide +kernel
theorem dL_law_72 : decode cL_law 72 = .ok (.ireturn, 1) := by decide +kernel
theorem dL_law_73 : decode cL_law 73 = .ok (.aload_n 1, 1) := by decide +kernel
theorem dL_law_74 : decode cL_law 74 = .ok (.invokevirtual 94, 3) := by decide +kernel
theorem dL_law_77 : decode cL_law 77 = .ok (.ifCond .eq 31, 3) := by decide +kernel
theorem dL_law_80 : decode cL_law 80 = .ok (.bipush 6, 2) := by decide +kernel
theorem dL_law_82 : decode cL_law 82 = .ok (.newarray .boolean, 2) := by decide +kernel
theorem dL_law_84 : decode cL_law 84 = .ok (.astore_n 2, 1) := by decide +kernel
theorem dL_law_85 : decode cL_law 85 = .ok (.aload_n 1, 1) := by decide +kernel
theorem dL_law_86 : decode cL_law 86 = .ok (.invokevirtual 160, 3) := by decide +kernel
theorem dL_law_89 : decode cL_law 89 = .ok (.ifCond .ge 19, 3) := by decide +kernel
theorem dL_law_92 : decode cL_law 92 = .ok (.aload_n 1, 1) := by decide +kernel
theorem dL_law_93 : decode cL_law 93 = .ok (.invokevirtual 94, 3) := by decide +kernel
theorem dL_law_96 : decode cL_law 96 = .ok (.ifCond .eq 10, 3) := by decide +kernel
theorem dL_law_99 : decode cL_law 99 = .ok (.aload_n 1, 1) := by decide +kernel
theorem dL_law_100 : decode cL_law 100 = .ok (.invokevirtual 160, 3) := by decide +kernel
theorem dL_law_103 : decode cL_law 103 = .ok (.ifCond .ge 5, 3) := by decide +kernel
theorem dL_law_106 : decode cL_law 106 = .ok (.iconst 0, 1) := by decide +kernel
theorem dL_law_107 : decode cL_law 107 = .ok (.ireturn, 1) := by decide +kernel
theorem dL_law_108 : decode cL_law 108 = .ok (.iload_n 3, 1) := by decide +kernel
theorem dL_law_109 : decode cL_law 109 = .ok (.iconst 3, 1) := by decide +kernel
theorem dL_law_110 : decode cL_law 110 = .ok (.irem, 1) := by decide +kernel
theorem dL_law_111 : decode cL_law 111 = .ok (.iconst 2, 1) := by decide +kernel
theorem dL_law_112 : decode cL_law 112 = .ok (.if_icmp .ne 12, 3) := by decide +kernel
theorem dL_law_115 : decode cL_law 115 = .ok (.aload_n 1, 1) := by decide +kernel
theorem dL_law_116 : decode cL_law 116 = .ok (.invokestatic 163, 3) := by decide +kernel
theorem dL_law_119 : decode cL_law 119 = .ok (.ifCond .ne 5, 3) := by decide +kernel
theorem dL_law_122 : decode cL_law 122 = .ok (.iconst 0, 1) := by decide +kernel
theorem dL_law_123 : decode cL_law 123 = .ok (.ireturn, 1) := by decide +kernel
theorem dL_law_124 : decode cL_law 124 = .ok (.iinc 3 1, 3) := by decide +kernel
theorem dL_law_127 : decode cL_law 127 = .ok (.goto (-112), 3) := by decide +kernel
theorem dL_law_130 : decode cL_law 130 = .ok (.aload_n 1, 1) := by decide +kernel
theorem dL_law_131 : decode cL_law 131 = .ok (.invokevirtual 167, 3) := by decide +kernel
theorem dL_law_134 : decode cL_law 134 = .ok (.lstore_n 3, 1) := by decide +kernel
theorem dL_law_135 : decode cL_law 135 = .ok (.aload_n 1, 1) := by decide +kernel
theorem dL_law_136 : decode cL_law 136 = .ok (.invokestatic 163, 3) := by decide +kernel
theorem dL_law_139 : decode cL_law 139 = .ok (.ifCond .eq 19, 3) := by decide +kernel
theorem dL_law_142 : decode cL_law 142 = .ok (.aload_n 1, 1) := by decide +kernel
theorem dL_law_143 : decode cL_law 143 = .ok (.invokevirtual 171, 3) := by decide +kernel
theorem dL_law_146 : decode cL_law 146 = .ok (.ifCond .ne 12, 3) := by decide +kernel
theorem dL_law_149 : decode cL_law 149 = .ok (.aload_n 1, 1) := by decide +kernel
theorem dL_law_150 : decode cL_law 150 = .ok (.invokevirtual 167, 3) := by decide +kernel
theorem dL_law_153 : decode cL_law 153 = .ok (.lload_n 3, 1) := by decide +kernel
theorem dL_law_154 : decode cL_law 154 = .ok (.lcmp, 1) := by decide +kernel
theorem dL_law_155 : decode cL_law 155 = .ok (.ifCond .eq 5, 3) := by decide +kernel
theorem dL_law_158 : decode cL_law 158 = .ok (.iconst 0, 1) := by decide +kernel
theorem dL_law_159 : decode cL_law 159 = .ok (.ireturn, 1) := by decide +kernel
theorem dL_law_160 : decode cL_law 160 = .ok (.aload_n 1, 1) := by decide +kernel
theorem dL_law_161 : decode cL_law 161 = .ok (.invokevirtual 174, 3) := by decide +kernel
theorem dL_law_164 : decode cL_law 164 = .ok (.istore 5, 2) := by decide +kernel
theorem dL_law_166 : decode cL_law 166 = .ok (.aload_n 1, 1) := by decide +kernel
theorem dL_law_167 : decode cL_law 167 = .ok (.invokevirtual 90, 3) := by decide +kernel
theorem dL_law_170 : decode cL_law 170 = .ok (.istore 6, 2) := by decide +kernel
theorem dL_law_172 : decode cL_law 172 = .ok (.iload 6, 2) := by decide +kernel
theorem dL_law_174 : decode cL_law 174 = .ok (.aload_n 1, 1) := by decide +kernel
theorem dL_law_175 : decode cL_law 175 = .ok (.invokevirtual 94, 3) := by decide +kernel
theorem dL_law_178 : decode cL_law 178 = .ok (.ifCond .ne 7, 3) := by decide +kernel
theorem dL_law_181 : decode cL_law 181 = .ok (.iconst 1, 1) := by decide +kernel
theorem dL_law_182 : decode cL_law 182 = .ok (.goto 4, 3) := by decide +kernel
theorem dL_law_185 : decode cL_law 185 = .ok (.iconst 0, 1) := by decide +kernel
theorem dL_law_186 : decode cL_law 186 = .ok (.if_icmp .eq 5, 3) := by decide +kernel
theorem dL_law_189 : decode cL_law 189 = .ok (.iconst 0, 1) := by decide +kernel
theorem dL_law_190 : decode cL_law 190 = .ok (.ireturn, 1) := by decide +kernel
theorem dL_law_191 : decode cL_law 191 = .ok (.iload 6, 2) := by decide +kernel
theorem dL_law_193 : decode cL_law 193 = .ok (.ifCond .eq 197, 3) := by decide +kernel
theorem dL_law_196 : decode cL_law 196 = .ok (.bipush 32, 2) := by decide +kernel
theorem dL_law_198 : decode cL_law 198 = .ok (.newarray .int, 2) := by decide +kernel
theorem dL_law_200 : decode cL_law 200 = .ok (.astore 7, 2) := by decide +kernel
theorem dL_law_202 : decode cL_law 202 = .ok (.bipush 32, 2) := by decide +kernel
theorem dL_law_204 : decode cL_law 204 = .ok (.newarray .int, 2) := by decide +kernel
theorem dL_law_206 : decode cL_law 206 = .ok (.astore 8, 2) := by decide +kernel
theorem dL_law_208 : decode cL_law 208 = .ok (.iconst 0, 1) := by decide +kernel
theorem dL_law_209 : decode cL_law 209 = .ok (.istore 9, 2) := by decide +kernel
theorem dL_law_211 : decode cL_law 211 = .ok (.iload 9, 2) := by decide +kernel
theorem dL_law_213 : decode cL_law 213 = .ok (.bipush 32, 2) := by decide +kernel
theorem dL_law_215 : decode cL_law 215 = .ok (.if_icmp .ge 65, 3) := by decide +kernel
theorem dL_law_218 : decode cL_law 218 = .ok (.aload 8, 2) := by decide +kernel
theorem dL_law_220 : decode cL_law 220 = .ok (.iload 9, 2) := by decide +kernel
theorem dL_law_222 : decode cL_law 222 = .ok (.aload_n 1, 1) := by decide +kernel
theorem dL_law_223 : decode cL_law 223 = .ok (.iload 9, 2) := by decide +kernel
theorem dL_law_225 : decode cL_law 225 = .ok (.invokevirtual 15, 3) := by decide +kernel
theorem dL_law_228 : decode cL_law 228 = .ok (.ifCond .eq 12, 3) := by decide +kernel
theorem dL_law_231 : decode cL_law 231 = .ok (.aload_n 1, 1) := by decide +kernel
theorem dL_law_232 : decode cL_law 232 = .ok (.iload 9, 2) := by decide +kernel
theorem dL_law_234 : decode cL_law 234 = .ok (.invokevirtual 119, 3) := by decide +kernel
theorem dL_law_237 : decode cL_law 237 = .ok (.ifCond .eq 7, 3) := by decide +kernel
theorem dL_law_240 : decode cL_law 240 = .ok (.iconst 0, 1) := by decide +kernel
theorem dL_law_241 : decode cL_law 241 = .ok (.goto 9, 3) := by decide +kernel
theorem dL_law_244 : decode cL_law 244 = .ok (.aload_n 1, 1) := by decide +kernel
theorem dL_law_245 : decode cL_law 245 = .ok (.iload 9, 2) := by decide +kernel
theorem dL_law_247 : decode cL_law 247 = .ok (.invokevirtual 15, 3) := by decide +kernel
theorem dL_law_250 : decode cL_law 250 = .ok (.iastore, 1) := by decide +kernel
theorem dL_law_251 : decode cL_law 251 = .ok (.aload 7, 2) := by decide +kernel
theorem dL_law_253 : decode cL_law 253 = .ok (.iload 9, 2) := by decide +kernel
theorem dL_law_255 : decode cL_law 255 = .ok (.aload 8, 2) := by decide +kernel
theorem dL_law_257 : decode cL_law 257 = .ok (.iload 9, 2) := by decide +kernel
theorem dL_law_259 : decode cL_law 259 = .ok (.iaload, 1) := by decide +kernel
theorem dL_law_260 : decode cL_law 260 = .ok (.ifCond .le 12, 3) := by decide +kernel
theorem dL_law_263 : decode cL_law 263 = .ok (.aload_n 1, 1) := by decide +kernel
theorem dL_law_264 : decode cL_law 264 = .ok (.iload 9, 2) := by decide +kernel
theorem dL_law_266 : decode cL_law 266 = .ok (.invokevirtual 107, 3) := by decide +kernel
theorem dL_law_269 : decode cL_law 269 = .ok (.goto 4, 3) := by decide +kernel
theorem dL_law_272 : decode cL_law 272 = .ok (.iconst 0, 1) := by decide +kernel
theorem dL_law_273 : decode cL_law 273 = .ok (.iastore, 1) := by decide +kernel
theorem dL_law_274 : decode cL_law 274 = .ok (.iinc 9 1, 3) := by decide +kernel
theorem dL_law_277 : decode cL_law 277 = .ok (.goto (-66), 3) := by decide +kernel
theorem dL_law_280 : decode cL_law 280 = .ok (.aload_n 1, 1) := by decide +kernel
theorem dL_law_281 : decode cL_law 281 = .ok (.invokevirtual 100, 3) := by decide +kernel
theorem dL_law_284 : decode cL_law 284 = .ok (.aload_n 1, 1) := by decide +kernel
theorem dL_law_285 : decode cL_law 285 = .ok (.invokevirtual 160, 3) := by decide +kernel
theorem dL_law_288 : decode cL_law 288 = .ok (.ifCond .ge 12, 3) := by decide +kernel
theorem dL_law_291 : decode cL_law 291 = .ok (.aload_n 1, 1) := by decide +kernel
theorem dL_law_292 : decode cL_law 292 = .ok (.invokevirtual 160, 3) := by decide +kernel
theorem dL_law_295 : decode cL_law 295 = .ok (.ifCond .ge 5, 3) := by decide +kernel
theorem dL_law_298 : decode cL_law 298 = .ok (.iconst 0, 1) := by decide +kernel
theorem dL_law_299 : decode cL_law 299 = .ok (.ireturn, 1) := by decide +kernel
theorem dL_law_300 : decode cL_law 300 = .ok (.iconst 0, 1) := by decide +kernel
theorem dL_law_301 : decode cL_law 301 = .ok (.istore 9, 2) := by decide +kernel
theorem dL_law_303 : decode cL_law 303 = .ok (.iload 9, 2) := by decide +kernel
theorem dL_law_305 : decode cL_law 305 = .ok (.bipush 32, 2) := by decide +kernel
theorem dL_law_307 : decode cL_law 307 = .ok (.if_icmp .ge 47, 3) := by decide +kernel
theorem dL_law_310 : decode cL_law 310 = .ok (.aload_n 1, 1) := by decide +kernel
theorem dL_law_311 : decode cL_law 311 = .ok (.iload 9, 2) := by decide +kernel
theorem dL_law_313 : decode cL_law 313 = .ok (.invokevirtual 15, 3) := by decide +kernel
theorem dL_law_316 : decode cL_law 316 = .ok (.aload 8, 2) := by decide +kernel
theorem dL_law_318 : decode cL_law 318 = .ok (.iload 9, 2) := by decide +kernel
theorem dL_law_320 : decode cL_law 320 = .ok (.iaload, 1) := by decide +kernel
theorem dL_law_321 : decode cL_law 321 = .ok (.if_icmp .ne 25, 3) := by decide +kernel
theorem dL_law_324 : decode cL_law 324 = .ok (.aload 8, 2) := by decide +kernel
theorem dL_law_326 : decode cL_law 326 = .ok (.iload 9, 2) := by decide +kernel
theorem dL_law_328 : decode cL_law 328 = .ok (.iaload, 1) := by decide +kernel
theorem dL_law_329 : decode cL_law 329 = .ok (.ifCond .le 19, 3) := by decide +kernel
theorem dL_law_332 : decode cL_law 332 = .ok (.aload_n 1, 1) := by decide +kernel
theorem dL_law_333 : decode cL_law 333 = .ok (.iload 9, 2) := by decide +kernel
theorem dL_law_335 : decode cL_law 335 = .ok (.invokevirtual 107, 3) := by decide +kernel
theorem dL_law_338 : decode cL_law 338 = .ok (.aload 7, 2) := by decide +kernel
theorem dL_law_340 : decode cL_law 340 = .ok (.iload 9, 2) := by decide +kernel
theorem dL_law_342 : decode cL_law 342 = .ok (.iaload, 1) := by decide +kernel
theorem dL_law_343 : decode cL_law 343 = .ok (.if_icmp .eq 5, 3) := by decide +kernel
theorem dL_law_346 : decode cL_law 346 = .ok (.iconst 0, 1) := by decide +kernel
theorem dL_law_347 : decode cL_law 347 = .ok (.ireturn, 1) := by decide +kernel
theorem dL_law_348 : decode cL_law 348 = .ok (.iinc 9 1, 3) := by decide +kernel
theorem dL_law_351 : decode cL_law 351 = .ok (.goto (-48), 3) := by decide +kernel
theorem dL_law_354 : decode cL_law 354 = .ok (.aload_n 1, 1) := by decide +kernel
theorem dL_law_355 : decode cL_law 355 = .ok (.invokevirtual 174, 3) := by decide +kernel
theorem dL_law_358 : decode cL_law 358 = .ok (.iload 5, 2) := by decide +kernel
theorem dL_law_360 : decode cL_law 360 = .ok (.if_icmp .ne 28, 3) := by decide +kernel
theorem dL_law_363 : decode cL_law 363 = .ok (.aload_n 1, 1) := by decide +kernel
theorem dL_law_364 : decode cL_law 364 = .ok (.invokevirtual 139, 3) := by decide +kernel
theorem dL_law_367 : decode cL_law 367 = .ok (.ifCond .ne 21, 3) := by decide +kernel
theorem dL_law_370 : decode cL_law 370 = .ok (.aload_n 1, 1) := by decide +kernel
theorem dL_law_371 : decode cL_law 371 = .ok (.invokevirtual 142, 3) := by decide +kernel
theorem dL_law_374 : decode cL_law 374 = .ok (.ifCond .ne 14, 3) := by decide +kernel
theorem dL_law_377 : decode cL_law 377 = .ok (.aload_n 1, 1) := by decide +kernel
theorem dL_law_378 : decode cL_law 378 = .ok (.invokestatic 163, 3) := by decide +kernel
theorem dL_law_381 : decode cL_law 381 = .ok (.ifCond .eq 7, 3) := by decide +kernel
theorem dL_law_384 : decode cL_law 384 = .ok (.iconst 1, 1) := by decide +kernel
theorem dL_law_385 : decode cL_law 385 = .ok (.goto 4, 3) := by decide +kernel
theorem dL_law_388 : decode cL_law 388 = .ok (.iconst 0, 1) := by decide +kernel
theorem dL_law_389 : decode cL_law 389 = .ok (.ireturn, 1) := by decide +kernel
theorem dL_law_390 : decode cL_law 390 = .ok (.iconst 1, 1) := by decide +kernel
theorem dL_law_391 : decode cL_law 391 = .ok (.ireturn, 1) := by decide +kernel
