theorem d_law_0 : decode code 0 = .ok (.new 8, 3) := by decide +kernel
theorem d_law_3 : decode code 3 = .ok (.dup, 1) := by decide +kernel
theorem d_law_4 : decode code 4 = .ok (.aload_n 0, 1) := by decide +kernel
theorem d_law_5 : decode code 5 = .ok (.iconst 0, 1) := by decide +kernel
theorem d_law_6 : decode code 6 = .ok (.invokestatic 56, 3) := by decide +kernel
theorem d_law_9 : decode code 9 = .ok (.i2l, 1) := by decide +kernel
theorem d_law_10 : decode code 10 = .ok (.invokespecial 62, 3) := by decide +kernel
theorem d_law_13 : decode code 13 = .ok (.astore_n 1, 1) := by decide +kernel
theorem d_law_14 : decode code 14 = .ok (.new 65, 3) := by decide +kernel
theorem d_law_17 : decode code 17 = .ok (.dup, 1) := by decide +kernel
theorem d_law_18 : decode code 18 = .ok (.aload_n 0, 1) := by decide +kernel
theorem d_law_19 : decode code 19 = .ok (.iconst 0, 1) := by decide +kernel
theorem d_law_20 : decode code 20 = .ok (.invokestatic 56, 3) := by decide +kernel
theorem d_law_23 : decode code 23 = .ok (.i2l, 1) := by decide +kernel
theorem d_law_24 : decode code 24 = .ok (.invokespecial 67, 3) := by decide +kernel
theorem d_law_27 : decode code 27 = .ok (.astore_n 2, 1) := by decide +kernel
theorem d_law_28 : decode code 28 = .ok (.iconst 1, 1) := by decide +kernel
theorem d_law_29 : decode code 29 = .ok (.newarray .long, 2) := by decide +kernel
theorem d_law_31 : decode code 31 = .ok (.astore_n 3, 1) := by decide +kernel
theorem d_law_32 : decode code 32 = .ok (.iconst 1, 1) := by decide +kernel
theorem d_law_33 : decode code 33 = .ok (.istore 4, 2) := by decide +kernel
theorem d_law_35 : decode code 35 = .ok (.iload 4, 2) := by decide +kernel
theorem d_law_37 : decode code 37 = .ok (.aload_n 0, 1) := by decide +kernel
theorem d_law_38 : decode code 38 = .ok (.arraylength, 1) := by decide +kernel
theorem d_law_39 : decode code 39 = .ok (.iconst 4, 1) := by decide +kernel
theorem d_law_40 : decode code 40 = .ok (.isub, 1) := by decide +kernel
theorem d_law_41 : decode code 41 = .ok (.if_icmp .gt 960, 3) := by decide +kernel
theorem d_law_44 : decode code 44 = .ok (.aload_n 0, 1) := by decide +kernel
theorem d_law_45 : decode code 45 = .ok (.iload 4, 2) := by decide +kernel
theorem d_law_47 : decode code 47 = .ok (.iaload, 1) := by decide +kernel
theorem d_law_48 : decode code 48 = .ok (.bipush 15, 2) := by decide +kernel
theorem d_law_50 : decode code 50 = .ok (.iand, 1) := by decide +kernel
theorem d_law_116 : decode code 116 = .ok (.aload_n 1, 1) := by decide +kernel
theorem d_law_117 : decode code 117 = .ok (.aload_n 0, 1) := by decide +kernel
theorem d_law_118 : decode code 118 = .ok (.iload 4, 2) := by decide +kernel
theorem d_law_120 : decode code 120 = .ok (.iconst 1, 1) := by decide +kernel
theorem d_law_121 : decode code 121 = .ok (.iadd, 1) := by decide +kernel
theorem d_law_122 : decode code 122 = .ok (.iaload, 1) := by decide +kernel
theorem d_law_123 : decode code 123 = .ok (.aload_n 3, 1) := by decide +kernel
theorem d_law_124 : decode code 124 = .ok (.invokestatic 68, 3) := by decide +kernel
theorem d_law_127 : decode code 127 = .ok (.istore 5, 2) := by decide +kernel
theorem d_law_129 : decode code 129 = .ok (.aload_n 2, 1) := by decide +kernel
theorem d_law_130 : decode code 130 = .ok (.aload_n 0, 1) := by decide +kernel
theorem d_law_131 : decode code 131 = .ok (.iload 4, 2) := by decide +kernel
theorem d_law_133 : decode code 133 = .ok (.iconst 1, 1) := by decide +kernel
theorem d_law_134 : decode code 134 = .ok (.iadd, 1) := by decide +kernel
theorem d_law_135 : decode code 135 = .ok (.iaload, 1) := by decide +kernel
theorem d_law_136 : decode code 136 = .ok (.invokevirtual 71, 3) := by decide +kernel
theorem d_law_139 : decode code 139 = .ok (.lstore 6, 2) := by decide +kernel
theorem d_law_141 : decode code 141 = .ok (.aload_n 2, 1) := by decide +kernel
theorem d_law_142 : decode code 142 = .ok (.invokevirtual 72, 3) := by decide +kernel
theorem d_law_145 : decode code 145 = .ok (.iload 5, 2) := by decide +kernel
theorem d_law_147 : decode code 147 = .ok (.if_icmp .eq 5, 3) := by decide +kernel
theorem d_law_150 : decode code 150 = .ok (.iconst 0, 1) := by decide +kernel
theorem d_law_151 : decode code 151 = .ok (.ireturn, 1) := by decide +kernel
theorem d_law_152 : decode code 152 = .ok (.iload 5, 2) := by decide +kernel
theorem d_law_154 : decode code 154 = .ok (.ifCond .ne 14, 3) := by decide +kernel
theorem d_law_157 : decode code 157 = .ok (.aload_n 3, 1) := by decide +kernel
theorem d_law_158 : decode code 158 = .ok (.iconst 0, 1) := by decide +kernel
theorem d_law_159 : decode code 159 = .ok (.laload, 1) := by decide +kernel
theorem d_law_160 : decode code 160 = .ok (.lload 6, 2) := by decide +kernel
theorem d_law_162 : decode code 162 = .ok (.lcmp, 1) := by decide +kernel
theorem d_law_163 : decode code 163 = .ok (.ifCond .eq 5, 3) := by decide +kernel
theorem d_law_166 : decode code 166 = .ok (.iconst 0, 1) := by decide +kernel
theorem d_law_167 : decode code 167 = .ok (.ireturn, 1) := by decide +kernel
theorem d_law_168 : decode code 168 = .ok (.goto 827, 3) := by decide +kernel
theorem d_law_171 : decode code 171 = .ok (.aload_n 1, 1) := by decide +kernel
theorem d_law_172 : decode code 172 = .ok (.aload_n 0, 1) := by decide +kernel
theorem d_law_173 : decode code 173 = .ok (.iload 4, 2) := by decide +kernel
theorem d_law_175 : decode code 175 = .ok (.iconst 1, 1) := by decide +kernel
theorem d_law_176 : decode code 176 = .ok (.iadd, 1) := by decide +kernel
theorem d_law_177 : decode code 177 = .ok (.iaload, 1) := by decide +kernel
theorem d_law_178 : decode code 178 = .ok (.i2l, 1) := by decide +kernel
theorem d_law_179 : decode code 179 = .ok (.bipush 32, 2) := by decide +kernel
theorem d_law_181 : decode code 181 = .ok (.lshl, 1) := by decide +kernel
theorem d_law_182 : decode code 182 = .ok (.aload_n 0, 1) := by decide +kernel
theorem d_law_183 : decode code 183 = .ok (.iload 4, 2) := by decide +kernel
theorem d_law_185 : decode code 185 = .ok (.iconst 2, 1) := by decide +kernel
theorem d_law_186 : decode code 186 = .ok (.iadd, 1) := by decide +kernel
theorem d_law_187 : decode code 187 = .ok (.iaload, 1) := by decide +kernel
theorem d_law_188 : decode code 188 = .ok (.i2l, 1) := by decide +kernel
theorem d_law_189 : decode code 189 = .ok (.ldc2_w 75, 3) := by decide +kernel
theorem d_law_192 : decode code 192 = .ok (.land, 1) := by decide +kernel
theorem d_law_193 : decode code 193 = .ok (.lor, 1) := by decide +kernel
theorem d_law_194 : decode code 194 = .ok (.aload_n 3, 1) := by decide +kernel
theorem d_law_195 : decode code 195 = .ok (.invokestatic 77, 3) := by decide +kernel
theorem d_law_198 : decode code 198 = .ok (.istore 5, 2) := by decide +kernel
theorem d_law_200 : decode code 200 = .ok (.aload_n 2, 1) := by decide +kernel
theorem d_law_201 : decode code 201 = .ok (.aload_n 0, 1) := by decide +kernel
theorem d_law_202 : decode code 202 = .ok (.iload 4, 2) := by decide +kernel
theorem d_law_204 : decode code 204 = .ok (.iconst 1, 1) := by decide +kernel
theorem d_law_205 : decode code 205 = .ok (.iadd, 1) := by decide +kernel
theorem d_law_206 : decode code 206 = .ok (.iaload, 1) := by decide +kernel
theorem d_law_207 : decode code 207 = .ok (.i2l, 1) := by decide +kernel
theorem d_law_208 : decode code 208 = .ok (.bipush 32, 2) := by decide +kernel
theorem d_law_210 : decode code 210 = .ok (.lshl, 1) := by decide +kernel
theorem d_law_211 : decode code 211 = .ok (.aload_n 0, 1) := by decide +kernel
theorem d_law_212 : decode code 212 = .ok (.iload 4, 2) := by decide +kernel
theorem d_law_214 : decode code 214 = .ok (.iconst 2, 1) := by decide +kernel
theorem d_law_215 : decode code 215 = .ok (.iadd, 1) := by decide +kernel
theorem d_law_216 : decode code 216 = .ok (.iaload, 1) := by decide +kernel
theorem d_law_217 : decode code 217 = .ok (.i2l, 1) := by decide +kernel
theorem d_law_218 : decode code 218 = .ok (.ldc2_w 75, 3) := by decide +kernel
theorem d_law_221 : decode code 221 = .ok (.land, 1) := by decide +kernel
theorem d_law_222 : decode code 222 = .ok (.lor, 1) := by decide +kernel
theorem d_law_223 : decode code 223 = .ok (.invokevirtual 80, 3) := by decide +kernel
theorem d_law_226 : decode code 226 = .ok (.lstore 6, 2) := by decide +kernel
theorem d_law_228 : decode code 228 = .ok (.aload_n 2, 1) := by decide +kernel
theorem d_law_229 : decode code 229 = .ok (.invokevirtual 72, 3) := by decide +kernel
theorem d_law_232 : decode code 232 = .ok (.iload 5, 2) := by decide +kernel
theorem d_law_234 : decode code 234 = .ok (.if_icmp .eq 5, 3) := by decide +kernel
theorem d_law_237 : decode code 237 = .ok (.iconst 0, 1) := by decide +kernel
theorem d_law_238 : decode code 238 = .ok (.ireturn, 1) := by decide +kernel
theorem d_law_239 : decode code 239 = .ok (.iload 5, 2) := by decide +kernel
theorem d_law_241 : decode code 241 = .ok (.ifCond .ne 14, 3) := by decide +kernel
theorem d_law_244 : decode code 244 = .ok (.aload_n 3, 1) := by decide +kernel
theorem d_law_245 : decode code 245 = .ok (.iconst 0, 1) := by decide +kernel
theorem d_law_246 : decode code 246 = .ok (.laload, 1) := by decide +kernel
theorem d_law_247 : decode code 247 = .ok (.lload 6, 2) := by decide +kernel
theorem d_law_249 : decode code 249 = .ok (.lcmp, 1) := by decide +kernel
theorem d_law_250 : decode code 250 = .ok (.ifCond .eq 5, 3) := by decide +kernel
theorem d_law_253 : decode code 253 = .ok (.iconst 0, 1) := by decide +kernel
theorem d_law_254 : decode code 254 = .ok (.ireturn, 1) := by decide +kernel
theorem d_law_255 : decode code 255 = .ok (.goto 740, 3) := by decide +kernel
theorem d_law_258 : decode code 258 = .ok (.aload_n 1, 1) := by decide +kernel
theorem d_law_259 : decode code 259 = .ok (.aload_n 0, 1) := by decide +kernel
theorem d_law_260 : decode code 260 = .ok (.iload 4, 2) := by decide +kernel
theorem d_law_262 : decode code 262 = .ok (.iconst 1, 1) := by decide +kernel
theorem d_law_263 : decode code 263 = .ok (.iadd, 1) := by decide +kernel
theorem d_law_264 : decode code 264 = .ok (.iaload, 1) := by decide +kernel
theorem d_law_265 : decode code 265 = .ok (.aload_n 3, 1) := by decide +kernel
theorem d_law_266 : decode code 266 = .ok (.invokestatic 81, 3) := by decide +kernel
theorem d_law_269 : decode code 269 = .ok (.istore 5, 2) := by decide +kernel
theorem d_law_271 : decode code 271 = .ok (.aload_n 2, 1) := by decide +kernel
theorem d_law_272 : decode code 272 = .ok (.aload_n 0, 1) := by decide +kernel
theorem d_law_273 : decode code 273 = .ok (.iload 4, 2) := by decide +kernel
theorem d_law_275 : decode code 275 = .ok (.iconst 1, 1) := by decide +kernel
theorem d_law_276 : decode code 276 = .ok (.iadd, 1) := by decide +kernel
theorem d_law_277 : decode code 277 = .ok (.iaload, 1) := by decide +kernel
theorem d_law_278 : decode code 278 = .ok (.invokevirtual 83, 3) := by decide +kernel
theorem d_law_281 : decode code 281 = .ok (.lstore 6, 2) := by decide +kernel
theorem d_law_283 : decode code 283 = .ok (.aload_n 2, 1) := by decide +kernel
theorem d_law_284 : decode code 284 = .ok (.invokevirtual 72, 3) := by decide +kernel
theorem d_law_287 : decode code 287 = .ok (.iload 5, 2) := by decide +kernel
theorem d_law_289 : decode code 289 = .ok (.if_icmp .eq 5, 3) := by decide +kernel
theorem d_law_292 : decode code 292 = .ok (.iconst 0, 1) := by decide +kernel
theorem d_law_293 : decode code 293 = .ok (.ireturn, 1) := by decide +kernel
theorem d_law_294 : decode code 294 = .ok (.iload 5, 2) := by decide +kernel
theorem d_law_296 : decode code 296 = .ok (.ifCond .ne 14, 3) := by decide +kernel
theorem d_law_299 : decode code 299 = .ok (.aload_n 3, 1) := by decide +kernel
theorem d_law_300 : decode code 300 = .ok (.iconst 0, 1) := by decide +kernel
theorem d_law_301 : decode code 301 = .ok (.laload, 1) := by decide +kernel
theorem d_law_302 : decode code 302 = .ok (.lload 6, 2) := by decide +kernel
theorem d_law_304 : decode code 304 = .ok (.lcmp, 1) := by decide +kernel
theorem d_law_305 : decode code 305 = .ok (.ifCond .eq 5, 3) := by decide +kernel
theorem d_law_308 : decode code 308 = .ok (.iconst 0, 1) := by decide +kernel
theorem d_law_309 : decode code 309 = .ok (.ireturn, 1) := by decide +kernel
theorem d_law_310 : decode code 310 = .ok (.goto 685, 3) := by decide +kernel
theorem d_law_313 : decode code 313 = .ok (.aload_n 1, 1) := by decide +kernel
theorem d_law_314 : decode code 314 = .ok (.aload_n 0, 1) := by decide +kernel
theorem d_law_315 : decode code 315 = .ok (.iload 4, 2) := by decide +kernel
theorem d_law_317 : decode code 317 = .ok (.iconst 1, 1) := by decide +kernel
theorem d_law_318 : decode code 318 = .ok (.iadd, 1) := by decide +kernel
theorem d_law_319 : decode code 319 = .ok (.iaload, 1) := by decide +kernel
theorem d_law_320 : decode code 320 = .ok (.aload_n 3, 1) := by decide +kernel
theorem d_law_321 : decode code 321 = .ok (.invokestatic 84, 3) := by decide +kernel
theorem d_law_324 : decode code 324 = .ok (.istore 5, 2) := by decide +kernel
theorem d_law_326 : decode code 326 = .ok (.aload_n 2, 1) := by decide +kernel
theorem d_law_327 : decode code 327 = .ok (.aload_n 0, 1) := by decide +kernel
theorem d_law_328 : decode code 328 = .ok (.iload 4, 2) := by decide +kernel
theorem d_law_330 : decode code 330 = .ok (.iconst 1, 1) := by decide +kernel
theorem d_law_331 : decode code 331 = .ok (.iadd, 1) := by decide +kernel
theorem d_law_332 : decode code 332 = .ok (.iaload, 1) := by decide +kernel
theorem d_law_333 : decode code 333 = .ok (.invokevirtual 86, 3) := by decide +kernel
theorem d_law_336 : decode code 336 = .ok (.lstore 6, 2) := by decide +kernel
theorem d_law_338 : decode code 338 = .ok (.aload_n 2, 1) := by decide +kernel
theorem d_law_339 : decode code 339 = .ok (.invokevirtual 72, 3) := by decide +kernel
theorem d_law_342 : decode code 342 = .ok (.iload 5, 2) := by decide +kernel
theorem d_law_344 : decode code 344 = .ok (.if_icmp .eq 5, 3) := by decide +kernel
theorem d_law_347 : decode code 347 = .ok (.iconst 0, 1) := by decide +kernel
theorem d_law_348 : decode code 348 = .ok (.ireturn, 1) := by decide +kernel
theorem d_law_349 : decode code 349 = .ok (.iload 5, 2) := by decide +kernel
theorem d_law_351 : decode code 351 = .ok (.ifCond .ne 14, 3) := by decide +kernel
theorem d_law_354 : decode code 354 = .ok (.aload_n 3, 1) := by decide +kernel
theorem d_law_355 : decode code 355 = .ok (.iconst 0, 1) := by decide +kernel
theorem d_law_356 : decode code 356 = .ok (.laload, 1) := by decide +kernel
theorem d_law_357 : decode code 357 = .ok (.lload 6, 2) := by decide +kernel
theorem d_law_359 : decode code 359 = .ok (.lcmp, 1) := by decide +kernel
theorem d_law_360 : decode code 360 = .ok (.ifCond .eq 5, 3) := by decide +kernel
theorem d_law_363 : decode code 363 = .ok (.iconst 0, 1) := by decide +kernel
theorem d_law_364 : decode code 364 = .ok (.ireturn, 1) := by decide +kernel
theorem d_law_365 : decode code 365 = .ok (.goto 630, 3) := by decide +kernel
theorem d_law_368 : decode code 368 = .ok (.aload_n 1, 1) := by decide +kernel
theorem d_law_369 : decode code 369 = .ok (.aload_n 0, 1) := by decide +kernel
theorem d_law_370 : decode code 370 = .ok (.iload 4, 2) := by decide +kernel
theorem d_law_372 : decode code 372 = .ok (.iconst 1, 1) := by decide +kernel
theorem d_law_373 : decode code 373 = .ok (.iadd, 1) := by decide +kernel
theorem d_law_374 : decode code 374 = .ok (.iaload, 1) := by decide +kernel
theorem d_law_375 : decode code 375 = .ok (.aload_n 0, 1) := by decide +kernel
theorem d_law_376 : decode code 376 = .ok (.iload 4, 2) := by decide +kernel
theorem d_law_378 : decode code 378 = .ok (.iconst 2, 1) := by decide +kernel
theorem d_law_379 : decode code 379 = .ok (.iadd, 1) := by decide +kernel
theorem d_law_380 : decode code 380 = .ok (.iaload, 1) := by decide +kernel
theorem d_law_381 : decode code 381 = .ok (.aload_n 3, 1) := by decide +kernel
theorem d_law_382 : decode code 382 = .ok (.invokestatic 87, 3) := by decide +kernel
theorem d_law_385 : decode code 385 = .ok (.istore 5, 2) := by decide +kernel
theorem d_law_387 : decode code 387 = .ok (.aload_n 2, 1) := by decide +kernel
theorem d_law_388 : decode code 388 = .ok (.aload_n 0, 1) := by decide +kernel
theorem d_law_389 : decode code 389 = .ok (.iload 4, 2) := by decide +kernel
theorem d_law_391 : decode code 391 = .ok (.iconst 1, 1) := by decide +kernel
theorem d_law_392 : decode code 392 = .ok (.iadd, 1) := by decide +kernel
theorem d_law_393 : decode code 393 = .ok (.iaload, 1) := by decide +kernel
theorem d_law_394 : decode code 394 = .ok (.aload_n 0, 1) := by decide +kernel
theorem d_law_395 : decode code 395 = .ok (.iload 4, 2) := by decide +kernel
theorem d_law_397 : decode code 397 = .ok (.iconst 2, 1) := by decide +kernel
theorem d_law_398 : decode code 398 = .ok (.iadd, 1) := by decide +kernel
theorem d_law_399 : decode code 399 = .ok (.iaload, 1) := by decide +kernel
theorem d_law_400 : decode code 400 = .ok (.invokevirtual 90, 3) := by decide +kernel
theorem d_law_403 : decode code 403 = .ok (.lstore 6, 2) := by decide +kernel
theorem d_law_405 : decode code 405 = .ok (.aload_n 2, 1) := by decide +kernel
theorem d_law_406 : decode code 406 = .ok (.invokevirtual 72, 3) := by decide +kernel
theorem d_law_409 : decode code 409 = .ok (.iload 5, 2) := by decide +kernel
theorem d_law_411 : decode code 411 = .ok (.if_icmp .eq 5, 3) := by decide +kernel
theorem d_law_414 : decode code 414 = .ok (.iconst 0, 1) := by decide +kernel
theorem d_law_415 : decode code 415 = .ok (.ireturn, 1) := by decide +kernel
theorem d_law_416 : decode code 416 = .ok (.iload 5, 2) := by decide +kernel
theorem d_law_418 : decode code 418 = .ok (.ifCond .ne 14, 3) := by decide +kernel
theorem d_law_421 : decode code 421 = .ok (.aload_n 3, 1) := by decide +kernel
theorem d_law_422 : decode code 422 = .ok (.iconst 0, 1) := by decide +kernel
theorem d_law_423 : decode code 423 = .ok (.laload, 1) := by decide +kernel
theorem d_law_424 : decode code 424 = .ok (.lload 6, 2) := by decide +kernel
theorem d_law_426 : decode code 426 = .ok (.lcmp, 1) := by decide +kernel
theorem d_law_427 : decode code 427 = .ok (.ifCond .eq 5, 3) := by decide +kernel
theorem d_law_430 : decode code 430 = .ok (.iconst 0, 1) := by decide +kernel
theorem d_law_431 : decode code 431 = .ok (.ireturn, 1) := by decide +kernel
theorem d_law_432 : decode code 432 = .ok (.goto 563, 3) := by decide +kernel
theorem d_law_435 : decode code 435 = .ok (.aload_n 1, 1) := by decide +kernel
theorem d_law_436 : decode code 436 = .ok (.aload_n 0, 1) := by decide +kernel
theorem d_law_437 : decode code 437 = .ok (.iload 4, 2) := by decide +kernel
theorem d_law_439 : decode code 439 = .ok (.iconst 1, 1) := by decide +kernel
theorem d_law_440 : decode code 440 = .ok (.iadd, 1) := by decide +kernel
theorem d_law_441 : decode code 441 = .ok (.iaload, 1) := by decide +kernel
theorem d_law_442 : decode code 442 = .ok (.i2l, 1) := by decide +kernel
theorem d_law_443 : decode code 443 = .ok (.bipush 32, 2) := by decide +kernel
theorem d_law_445 : decode code 445 = .ok (.lshl, 1) := by decide +kernel
theorem d_law_446 : decode code 446 = .ok (.aload_n 0, 1) := by decide +kernel
theorem d_law_447 : decode code 447 = .ok (.iload 4, 2) := by decide +kernel
theorem d_law_449 : decode code 449 = .ok (.iconst 2, 1) := by decide +kernel
theorem d_law_450 : decode code 450 = .ok (.iadd, 1) := by decide +kernel
theorem d_law_451 : decode code 451 = .ok (.iaload, 1) := by decide +kernel
theorem d_law_452 : decode code 452 = .ok (.i2l, 1) := by decide +kernel
theorem d_law_453 : decode code 453 = .ok (.ldc2_w 75, 3) := by decide +kernel
theorem d_law_456 : decode code 456 = .ok (.land, 1) := by decide +kernel
theorem d_law_457 : decode code 457 = .ok (.lor, 1) := by decide +kernel
theorem d_law_458 : decode code 458 = .ok (.aload_n 0, 1) := by decide +kernel
theorem d_law_459 : decode code 459 = .ok (.iload 4, 2) := by decide +kernel
theorem d_law_461 : decode code 461 = .ok (.iconst 3, 1) := by decide +kernel
theorem d_law_462 : decode code 462 = .ok (.iadd, 1) := by decide +kernel
theorem d_law_463 : decode code 463 = .ok (.iaload, 1) := by decide +kernel
theorem d_law_464 : decode code 464 = .ok (.aload_n 3, 1) := by decide +kernel
theorem d_law_465 : decode code 465 = .ok (.invokestatic 91, 3) := by decide +kernel
theorem d_law_468 : decode code 468 = .ok (.istore 5, 2) := by decide +kernel
theorem d_law_470 : decode code 470 = .ok (.aload_n 2, 1) := by decide +kernel
theorem d_law_471 : decode code 471 = .ok (.aload_n 0, 1) := by decide +kernel
theorem d_law_472 : decode code 472 = .ok (.iload 4, 2) := by decide +kernel
theorem d_law_474 : decode code 474 = .ok (.iconst 1, 1) := by decide +kernel
theorem d_law_475 : decode code 475 = .ok (.iadd, 1) := by decide +kernel
theorem d_law_476 : decode code 476 = .ok (.iaload, 1) := by decide +kernel
theorem d_law_477 : decode code 477 = .ok (.i2l, 1) := by decide +kernel
theorem d_law_478 : decode code 478 = .ok (.bipush 32, 2) := by decide +kernel
theorem d_law_480 : decode code 480 = .ok (.lshl, 1) := by decide +kernel
theorem d_law_481 : decode code 481 = .ok (.aload_n 0, 1) := by decide +kernel
theorem d_law_482 : decode code 482 = .ok (.iload 4, 2) := by decide +kernel
theorem d_law_484 : decode code 484 = .ok (.iconst 2, 1) := by decide +kernel
theorem d_law_485 : decode code 485 = .ok (.iadd, 1) := by decide +kernel
theorem d_law_486 : decode code 486 = .ok (.iaload, 1) := by decide +kernel
theorem d_law_487 : decode code 487 = .ok (.i2l, 1) := by decide +kernel
theorem d_law_488 : decode code 488 = .ok (.ldc2_w 75, 3) := by decide +kernel
theorem d_law_491 : decode code 491 = .ok (.land, 1) := by decide +kernel
theorem d_law_492 : decode code 492 = .ok (.lor, 1) := by decide +kernel
theorem d_law_493 : decode code 493 = .ok (.aload_n 0, 1) := by decide +kernel
theorem d_law_494 : decode code 494 = .ok (.iload 4, 2) := by decide +kernel
theorem d_law_496 : decode code 496 = .ok (.iconst 3, 1) := by decide +kernel
theorem d_law_497 : decode code 497 = .ok (.iadd, 1) := by decide +kernel
theorem d_law_498 : decode code 498 = .ok (.iaload, 1) := by decide +kernel
theorem d_law_499 : decode code 499 = .ok (.invokevirtual 94, 3) := by decide +kernel
theorem d_law_502 : decode code 502 = .ok (.lstore 6, 2) := by decide +kernel
theorem d_law_504 : decode code 504 = .ok (.aload_n 2, 1) := by decide +kernel
theorem d_law_505 : decode code 505 = .ok (.invokevirtual 72, 3) := by decide +kernel
theorem d_law_508 : decode code 508 = .ok (.iload 5, 2) := by decide +kernel
theorem d_law_510 : decode code 510 = .ok (.if_icmp .eq 5, 3) := by decide +kernel
theorem d_law_513 : decode code 513 = .ok (.iconst 0, 1) := by decide +kernel
theorem d_law_514 : decode code 514 = .ok (.ireturn, 1) := by decide +kernel
theorem d_law_515 : decode code 515 = .ok (.iload 5, 2) := by decide +kernel
theorem d_law_517 : decode code 517 = .ok (.ifCond .ne 14, 3) := by decide +kernel
theorem d_law_520 : decode code 520 = .ok (.aload_n 3, 1) := by decide +kernel
theorem d_law_521 : decode code 521 = .ok (.iconst 0, 1) := by decide +kernel
theorem d_law_522 : decode code 522 = .ok (.laload, 1) := by decide +kernel
theorem d_law_523 : decode code 523 = .ok (.lload 6, 2) := by decide +kernel
theorem d_law_525 : decode code 525 = .ok (.lcmp, 1) := by decide +kernel
theorem d_law_526 : decode code 526 = .ok (.ifCond .eq 5, 3) := by decide +kernel
theorem d_law_529 : decode code 529 = .ok (.iconst 0, 1) := by decide +kernel
theorem d_law_530 : decode code 530 = .ok (.ireturn, 1) := by decide +kernel
theorem d_law_531 : decode code 531 = .ok (.goto 464, 3) := by decide +kernel
theorem d_law_534 : decode code 534 = .ok (.aload_n 1, 1) := by decide +kernel
theorem d_law_535 : decode code 535 = .ok (.aload_n 0, 1) := by decide +kernel
theorem d_law_536 : decode code 536 = .ok (.iload 4, 2) := by decide +kernel
theorem d_law_538 : decode code 538 = .ok (.iconst 1, 1) := by decide +kernel
theorem d_law_539 : decode code 539 = .ok (.iadd, 1) := by decide +kernel
theorem d_law_540 : decode code 540 = .ok (.iaload, 1) := by decide +kernel
theorem d_law_541 : decode code 541 = .ok (.aload_n 0, 1) := by decide +kernel
theorem d_law_542 : decode code 542 = .ok (.iload 4, 2) := by decide +kernel
theorem d_law_544 : decode code 544 = .ok (.iconst 2, 1) := by decide +kernel
theorem d_law_545 : decode code 545 = .ok (.iadd, 1) := by decide +kernel
theorem d_law_546 : decode code 546 = .ok (.iaload, 1) := by decide +kernel
theorem d_law_547 : decode code 547 = .ok (.aload_n 3, 1) := by decide +kernel
theorem d_law_548 : decode code 548 = .ok (.invokestatic 95, 3) := by decide +kernel
theorem d_law_551 : decode code 551 = .ok (.istore 5, 2) := by decide +kernel
theorem d_law_553 : decode code 553 = .ok (.aload_n 2, 1) := by decide +kernel
theorem d_law_554 : decode code 554 = .ok (.aload_n 0, 1) := by decide +kernel
theorem d_law_555 : decode code 555 = .ok (.iload 4, 2) := by decide +kernel
theorem d_law_557 : decode code 557 = .ok (.iconst 1, 1) := by decide +kernel
theorem d_law_558 : decode code 558 = .ok (.iadd, 1) := by decide +kernel
theorem d_law_559 : decode code 559 = .ok (.iaload, 1) := by decide +kernel
theorem d_law_560 : decode code 560 = .ok (.aload_n 0, 1) := by decide +kernel
theorem d_law_561 : decode code 561 = .ok (.iload 4, 2) := by decide +kernel
theorem d_law_563 : decode code 563 = .ok (.iconst 2, 1) := by decide +kernel
theorem d_law_564 : decode code 564 = .ok (.iadd, 1) := by decide +kernel
theorem d_law_565 : decode code 565 = .ok (.iaload, 1) := by decide +kernel
theorem d_law_566 : decode code 566 = .ok (.invokevirtual 97, 3) := by decide +kernel
theorem d_law_569 : decode code 569 = .ok (.lstore 6, 2) := by decide +kernel
theorem d_law_571 : decode code 571 = .ok (.aload_n 2, 1) := by decide +kernel
theorem d_law_572 : decode code 572 = .ok (.invokevirtual 72, 3) := by decide +kernel
theorem d_law_575 : decode code 575 = .ok (.iload 5, 2) := by decide +kernel
theorem d_law_577 : decode code 577 = .ok (.if_icmp .eq 5, 3) := by decide +kernel
theorem d_law_580 : decode code 580 = .ok (.iconst 0, 1) := by decide +kernel
theorem d_law_581 : decode code 581 = .ok (.ireturn, 1) := by decide +kernel
theorem d_law_582 : decode code 582 = .ok (.iload 5, 2) := by decide +kernel
theorem d_law_584 : decode code 584 = .ok (.ifCond .ne 14, 3) := by decide +kernel
theorem d_law_587 : decode code 587 = .ok (.aload_n 3, 1) := by decide +kernel
theorem d_law_588 : decode code 588 = .ok (.iconst 0, 1) := by decide +kernel
theorem d_law_589 : decode code 589 = .ok (.laload, 1) := by decide +kernel
theorem d_law_590 : decode code 590 = .ok (.lload 6, 2) := by decide +kernel
theorem d_law_592 : decode code 592 = .ok (.lcmp, 1) := by decide +kernel
theorem d_law_593 : decode code 593 = .ok (.ifCond .eq 5, 3) := by decide +kernel
theorem d_law_596 : decode code 596 = .ok (.iconst 0, 1) := by decide +kernel
theorem d_law_597 : decode code 597 = .ok (.ireturn, 1) := by decide +kernel
theorem d_law_598 : decode code 598 = .ok (.goto 397, 3) := by decide +kernel
theorem d_law_601 : decode code 601 = .ok (.aload_n 1, 1) := by decide +kernel
theorem d_law_602 : decode code 602 = .ok (.aload_n 0, 1) := by decide +kernel
theorem d_law_603 : decode code 603 = .ok (.iload 4, 2) := by decide +kernel
theorem d_law_605 : decode code 605 = .ok (.iconst 1, 1) := by decide +kernel
theorem d_law_606 : decode code 606 = .ok (.iadd, 1) := by decide +kernel
theorem d_law_607 : decode code 607 = .ok (.iaload, 1) := by decide +kernel
theorem d_law_608 : decode code 608 = .ok (.aload_n 3, 1) := by decide +kernel
theorem d_law_609 : decode code 609 = .ok (.invokestatic 98, 3) := by decide +kernel
theorem d_law_612 : decode code 612 = .ok (.istore 5, 2) := by decide +kernel
theorem d_law_614 : decode code 614 = .ok (.aload_n 2, 1) := by decide +kernel
theorem d_law_615 : decode code 615 = .ok (.aload_n 0, 1) := by decide +kernel
theorem d_law_616 : decode code 616 = .ok (.iload 4, 2) := by decide +kernel
theorem d_law_618 : decode code 618 = .ok (.iconst 1, 1) := by decide +kernel
theorem d_law_619 : decode code 619 = .ok (.iadd, 1) := by decide +kernel
theorem d_law_620 : decode code 620 = .ok (.iaload, 1) := by decide +kernel
theorem d_law_621 : decode code 621 = .ok (.invokevirtual 100, 3) := by decide +kernel
theorem d_law_624 : decode code 624 = .ok (.lstore 6, 2) := by decide +kernel
theorem d_law_626 : decode code 626 = .ok (.aload_n 2, 1) := by decide +kernel
theorem d_law_627 : decode code 627 = .ok (.invokevirtual 72, 3) := by decide +kernel
theorem d_law_630 : decode code 630 = .ok (.iload 5, 2) := by decide +kernel
theorem d_law_632 : decode code 632 = .ok (.if_icmp .eq 5, 3) := by decide +kernel
theorem d_law_635 : decode code 635 = .ok (.iconst 0, 1) := by decide +kernel
theorem d_law_636 : decode code 636 = .ok (.ireturn, 1) := by decide +kernel
theorem d_law_637 : decode code 637 = .ok (.iload 5, 2) := by decide +kernel
theorem d_law_639 : decode code 639 = .ok (.ifCond .ne 14, 3) := by decide +kernel
theorem d_law_642 : decode code 642 = .ok (.aload_n 3, 1) := by decide +kernel
theorem d_law_643 : decode code 643 = .ok (.iconst 0, 1) := by decide +kernel
theorem d_law_644 : decode code 644 = .ok (.laload, 1) := by decide +kernel
theorem d_law_645 : decode code 645 = .ok (.lload 6, 2) := by decide +kernel
theorem d_law_647 : decode code 647 = .ok (.lcmp, 1) := by decide +kernel
theorem d_law_648 : decode code 648 = .ok (.ifCond .eq 5, 3) := by decide +kernel
theorem d_law_651 : decode code 651 = .ok (.iconst 0, 1) := by decide +kernel
theorem d_law_652 : decode code 652 = .ok (.ireturn, 1) := by decide +kernel
theorem d_law_653 : decode code 653 = .ok (.goto 342, 3) := by decide +kernel
theorem d_law_656 : decode code 656 = .ok (.aload_n 1, 1) := by decide +kernel
theorem d_law_657 : decode code 657 = .ok (.aload_n 3, 1) := by decide +kernel
theorem d_law_658 : decode code 658 = .ok (.invokestatic 101, 3) := by decide +kernel
theorem d_law_661 : decode code 661 = .ok (.istore 5, 2) := by decide +kernel
theorem d_law_663 : decode code 663 = .ok (.aload_n 2, 1) := by decide +kernel
theorem d_law_664 : decode code 664 = .ok (.invokevirtual 104, 3) := by decide +kernel
theorem d_law_667 : decode code 667 = .ok (.istore 6, 2) := by decide +kernel
theorem d_law_669 : decode code 669 = .ok (.aload_n 2, 1) := by decide +kernel
theorem d_law_670 : decode code 670 = .ok (.invokevirtual 72, 3) := by decide +kernel
theorem d_law_673 : decode code 673 = .ok (.iload 5, 2) := by decide +kernel
theorem d_law_675 : decode code 675 = .ok (.if_icmp .eq 5, 3) := by decide +kernel
theorem d_law_678 : decode code 678 = .ok (.iconst 0, 1) := by decide +kernel
theorem d_law_679 : decode code 679 = .ok (.ireturn, 1) := by decide +kernel
theorem d_law_680 : decode code 680 = .ok (.iload 5, 2) := by decide +kernel
theorem d_law_682 : decode code 682 = .ok (.ifCond .ne 15, 3) := by decide +kernel
theorem d_law_685 : decode code 685 = .ok (.aload_n 3, 1) := by decide +kernel
theorem d_law_686 : decode code 686 = .ok (.iconst 0, 1) := by decide +kernel
theorem d_law_687 : decode code 687 = .ok (.laload, 1) := by decide +kernel
theorem d_law_688 : decode code 688 = .ok (.iload 6, 2) := by decide +kernel
theorem d_law_690 : decode code 690 = .ok (.i2l, 1) := by decide +kernel
theorem d_law_691 : decode code 691 = .ok (.lcmp, 1) := by decide +kernel
theorem d_law_692 : decode code 692 = .ok (.ifCond .eq 5, 3) := by decide +kernel
theorem d_law_695 : decode code 695 = .ok (.iconst 0, 1) := by decide +kernel
theorem d_law_696 : decode code 696 = .ok (.ireturn, 1) := by decide +kernel
theorem d_law_697 : decode code 697 = .ok (.goto 298, 3) := by decide +kernel
theorem d_law_700 : decode code 700 = .ok (.aload_n 1, 1) := by decide +kernel
theorem d_law_701 : decode code 701 = .ok (.aload_n 0, 1) := by decide +kernel
theorem d_law_702 : decode code 702 = .ok (.iload 4, 2) := by decide +kernel
theorem d_law_704 : decode code 704 = .ok (.iconst 1, 1) := by decide +kernel
theorem d_law_705 : decode code 705 = .ok (.iadd, 1) := by decide +kernel
theorem d_law_706 : decode code 706 = .ok (.iaload, 1) := by decide +kernel
theorem d_law_707 : decode code 707 = .ok (.aload_n 0, 1) := by decide +kernel
theorem d_law_708 : decode code 708 = .ok (.iload 4, 2) := by decide +kernel
theorem d_law_710 : decode code 710 = .ok (.iconst 2, 1) := by decide +kernel
theorem d_law_711 : decode code 711 = .ok (.iadd, 1) := by decide +kernel
theorem d_law_712 : decode code 712 = .ok (.iaload, 1) := by decide +kernel
theorem d_law_713 : decode code 713 = .ok (.aload_n 0, 1) := by decide +kernel
theorem d_law_714 : decode code 714 = .ok (.iload 4, 2) := by decide +kernel
theorem d_law_716 : decode code 716 = .ok (.iconst 3, 1) := by decide +kernel
theorem d_law_717 : decode code 717 = .ok (.iadd, 1) := by decide +kernel
theorem d_law_718 : decode code 718 = .ok (.iaload, 1) := by decide +kernel
theorem d_law_719 : decode code 719 = .ok (.aload_n 3, 1) := by decide +kernel
theorem d_law_720 : decode code 720 = .ok (.invokestatic 105, 3) := by decide +kernel
theorem d_law_723 : decode code 723 = .ok (.istore 5, 2) := by decide +kernel
theorem d_law_725 : decode code 725 = .ok (.aload_n 2, 1) := by decide +kernel
theorem d_law_726 : decode code 726 = .ok (.aload_n 0, 1) := by decide +kernel
theorem d_law_727 : decode code 727 = .ok (.iload 4, 2) := by decide +kernel
theorem d_law_729 : decode code 729 = .ok (.iconst 1, 1) := by decide +kernel
theorem d_law_730 : decode code 730 = .ok (.iadd, 1) := by decide +kernel
theorem d_law_731 : decode code 731 = .ok (.iaload, 1) := by decide +kernel
theorem d_law_732 : decode code 732 = .ok (.aload_n 0, 1) := by decide +kernel
theorem d_law_733 : decode code 733 = .ok (.iload 4, 2) := by decide +kernel
theorem d_law_735 : decode code 735 = .ok (.iconst 2, 1) := by decide +kernel
theorem d_law_736 : decode code 736 = .ok (.iadd, 1) := by decide +kernel
theorem d_law_737 : decode code 737 = .ok (.iaload, 1) := by decide +kernel
theorem d_law_738 : decode code 738 = .ok (.aload_n 0, 1) := by decide +kernel
theorem d_law_739 : decode code 739 = .ok (.iload 4, 2) := by decide +kernel
theorem d_law_741 : decode code 741 = .ok (.iconst 3, 1) := by decide +kernel
theorem d_law_742 : decode code 742 = .ok (.iadd, 1) := by decide +kernel
theorem d_law_743 : decode code 743 = .ok (.iaload, 1) := by decide +kernel
theorem d_law_744 : decode code 744 = .ok (.invokevirtual 108, 3) := by decide +kernel
theorem d_law_747 : decode code 747 = .ok (.istore 6, 2) := by decide +kernel
theorem d_law_749 : decode code 749 = .ok (.aload_n 2, 1) := by decide +kernel
theorem d_law_750 : decode code 750 = .ok (.invokevirtual 72, 3) := by decide +kernel
theorem d_law_753 : decode code 753 = .ok (.iload 5, 2) := by decide +kernel
theorem d_law_755 : decode code 755 = .ok (.if_icmp .eq 5, 3) := by decide +kernel
theorem d_law_758 : decode code 758 = .ok (.iconst 0, 1) := by decide +kernel
theorem d_law_759 : decode code 759 = .ok (.ireturn, 1) := by decide +kernel
theorem d_law_760 : decode code 760 = .ok (.iload 5, 2) := by decide +kernel
theorem d_law_762 : decode code 762 = .ok (.ifCond .ne 15, 3) := by decide +kernel
theorem d_law_765 : decode code 765 = .ok (.aload_n 3, 1) := by decide +kernel
theorem d_law_766 : decode code 766 = .ok (.iconst 0, 1) := by decide +kernel
theorem d_law_767 : decode code 767 = .ok (.laload, 1) := by decide +kernel
theorem d_law_768 : decode code 768 = .ok (.iload 6, 2) := by decide +kernel
theorem d_law_770 : decode code 770 = .ok (.i2l, 1) := by decide +kernel
theorem d_law_771 : decode code 771 = .ok (.lcmp, 1) := by decide +kernel
theorem d_law_772 : decode code 772 = .ok (.ifCond .eq 5, 3) := by decide +kernel
theorem d_law_775 : decode code 775 = .ok (.iconst 0, 1) := by decide +kernel
theorem d_law_776 : decode code 776 = .ok (.ireturn, 1) := by decide +kernel
theorem d_law_777 : decode code 777 = .ok (.goto 218, 3) := by decide +kernel
theorem d_law_780 : decode code 780 = .ok (.aload_n 1, 1) := by decide +kernel
theorem d_law_781 : decode code 781 = .ok (.aload_n 0, 1) := by decide +kernel
theorem d_law_782 : decode code 782 = .ok (.iload 4, 2) := by decide +kernel
theorem d_law_784 : decode code 784 = .ok (.iconst 1, 1) := by decide +kernel
theorem d_law_785 : decode code 785 = .ok (.iadd, 1) := by decide +kernel
theorem d_law_786 : decode code 786 = .ok (.iaload, 1) := by decide +kernel
theorem d_law_787 : decode code 787 = .ok (.aload_n 0, 1) := by decide +kernel
theorem d_law_788 : decode code 788 = .ok (.iload 4, 2) := by decide +kernel
theorem d_law_790 : decode code 790 = .ok (.iconst 2, 1) := by decide +kernel
theorem d_law_791 : decode code 791 = .ok (.iadd, 1) := by decide +kernel
theorem d_law_792 : decode code 792 = .ok (.iaload, 1) := by decide +kernel
theorem d_law_793 : decode code 793 = .ok (.aload_n 3, 1) := by decide +kernel
theorem d_law_794 : decode code 794 = .ok (.invokestatic 109, 3) := by decide +kernel
theorem d_law_797 : decode code 797 = .ok (.istore 5, 2) := by decide +kernel
theorem d_law_799 : decode code 799 = .ok (.aload_n 2, 1) := by decide +kernel
theorem d_law_800 : decode code 800 = .ok (.aload_n 0, 1) := by decide +kernel
theorem d_law_801 : decode code 801 = .ok (.iload 4, 2) := by decide +kernel
theorem d_law_803 : decode code 803 = .ok (.iconst 1, 1) := by decide +kernel
theorem d_law_804 : decode code 804 = .ok (.iadd, 1) := by decide +kernel
theorem d_law_805 : decode code 805 = .ok (.iaload, 1) := by decide +kernel
theorem d_law_806 : decode code 806 = .ok (.aload_n 0, 1) := by decide +kernel
theorem d_law_807 : decode code 807 = .ok (.iload 4, 2) := by decide +kernel
theorem d_law_809 : decode code 809 = .ok (.iconst 2, 1) := by decide +kernel
theorem d_law_810 : decode code 810 = .ok (.iadd, 1) := by decide +kernel
theorem d_law_811 : decode code 811 = .ok (.iaload, 1) := by decide +kernel
theorem d_law_812 : decode code 812 = .ok (.invokevirtual 111, 3) := by decide +kernel
theorem d_law_815 : decode code 815 = .ok (.lstore 6, 2) := by decide +kernel
theorem d_law_817 : decode code 817 = .ok (.aload_n 2, 1) := by decide +kernel
theorem d_law_818 : decode code 818 = .ok (.invokevirtual 72, 3) := by decide +kernel
theorem d_law_821 : decode code 821 = .ok (.iload 5, 2) := by decide +kernel
theorem d_law_823 : decode code 823 = .ok (.if_icmp .eq 5, 3) := by decide +kernel
theorem d_law_826 : decode code 826 = .ok (.iconst 0, 1) := by decide +kernel
theorem d_law_827 : decode code 827 = .ok (.ireturn, 1) := by decide +kernel
theorem d_law_828 : decode code 828 = .ok (.iload 5, 2) := by decide +kernel
theorem d_law_830 : decode code 830 = .ok (.ifCond .ne 14, 3) := by decide +kernel
theorem d_law_833 : decode code 833 = .ok (.aload_n 3, 1) := by decide +kernel
theorem d_law_834 : decode code 834 = .ok (.iconst 0, 1) := by decide +kernel
theorem d_law_835 : decode code 835 = .ok (.laload, 1) := by decide +kernel
theorem d_law_836 : decode code 836 = .ok (.lload 6, 2) := by decide +kernel
theorem d_law_838 : decode code 838 = .ok (.lcmp, 1) := by decide +kernel
theorem d_law_839 : decode code 839 = .ok (.ifCond .eq 5, 3) := by decide +kernel
theorem d_law_842 : decode code 842 = .ok (.iconst 0, 1) := by decide +kernel
theorem d_law_843 : decode code 843 = .ok (.ireturn, 1) := by decide +kernel
theorem d_law_844 : decode code 844 = .ok (.goto 151, 3) := by decide +kernel
theorem d_law_847 : decode code 847 = .ok (.aload_n 1, 1) := by decide +kernel
theorem d_law_848 : decode code 848 = .ok (.aload_n 0, 1) := by decide +kernel
theorem d_law_849 : decode code 849 = .ok (.iload 4, 2) := by decide +kernel
theorem d_law_851 : decode code 851 = .ok (.iconst 1, 1) := by decide +kernel
theorem d_law_852 : decode code 852 = .ok (.iadd, 1) := by decide +kernel
theorem d_law_853 : decode code 853 = .ok (.iaload, 1) := by decide +kernel
theorem d_law_854 : decode code 854 = .ok (.i2l, 1) := by decide +kernel
theorem d_law_855 : decode code 855 = .ok (.bipush 32, 2) := by decide +kernel
theorem d_law_857 : decode code 857 = .ok (.lshl, 1) := by decide +kernel
theorem d_law_858 : decode code 858 = .ok (.aload_n 0, 1) := by decide +kernel
theorem d_law_859 : decode code 859 = .ok (.iload 4, 2) := by decide +kernel
theorem d_law_861 : decode code 861 = .ok (.iconst 2, 1) := by decide +kernel
theorem d_law_862 : decode code 862 = .ok (.iadd, 1) := by decide +kernel
theorem d_law_863 : decode code 863 = .ok (.iaload, 1) := by decide +kernel
theorem d_law_864 : decode code 864 = .ok (.i2l, 1) := by decide +kernel
theorem d_law_865 : decode code 865 = .ok (.ldc2_w 75, 3) := by decide +kernel
theorem d_law_868 : decode code 868 = .ok (.land, 1) := by decide +kernel
theorem d_law_869 : decode code 869 = .ok (.lor, 1) := by decide +kernel
theorem d_law_870 : decode code 870 = .ok (.aload_n 0, 1) := by decide +kernel
theorem d_law_871 : decode code 871 = .ok (.iload 4, 2) := by decide +kernel
theorem d_law_873 : decode code 873 = .ok (.iconst 3, 1) := by decide +kernel
theorem d_law_874 : decode code 874 = .ok (.iadd, 1) := by decide +kernel
theorem d_law_875 : decode code 875 = .ok (.iaload, 1) := by decide +kernel
theorem d_law_876 : decode code 876 = .ok (.invokevirtual 112, 3) := by decide +kernel
theorem d_law_879 : decode code 879 = .ok (.aload_n 2, 1) := by decide +kernel
theorem d_law_880 : decode code 880 = .ok (.aload_n 0, 1) := by decide +kernel
theorem d_law_881 : decode code 881 = .ok (.iload 4, 2) := by decide +kernel
theorem d_law_883 : decode code 883 = .ok (.iconst 1, 1) := by decide +kernel
theorem d_law_884 : decode code 884 = .ok (.iadd, 1) := by decide +kernel
theorem d_law_885 : decode code 885 = .ok (.iaload, 1) := by decide +kernel
theorem d_law_886 : decode code 886 = .ok (.i2l, 1) := by decide +kernel
theorem d_law_887 : decode code 887 = .ok (.bipush 32, 2) := by decide +kernel
theorem d_law_889 : decode code 889 = .ok (.lshl, 1) := by decide +kernel
theorem d_law_890 : decode code 890 = .ok (.aload_n 0, 1) := by decide +kernel
theorem d_law_891 : decode code 891 = .ok (.iload 4, 2) := by decide +kernel
theorem d_law_893 : decode code 893 = .ok (.iconst 2, 1) := by decide +kernel
theorem d_law_894 : decode code 894 = .ok (.iadd, 1) := by decide +kernel
theorem d_law_895 : decode code 895 = .ok (.iaload, 1) := by decide +kernel
theorem d_law_896 : decode code 896 = .ok (.i2l, 1) := by decide +kernel
theorem d_law_897 : decode code 897 = .ok (.ldc2_w 75, 3) := by decide +kernel
theorem d_law_900 : decode code 900 = .ok (.land, 1) := by decide +kernel
theorem d_law_901 : decode code 901 = .ok (.lor, 1) := by decide +kernel
theorem d_law_902 : decode code 902 = .ok (.aload_n 0, 1) := by decide +kernel
theorem d_law_903 : decode code 903 = .ok (.iload 4, 2) := by decide +kernel
theorem d_law_905 : decode code 905 = .ok (.iconst 3, 1) := by decide +kernel
theorem d_law_906 : decode code 906 = .ok (.iadd, 1) := by decide +kernel
theorem d_law_907 : decode code 907 = .ok (.iaload, 1) := by decide +kernel
theorem d_law_908 : decode code 908 = .ok (.invokevirtual 116, 3) := by decide +kernel
theorem d_law_911 : decode code 911 = .ok (.if_icmp .eq 84, 3) := by decide +kernel
theorem d_law_914 : decode code 914 = .ok (.iconst 0, 1) := by decide +kernel
theorem d_law_915 : decode code 915 = .ok (.ireturn, 1) := by decide +kernel
theorem d_law_916 : decode code 916 = .ok (.aload_n 1, 1) := by decide +kernel
theorem d_law_917 : decode code 917 = .ok (.aload_n 0, 1) := by decide +kernel
theorem d_law_918 : decode code 918 = .ok (.iload 4, 2) := by decide +kernel
theorem d_law_920 : decode code 920 = .ok (.iconst 1, 1) := by decide +kernel
theorem d_law_921 : decode code 921 = .ok (.iadd, 1) := by decide +kernel
theorem d_law_922 : decode code 922 = .ok (.iaload, 1) := by decide +kernel
theorem d_law_923 : decode code 923 = .ok (.aload_n 0, 1) := by decide +kernel
theorem d_law_924 : decode code 924 = .ok (.iload 4, 2) := by decide +kernel
theorem d_law_926 : decode code 926 = .ok (.iconst 2, 1) := by decide +kernel
theorem d_law_927 : decode code 927 = .ok (.iadd, 1) := by decide +kernel
theorem d_law_928 : decode code 928 = .ok (.iaload, 1) := by decide +kernel
theorem d_law_929 : decode code 929 = .ok (.aload_n 0, 1) := by decide +kernel
theorem d_law_930 : decode code 930 = .ok (.iload 4, 2) := by decide +kernel
theorem d_law_932 : decode code 932 = .ok (.iconst 3, 1) := by decide +kernel
theorem d_law_933 : decode code 933 = .ok (.iadd, 1) := by decide +kernel
theorem d_law_934 : decode code 934 = .ok (.iaload, 1) := by decide +kernel
theorem d_law_935 : decode code 935 = .ok (.aload_n 3, 1) := by decide +kernel
theorem d_law_936 : decode code 936 = .ok (.invokestatic 117, 3) := by decide +kernel
theorem d_law_939 : decode code 939 = .ok (.istore 5, 2) := by decide +kernel
theorem d_law_941 : decode code 941 = .ok (.aload_n 2, 1) := by decide +kernel
theorem d_law_942 : decode code 942 = .ok (.aload_n 0, 1) := by decide +kernel
theorem d_law_943 : decode code 943 = .ok (.iload 4, 2) := by decide +kernel
theorem d_law_945 : decode code 945 = .ok (.iconst 1, 1) := by decide +kernel
theorem d_law_946 : decode code 946 = .ok (.iadd, 1) := by decide +kernel
theorem d_law_947 : decode code 947 = .ok (.iaload, 1) := by decide +kernel
theorem d_law_948 : decode code 948 = .ok (.aload_n 0, 1) := by decide +kernel
theorem d_law_949 : decode code 949 = .ok (.iload 4, 2) := by decide +kernel
theorem d_law_951 : decode code 951 = .ok (.iconst 2, 1) := by decide +kernel
theorem d_law_952 : decode code 952 = .ok (.iadd, 1) := by decide +kernel
theorem d_law_953 : decode code 953 = .ok (.iaload, 1) := by decide +kernel
theorem d_law_954 : decode code 954 = .ok (.aload_n 0, 1) := by decide +kernel
theorem d_law_955 : decode code 955 = .ok (.iload 4, 2) := by decide +kernel
theorem d_law_957 : decode code 957 = .ok (.iconst 3, 1) := by decide +kernel
theorem d_law_958 : decode code 958 = .ok (.iadd, 1) := by decide +kernel
theorem d_law_959 : decode code 959 = .ok (.iaload, 1) := by decide +kernel
theorem d_law_960 : decode code 960 = .ok (.invokevirtual 119, 3) := by decide +kernel
theorem d_law_963 : decode code 963 = .ok (.lstore 6, 2) := by decide +kernel
theorem d_law_965 : decode code 965 = .ok (.aload_n 2, 1) := by decide +kernel
theorem d_law_966 : decode code 966 = .ok (.invokevirtual 72, 3) := by decide +kernel
theorem d_law_969 : decode code 969 = .ok (.iload 5, 2) := by decide +kernel
theorem d_law_971 : decode code 971 = .ok (.if_icmp .eq 5, 3) := by decide +kernel
theorem d_law_974 : decode code 974 = .ok (.iconst 0, 1) := by decide +kernel
theorem d_law_975 : decode code 975 = .ok (.ireturn, 1) := by decide +kernel
theorem d_law_976 : decode code 976 = .ok (.iload 5, 2) := by decide +kernel
theorem d_law_978 : decode code 978 = .ok (.ifCond .ne 14, 3) := by decide +kernel
theorem d_law_981 : decode code 981 = .ok (.aload_n 3, 1) := by decide +kernel
theorem d_law_982 : decode code 982 = .ok (.iconst 0, 1) := by decide +kernel
theorem d_law_983 : decode code 983 = .ok (.laload, 1) := by decide +kernel
theorem d_law_984 : decode code 984 = .ok (.lload 6, 2) := by decide +kernel
theorem d_law_986 : decode code 986 = .ok (.lcmp, 1) := by decide +kernel
theorem d_law_987 : decode code 987 = .ok (.ifCond .eq 5, 3) := by decide +kernel
theorem d_law_990 : decode code 990 = .ok (.iconst 0, 1) := by decide +kernel
theorem d_law_991 : decode code 991 = .ok (.ireturn, 1) := by decide +kernel
theorem d_law_992 : decode code 992 = .ok (.goto 3, 3) := by decide +kernel
theorem d_law_995 : decode code 995 = .ok (.iinc 4 4, 3) := by decide +kernel
theorem d_law_998 : decode code 998 = .ok (.goto (-963), 3) := by decide +kernel
theorem d_law_1001 : decode code 1001 = .ok (.iconst 1, 1) := by decide +kernel
theorem d_law_1002 : decode code 1002 = .ok (.ireturn, 1) := by decide +kernel
