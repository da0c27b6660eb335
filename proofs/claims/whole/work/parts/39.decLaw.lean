theorem d_La_law_0 : decode code 0 = .ok (.new 8, 3) := by decide +kernel
theorem d_La_law_3 : decode code 3 = .ok (.dup, 1) := by decide +kernel
theorem d_La_law_4 : decode code 4 = .ok (.invokespecial 97, 3) := by decide +kernel
theorem d_La_law_7 : decode code 7 = .ok (.astore_n 1, 1) := by decide +kernel
theorem d_La_law_8 : decode code 8 = .ok (.new 98, 3) := by decide +kernel
theorem d_La_law_11 : decode code 11 = .ok (.dup, 1) := by decide +kernel
theorem d_La_law_12 : decode code 12 = .ok (.invokespecial 100, 3) := by decide +kernel
theorem d_La_law_15 : decode code 15 = .ok (.astore_n 2, 1) := by decide +kernel
theorem d_La_law_16 : decode code 16 = .ok (.iconst 1, 1) := by decide +kernel
theorem d_La_law_17 : decode code 17 = .ok (.newarray .long, 2) := by decide +kernel
theorem d_La_law_19 : decode code 19 = .ok (.astore_n 3, 1) := by decide +kernel
theorem d_La_law_20 : decode code 20 = .ok (.iconst 0, 1) := by decide +kernel
theorem d_La_law_21 : decode code 21 = .ok (.istore 4, 2) := by decide +kernel
theorem d_La_law_23 : decode code 23 = .ok (.iload 4, 2) := by decide +kernel
theorem d_La_law_25 : decode code 25 = .ok (.aload_n 0, 1) := by decide +kernel
theorem d_La_law_26 : decode code 26 = .ok (.arraylength, 1) := by decide +kernel
theorem d_La_law_27 : decode code 27 = .ok (.iconst 5, 1) := by decide +kernel
theorem d_La_law_28 : decode code 28 = .ok (.isub, 1) := by decide +kernel
theorem d_La_law_29 : decode code 29 = .ok (.if_icmp .gt 1536, 3) := by decide +kernel
theorem d_La_law_32 : decode code 32 = .ok (.aload_n 0, 1) := by decide +kernel
theorem d_La_law_33 : decode code 33 = .ok (.iload 4, 2) := by decide +kernel
theorem d_La_law_35 : decode code 35 = .ok (.iaload, 1) := by decide +kernel
theorem d_La_law_36 : decode code 36 = .ok (.bipush 31, 2) := by decide +kernel
theorem d_La_law_38 : decode code 38 = .ok (.iand, 1) := by decide +kernel
theorem d_La_law_39 : decode code 39 = .ok (.tableswitch 1520 0 22 #[105, 165, 245, 281, 361, 409, 445, 545, 589, 602, 694, 762, 826, 882, 950, 998, 1066, 1134, 1214, 1282, 1338, 1405, 1441], 105) := by decide +kernel
theorem d_La_law_144 : decode code 144 = .ok (.aload_n 1, 1) := by decide +kernel
theorem d_La_law_145 : decode code 145 = .ok (.aload_n 0, 1) := by decide +kernel
theorem d_La_law_146 : decode code 146 = .ok (.iload 4, 2) := by decide +kernel
theorem d_La_law_148 : decode code 148 = .ok (.iconst 1, 1) := by decide +kernel
theorem d_La_law_149 : decode code 149 = .ok (.iadd, 1) := by decide +kernel
theorem d_La_law_150 : decode code 150 = .ok (.iaload, 1) := by decide +kernel
theorem d_La_law_151 : decode code 151 = .ok (.aload_n 0, 1) := by decide +kernel
theorem d_La_law_152 : decode code 152 = .ok (.iload 4, 2) := by decide +kernel
theorem d_La_law_154 : decode code 154 = .ok (.iconst 2, 1) := by decide +kernel
theorem d_La_law_155 : decode code 155 = .ok (.iadd, 1) := by decide +kernel
theorem d_La_law_156 : decode code 156 = .ok (.iaload, 1) := by decide +kernel
theorem d_La_law_157 : decode code 157 = .ok (.aload_n 0, 1) := by decide +kernel
theorem d_La_law_158 : decode code 158 = .ok (.iload 4, 2) := by decide +kernel
theorem d_La_law_160 : decode code 160 = .ok (.iconst 3, 1) := by decide +kernel
theorem d_La_law_161 : decode code 161 = .ok (.iadd, 1) := by decide +kernel
theorem d_La_law_162 : decode code 162 = .ok (.iaload, 1) := by decide +kernel
theorem d_La_law_163 : decode code 163 = .ok (.invokestatic 101, 3) := by decide +kernel
theorem d_La_law_166 : decode code 166 = .ok (.istore 5, 2) := by decide +kernel
theorem d_La_law_168 : decode code 168 = .ok (.aload_n 2, 1) := by decide +kernel
theorem d_La_law_169 : decode code 169 = .ok (.aload_n 0, 1) := by decide +kernel
theorem d_La_law_170 : decode code 170 = .ok (.iload 4, 2) := by decide +kernel
theorem d_La_law_172 : decode code 172 = .ok (.iconst 1, 1) := by decide +kernel
theorem d_La_law_173 : decode code 173 = .ok (.iadd, 1) := by decide +kernel
theorem d_La_law_174 : decode code 174 = .ok (.iaload, 1) := by decide +kernel
theorem d_La_law_175 : decode code 175 = .ok (.aload_n 0, 1) := by decide +kernel
theorem d_La_law_176 : decode code 176 = .ok (.iload 4, 2) := by decide +kernel
theorem d_La_law_178 : decode code 178 = .ok (.iconst 2, 1) := by decide +kernel
theorem d_La_law_179 : decode code 179 = .ok (.iadd, 1) := by decide +kernel
theorem d_La_law_180 : decode code 180 = .ok (.iaload, 1) := by decide +kernel
theorem d_La_law_181 : decode code 181 = .ok (.aload_n 0, 1) := by decide +kernel
theorem d_La_law_182 : decode code 182 = .ok (.iload 4, 2) := by decide +kernel
theorem d_La_law_184 : decode code 184 = .ok (.iconst 3, 1) := by decide +kernel
theorem d_La_law_185 : decode code 185 = .ok (.iadd, 1) := by decide +kernel
theorem d_La_law_186 : decode code 186 = .ok (.iaload, 1) := by decide +kernel
theorem d_La_law_187 : decode code 187 = .ok (.invokevirtual 106, 3) := by decide +kernel
theorem d_La_law_190 : decode code 190 = .ok (.aload_n 2, 1) := by decide +kernel
theorem d_La_law_191 : decode code 191 = .ok (.invokevirtual 107, 3) := by decide +kernel
theorem d_La_law_194 : decode code 194 = .ok (.iload 5, 2) := by decide +kernel
theorem d_La_law_196 : decode code 196 = .ok (.if_icmp .eq 5, 3) := by decide +kernel
theorem d_La_law_199 : decode code 199 = .ok (.iconst 0, 1) := by decide +kernel
theorem d_La_law_200 : decode code 200 = .ok (.ireturn, 1) := by decide +kernel
theorem d_La_law_201 : decode code 201 = .ok (.goto 1358, 3) := by decide +kernel
theorem d_La_law_204 : decode code 204 = .ok (.aload_n 1, 1) := by decide +kernel
theorem d_La_law_205 : decode code 205 = .ok (.aload_n 0, 1) := by decide +kernel
theorem d_La_law_206 : decode code 206 = .ok (.iload 4, 2) := by decide +kernel
theorem d_La_law_208 : decode code 208 = .ok (.iconst 1, 1) := by decide +kernel
theorem d_La_law_209 : decode code 209 = .ok (.iadd, 1) := by decide +kernel
theorem d_La_law_210 : decode code 210 = .ok (.iaload, 1) := by decide +kernel
theorem d_La_law_211 : decode code 211 = .ok (.aload_n 0, 1) := by decide +kernel
theorem d_La_law_212 : decode code 212 = .ok (.iload 4, 2) := by decide +kernel
theorem d_La_law_214 : decode code 214 = .ok (.iconst 2, 1) := by decide +kernel
theorem d_La_law_215 : decode code 215 = .ok (.iadd, 1) := by decide +kernel
theorem d_La_law_216 : decode code 216 = .ok (.iaload, 1) := by decide +kernel
theorem d_La_law_217 : decode code 217 = .ok (.aload_n 0, 1) := by decide +kernel
theorem d_La_law_218 : decode code 218 = .ok (.iload 4, 2) := by decide +kernel
theorem d_La_law_220 : decode code 220 = .ok (.iconst 3, 1) := by decide +kernel
theorem d_La_law_221 : decode code 221 = .ok (.iadd, 1) := by decide +kernel
theorem d_La_law_222 : decode code 222 = .ok (.iaload, 1) := by decide +kernel
theorem d_La_law_223 : decode code 223 = .ok (.aload_n 3, 1) := by decide +kernel
theorem d_La_law_224 : decode code 224 = .ok (.invokestatic 110, 3) := by decide +kernel
theorem d_La_law_227 : decode code 227 = .ok (.istore 5, 2) := by decide +kernel
theorem d_La_law_229 : decode code 229 = .ok (.aload_n 2, 1) := by decide +kernel
theorem d_La_law_230 : decode code 230 = .ok (.aload_n 0, 1) := by decide +kernel
theorem d_La_law_231 : decode code 231 = .ok (.iload 4, 2) := by decide +kernel
theorem d_La_law_233 : decode code 233 = .ok (.iconst 1, 1) := by decide +kernel
theorem d_La_law_234 : decode code 234 = .ok (.iadd, 1) := by decide +kernel
theorem d_La_law_235 : decode code 235 = .ok (.iaload, 1) := by decide +kernel
theorem d_La_law_236 : decode code 236 = .ok (.aload_n 0, 1) := by decide +kernel
theorem d_La_law_237 : decode code 237 = .ok (.iload 4, 2) := by decide +kernel
theorem d_La_law_239 : decode code 239 = .ok (.iconst 2, 1) := by decide +kernel
theorem d_La_law_240 : decode code 240 = .ok (.iadd, 1) := by decide +kernel
theorem d_La_law_241 : decode code 241 = .ok (.iaload, 1) := by decide +kernel
theorem d_La_law_242 : decode code 242 = .ok (.aload_n 0, 1) := by decide +kernel
theorem d_La_law_243 : decode code 243 = .ok (.iload 4, 2) := by decide +kernel
theorem d_La_law_245 : decode code 245 = .ok (.iconst 3, 1) := by decide +kernel
theorem d_La_law_246 : decode code 246 = .ok (.iadd, 1) := by decide +kernel
theorem d_La_law_247 : decode code 247 = .ok (.iaload, 1) := by decide +kernel
theorem d_La_law_248 : decode code 248 = .ok (.invokevirtual 113, 3) := by decide +kernel
theorem d_La_law_251 : decode code 251 = .ok (.istore 6, 2) := by decide +kernel
theorem d_La_law_253 : decode code 253 = .ok (.aload_n 2, 1) := by decide +kernel
theorem d_La_law_254 : decode code 254 = .ok (.invokevirtual 107, 3) := by decide +kernel
theorem d_La_law_257 : decode code 257 = .ok (.iload 5, 2) := by decide +kernel
theorem d_La_law_259 : decode code 259 = .ok (.if_icmp .eq 5, 3) := by decide +kernel
theorem d_La_law_262 : decode code 262 = .ok (.iconst 0, 1) := by decide +kernel
theorem d_La_law_263 : decode code 263 = .ok (.ireturn, 1) := by decide +kernel
theorem d_La_law_264 : decode code 264 = .ok (.iload 5, 2) := by decide +kernel
theorem d_La_law_266 : decode code 266 = .ok (.ifCond .ne 15, 3) := by decide +kernel
theorem d_La_law_269 : decode code 269 = .ok (.aload_n 3, 1) := by decide +kernel
theorem d_La_law_270 : decode code 270 = .ok (.iconst 0, 1) := by decide +kernel
theorem d_La_law_271 : decode code 271 = .ok (.laload, 1) := by decide +kernel
theorem d_La_law_272 : decode code 272 = .ok (.iload 6, 2) := by decide +kernel
theorem d_La_law_274 : decode code 274 = .ok (.i2l, 1) := by decide +kernel
theorem d_La_law_275 : decode code 275 = .ok (.lcmp, 1) := by decide +kernel
theorem d_La_law_276 : decode code 276 = .ok (.ifCond .eq 5, 3) := by decide +kernel
theorem d_La_law_279 : decode code 279 = .ok (.iconst 0, 1) := by decide +kernel
theorem d_La_law_280 : decode code 280 = .ok (.ireturn, 1) := by decide +kernel
theorem d_La_law_281 : decode code 281 = .ok (.goto 1278, 3) := by decide +kernel
theorem d_La_law_284 : decode code 284 = .ok (.aload_n 1, 1) := by decide +kernel
theorem d_La_law_285 : decode code 285 = .ok (.aload_n 0, 1) := by decide +kernel
theorem d_La_law_286 : decode code 286 = .ok (.iload 4, 2) := by decide +kernel
theorem d_La_law_288 : decode code 288 = .ok (.iconst 1, 1) := by decide +kernel
theorem d_La_law_289 : decode code 289 = .ok (.iadd, 1) := by decide +kernel
theorem d_La_law_290 : decode code 290 = .ok (.iaload, 1) := by decide +kernel
theorem d_La_law_291 : decode code 291 = .ok (.invokestatic 114, 3) := by decide +kernel
theorem d_La_law_294 : decode code 294 = .ok (.istore 5, 2) := by decide +kernel
theorem d_La_law_296 : decode code 296 = .ok (.aload_n 2, 1) := by decide +kernel
theorem d_La_law_297 : decode code 297 = .ok (.aload_n 0, 1) := by decide +kernel
theorem d_La_law_298 : decode code 298 = .ok (.iload 4, 2) := by decide +kernel
theorem d_La_law_300 : decode code 300 = .ok (.iconst 1, 1) := by decide +kernel
theorem d_La_law_301 : decode code 301 = .ok (.iadd, 1) := by decide +kernel
theorem d_La_law_302 : decode code 302 = .ok (.iaload, 1) := by decide +kernel
theorem d_La_law_303 : decode code 303 = .ok (.invokevirtual 117, 3) := by decide +kernel
theorem d_La_law_306 : decode code 306 = .ok (.aload_n 2, 1) := by decide +kernel
theorem d_La_law_307 : decode code 307 = .ok (.invokevirtual 107, 3) := by decide +kernel
theorem d_La_law_310 : decode code 310 = .ok (.iload 5, 2) := by decide +kernel
theorem d_La_law_312 : decode code 312 = .ok (.if_icmp .eq 5, 3) := by decide +kernel
theorem d_La_law_315 : decode code 315 = .ok (.iconst 0, 1) := by decide +kernel
theorem d_La_law_316 : decode code 316 = .ok (.ireturn, 1) := by decide +kernel
theorem d_La_law_317 : decode code 317 = .ok (.goto 1242, 3) := by decide +kernel
theorem d_La_law_320 : decode code 320 = .ok (.aload_n 1, 1) := by decide +kernel
theorem d_La_law_321 : decode code 321 = .ok (.aload_n 0, 1) := by decide +kernel
theorem d_La_law_322 : decode code 322 = .ok (.iload 4, 2) := by decide +kernel
theorem d_La_law_324 : decode code 324 = .ok (.iconst 1, 1) := by decide +kernel
theorem d_La_law_325 : decode code 325 = .ok (.iadd, 1) := by decide +kernel
theorem d_La_law_326 : decode code 326 = .ok (.iaload, 1) := by decide +kernel
theorem d_La_law_327 : decode code 327 = .ok (.aload_n 0, 1) := by decide +kernel
theorem d_La_law_328 : decode code 328 = .ok (.iload 4, 2) := by decide +kernel
theorem d_La_law_330 : decode code 330 = .ok (.iconst 2, 1) := by decide +kernel
theorem d_La_law_331 : decode code 331 = .ok (.iadd, 1) := by decide +kernel
theorem d_La_law_332 : decode code 332 = .ok (.iaload, 1) := by decide +kernel
theorem d_La_law_333 : decode code 333 = .ok (.aload_n 0, 1) := by decide +kernel
theorem d_La_law_334 : decode code 334 = .ok (.iload 4, 2) := by decide +kernel
theorem d_La_law_336 : decode code 336 = .ok (.iconst 3, 1) := by decide +kernel
theorem d_La_law_337 : decode code 337 = .ok (.iadd, 1) := by decide +kernel
theorem d_La_law_338 : decode code 338 = .ok (.iaload, 1) := by decide +kernel
theorem d_La_law_339 : decode code 339 = .ok (.aload_n 3, 1) := by decide +kernel
theorem d_La_law_340 : decode code 340 = .ok (.invokestatic 118, 3) := by decide +kernel
theorem d_La_law_343 : decode code 343 = .ok (.istore 5, 2) := by decide +kernel
theorem d_La_law_345 : decode code 345 = .ok (.aload_n 2, 1) := by decide +kernel
theorem d_La_law_346 : decode code 346 = .ok (.aload_n 0, 1) := by decide +kernel
theorem d_La_law_347 : decode code 347 = .ok (.iload 4, 2) := by decide +kernel
theorem d_La_law_349 : decode code 349 = .ok (.iconst 1, 1) := by decide +kernel
theorem d_La_law_350 : decode code 350 = .ok (.iadd, 1) := by decide +kernel
theorem d_La_law_351 : decode code 351 = .ok (.iaload, 1) := by decide +kernel
theorem d_La_law_352 : decode code 352 = .ok (.aload_n 0, 1) := by decide +kernel
theorem d_La_law_353 : decode code 353 = .ok (.iload 4, 2) := by decide +kernel
theorem d_La_law_355 : decode code 355 = .ok (.iconst 2, 1) := by decide +kernel
theorem d_La_law_356 : decode code 356 = .ok (.iadd, 1) := by decide +kernel
theorem d_La_law_357 : decode code 357 = .ok (.iaload, 1) := by decide +kernel
theorem d_La_law_358 : decode code 358 = .ok (.aload_n 0, 1) := by decide +kernel
theorem d_La_law_359 : decode code 359 = .ok (.iload 4, 2) := by decide +kernel
theorem d_La_law_361 : decode code 361 = .ok (.iconst 3, 1) := by decide +kernel
theorem d_La_law_362 : decode code 362 = .ok (.iadd, 1) := by decide +kernel
theorem d_La_law_363 : decode code 363 = .ok (.iaload, 1) := by decide +kernel
theorem d_La_law_364 : decode code 364 = .ok (.invokevirtual 120, 3) := by decide +kernel
theorem d_La_law_367 : decode code 367 = .ok (.istore 6, 2) := by decide +kernel
theorem d_La_law_369 : decode code 369 = .ok (.aload_n 2, 1) := by decide +kernel
theorem d_La_law_370 : decode code 370 = .ok (.invokevirtual 107, 3) := by decide +kernel
theorem d_La_law_373 : decode code 373 = .ok (.iload 5, 2) := by decide +kernel
theorem d_La_law_375 : decode code 375 = .ok (.if_icmp .eq 5, 3) := by decide +kernel
theorem d_La_law_378 : decode code 378 = .ok (.iconst 0, 1) := by decide +kernel
theorem d_La_law_379 : decode code 379 = .ok (.ireturn, 1) := by decide +kernel
theorem d_La_law_380 : decode code 380 = .ok (.iload 5, 2) := by decide +kernel
theorem d_La_law_382 : decode code 382 = .ok (.ifCond .ne 15, 3) := by decide +kernel
theorem d_La_law_385 : decode code 385 = .ok (.aload_n 3, 1) := by decide +kernel
theorem d_La_law_386 : decode code 386 = .ok (.iconst 0, 1) := by decide +kernel
theorem d_La_law_387 : decode code 387 = .ok (.laload, 1) := by decide +kernel
theorem d_La_law_388 : decode code 388 = .ok (.iload 6, 2) := by decide +kernel
theorem d_La_law_390 : decode code 390 = .ok (.i2l, 1) := by decide +kernel
theorem d_La_law_391 : decode code 391 = .ok (.lcmp, 1) := by decide +kernel
theorem d_La_law_392 : decode code 392 = .ok (.ifCond .eq 5, 3) := by decide +kernel
theorem d_La_law_395 : decode code 395 = .ok (.iconst 0, 1) := by decide +kernel
theorem d_La_law_396 : decode code 396 = .ok (.ireturn, 1) := by decide +kernel
theorem d_La_law_397 : decode code 397 = .ok (.goto 1162, 3) := by decide +kernel
theorem d_La_law_400 : decode code 400 = .ok (.aload_n 1, 1) := by decide +kernel
theorem d_La_law_401 : decode code 401 = .ok (.aload_n 0, 1) := by decide +kernel
theorem d_La_law_402 : decode code 402 = .ok (.iload 4, 2) := by decide +kernel
theorem d_La_law_404 : decode code 404 = .ok (.iconst 1, 1) := by decide +kernel
theorem d_La_law_405 : decode code 405 = .ok (.iadd, 1) := by decide +kernel
theorem d_La_law_406 : decode code 406 = .ok (.iaload, 1) := by decide +kernel
theorem d_La_law_407 : decode code 407 = .ok (.aload_n 0, 1) := by decide +kernel
theorem d_La_law_408 : decode code 408 = .ok (.iload 4, 2) := by decide +kernel
theorem d_La_law_410 : decode code 410 = .ok (.iconst 2, 1) := by decide +kernel
theorem d_La_law_411 : decode code 411 = .ok (.iadd, 1) := by decide +kernel
theorem d_La_law_412 : decode code 412 = .ok (.iaload, 1) := by decide +kernel
theorem d_La_law_413 : decode code 413 = .ok (.invokestatic 121, 3) := by decide +kernel
theorem d_La_law_416 : decode code 416 = .ok (.istore 5, 2) := by decide +kernel
theorem d_La_law_418 : decode code 418 = .ok (.aload_n 2, 1) := by decide +kernel
theorem d_La_law_419 : decode code 419 = .ok (.aload_n 0, 1) := by decide +kernel
theorem d_La_law_420 : decode code 420 = .ok (.iload 4, 2) := by decide +kernel
theorem d_La_law_422 : decode code 422 = .ok (.iconst 1, 1) := by decide +kernel
theorem d_La_law_423 : decode code 423 = .ok (.iadd, 1) := by decide +kernel
theorem d_La_law_424 : decode code 424 = .ok (.iaload, 1) := by decide +kernel
theorem d_La_law_425 : decode code 425 = .ok (.aload_n 0, 1) := by decide +kernel
theorem d_La_law_426 : decode code 426 = .ok (.iload 4, 2) := by decide +kernel
theorem d_La_law_428 : decode code 428 = .ok (.iconst 2, 1) := by decide +kernel
theorem d_La_law_429 : decode code 429 = .ok (.iadd, 1) := by decide +kernel
theorem d_La_law_430 : decode code 430 = .ok (.iaload, 1) := by decide +kernel
theorem d_La_law_431 : decode code 431 = .ok (.invokevirtual 124, 3) := by decide +kernel
theorem d_La_law_434 : decode code 434 = .ok (.aload_n 2, 1) := by decide +kernel
theorem d_La_law_435 : decode code 435 = .ok (.invokevirtual 107, 3) := by decide +kernel
theorem d_La_law_438 : decode code 438 = .ok (.iload 5, 2) := by decide +kernel
theorem d_La_law_440 : decode code 440 = .ok (.if_icmp .eq 5, 3) := by decide +kernel
theorem d_La_law_443 : decode code 443 = .ok (.iconst 0, 1) := by decide +kernel
theorem d_La_law_444 : decode code 444 = .ok (.ireturn, 1) := by decide +kernel
theorem d_La_law_445 : decode code 445 = .ok (.goto 1114, 3) := by decide +kernel
theorem d_La_law_448 : decode code 448 = .ok (.aload_n 1, 1) := by decide +kernel
theorem d_La_law_449 : decode code 449 = .ok (.aload_n 0, 1) := by decide +kernel
theorem d_La_law_450 : decode code 450 = .ok (.iload 4, 2) := by decide +kernel
theorem d_La_law_452 : decode code 452 = .ok (.iconst 1, 1) := by decide +kernel
theorem d_La_law_453 : decode code 453 = .ok (.iadd, 1) := by decide +kernel
theorem d_La_law_454 : decode code 454 = .ok (.iaload, 1) := by decide +kernel
theorem d_La_law_455 : decode code 455 = .ok (.invokestatic 125, 3) := by decide +kernel
theorem d_La_law_458 : decode code 458 = .ok (.istore 5, 2) := by decide +kernel
theorem d_La_law_460 : decode code 460 = .ok (.aload_n 2, 1) := by decide +kernel
theorem d_La_law_461 : decode code 461 = .ok (.aload_n 0, 1) := by decide +kernel
theorem d_La_law_462 : decode code 462 = .ok (.iload 4, 2) := by decide +kernel
theorem d_La_law_464 : decode code 464 = .ok (.iconst 1, 1) := by decide +kernel
theorem d_La_law_465 : decode code 465 = .ok (.iadd, 1) := by decide +kernel
theorem d_La_law_466 : decode code 466 = .ok (.iaload, 1) := by decide +kernel
theorem d_La_law_467 : decode code 467 = .ok (.invokevirtual 127, 3) := by decide +kernel
theorem d_La_law_470 : decode code 470 = .ok (.aload_n 2, 1) := by decide +kernel
theorem d_La_law_471 : decode code 471 = .ok (.invokevirtual 107, 3) := by decide +kernel
theorem d_La_law_474 : decode code 474 = .ok (.iload 5, 2) := by decide +kernel
theorem d_La_law_476 : decode code 476 = .ok (.if_icmp .eq 5, 3) := by decide +kernel
theorem d_La_law_479 : decode code 479 = .ok (.iconst 0, 1) := by decide +kernel
theorem d_La_law_480 : decode code 480 = .ok (.ireturn, 1) := by decide +kernel
theorem d_La_law_481 : decode code 481 = .ok (.goto 1078, 3) := by decide +kernel
theorem d_La_law_484 : decode code 484 = .ok (.aload_n 1, 1) := by decide +kernel
theorem d_La_law_485 : decode code 485 = .ok (.aload_n 0, 1) := by decide +kernel
theorem d_La_law_486 : decode code 486 = .ok (.iload 4, 2) := by decide +kernel
theorem d_La_law_488 : decode code 488 = .ok (.iconst 1, 1) := by decide +kernel
theorem d_La_law_489 : decode code 489 = .ok (.iadd, 1) := by decide +kernel
theorem d_La_law_490 : decode code 490 = .ok (.iaload, 1) := by decide +kernel
theorem d_La_law_491 : decode code 491 = .ok (.i2l, 1) := by decide +kernel
theorem d_La_law_492 : decode code 492 = .ok (.bipush 32, 2) := by decide +kernel
theorem d_La_law_494 : decode code 494 = .ok (.lshl, 1) := by decide +kernel
theorem d_La_law_495 : decode code 495 = .ok (.aload_n 0, 1) := by decide +kernel
theorem d_La_law_496 : decode code 496 = .ok (.iload 4, 2) := by decide +kernel
theorem d_La_law_498 : decode code 498 = .ok (.iconst 2, 1) := by decide +kernel
theorem d_La_law_499 : decode code 499 = .ok (.iadd, 1) := by decide +kernel
theorem d_La_law_500 : decode code 500 = .ok (.iaload, 1) := by decide +kernel
theorem d_La_law_501 : decode code 501 = .ok (.i2l, 1) := by decide +kernel
theorem d_La_law_502 : decode code 502 = .ok (.ldc2_w 128, 3) := by decide +kernel
theorem d_La_law_505 : decode code 505 = .ok (.land, 1) := by decide +kernel
theorem d_La_law_506 : decode code 506 = .ok (.lor, 1) := by decide +kernel
theorem d_La_law_507 : decode code 507 = .ok (.aload_n 0, 1) := by decide +kernel
theorem d_La_law_508 : decode code 508 = .ok (.iload 4, 2) := by decide +kernel
theorem d_La_law_510 : decode code 510 = .ok (.iconst 3, 1) := by decide +kernel
theorem d_La_law_511 : decode code 511 = .ok (.iadd, 1) := by decide +kernel
theorem d_La_law_512 : decode code 512 = .ok (.iaload, 1) := by decide +kernel
theorem d_La_law_513 : decode code 513 = .ok (.aload_n 3, 1) := by decide +kernel
theorem d_La_law_514 : decode code 514 = .ok (.invokestatic 130, 3) := by decide +kernel
theorem d_La_law_517 : decode code 517 = .ok (.istore 5, 2) := by decide +kernel
theorem d_La_law_519 : decode code 519 = .ok (.aload_n 2, 1) := by decide +kernel
theorem d_La_law_520 : decode code 520 = .ok (.aload_n 0, 1) := by decide +kernel
theorem d_La_law_521 : decode code 521 = .ok (.iload 4, 2) := by decide +kernel
theorem d_La_law_523 : decode code 523 = .ok (.iconst 1, 1) := by decide +kernel
theorem d_La_law_524 : decode code 524 = .ok (.iadd, 1) := by decide +kernel
theorem d_La_law_525 : decode code 525 = .ok (.iaload, 1) := by decide +kernel
theorem d_La_law_526 : decode code 526 = .ok (.i2l, 1) := by decide +kernel
theorem d_La_law_527 : decode code 527 = .ok (.bipush 32, 2) := by decide +kernel
theorem d_La_law_529 : decode code 529 = .ok (.lshl, 1) := by decide +kernel
theorem d_La_law_530 : decode code 530 = .ok (.aload_n 0, 1) := by decide +kernel
theorem d_La_law_531 : decode code 531 = .ok (.iload 4, 2) := by decide +kernel
theorem d_La_law_533 : decode code 533 = .ok (.iconst 2, 1) := by decide +kernel
theorem d_La_law_534 : decode code 534 = .ok (.iadd, 1) := by decide +kernel
theorem d_La_law_535 : decode code 535 = .ok (.iaload, 1) := by decide +kernel
theorem d_La_law_536 : decode code 536 = .ok (.i2l, 1) := by decide +kernel
theorem d_La_law_537 : decode code 537 = .ok (.ldc2_w 128, 3) := by decide +kernel
theorem d_La_law_540 : decode code 540 = .ok (.land, 1) := by decide +kernel
theorem d_La_law_541 : decode code 541 = .ok (.lor, 1) := by decide +kernel
theorem d_La_law_542 : decode code 542 = .ok (.aload_n 0, 1) := by decide +kernel
theorem d_La_law_543 : decode code 543 = .ok (.iload 4, 2) := by decide +kernel
theorem d_La_law_545 : decode code 545 = .ok (.iconst 3, 1) := by decide +kernel
theorem d_La_law_546 : decode code 546 = .ok (.iadd, 1) := by decide +kernel
theorem d_La_law_547 : decode code 547 = .ok (.iaload, 1) := by decide +kernel
theorem d_La_law_548 : decode code 548 = .ok (.invokevirtual 133, 3) := by decide +kernel
theorem d_La_law_551 : decode code 551 = .ok (.istore 6, 2) := by decide +kernel
theorem d_La_law_553 : decode code 553 = .ok (.aload_n 2, 1) := by decide +kernel
theorem d_La_law_554 : decode code 554 = .ok (.invokevirtual 107, 3) := by decide +kernel
theorem d_La_law_557 : decode code 557 = .ok (.iload 5, 2) := by decide +kernel
theorem d_La_law_559 : decode code 559 = .ok (.if_icmp .eq 5, 3) := by decide +kernel
theorem d_La_law_562 : decode code 562 = .ok (.iconst 0, 1) := by decide +kernel
theorem d_La_law_563 : decode code 563 = .ok (.ireturn, 1) := by decide +kernel
theorem d_La_law_564 : decode code 564 = .ok (.iload 5, 2) := by decide +kernel
theorem d_La_law_566 : decode code 566 = .ok (.ifCond .ne 15, 3) := by decide +kernel
theorem d_La_law_569 : decode code 569 = .ok (.aload_n 3, 1) := by decide +kernel
theorem d_La_law_570 : decode code 570 = .ok (.iconst 0, 1) := by decide +kernel
theorem d_La_law_571 : decode code 571 = .ok (.laload, 1) := by decide +kernel
theorem d_La_law_572 : decode code 572 = .ok (.iload 6, 2) := by decide +kernel
theorem d_La_law_574 : decode code 574 = .ok (.i2l, 1) := by decide +kernel
theorem d_La_law_575 : decode code 575 = .ok (.lcmp, 1) := by decide +kernel
theorem d_La_law_576 : decode code 576 = .ok (.ifCond .eq 5, 3) := by decide +kernel
theorem d_La_law_579 : decode code 579 = .ok (.iconst 0, 1) := by decide +kernel
theorem d_La_law_580 : decode code 580 = .ok (.ireturn, 1) := by decide +kernel
theorem d_La_law_581 : decode code 581 = .ok (.goto 978, 3) := by decide +kernel
theorem d_La_law_584 : decode code 584 = .ok (.aload_n 1, 1) := by decide +kernel
theorem d_La_law_585 : decode code 585 = .ok (.aload_n 3, 1) := by decide +kernel
theorem d_La_law_586 : decode code 586 = .ok (.invokestatic 134, 3) := by decide +kernel
theorem d_La_law_589 : decode code 589 = .ok (.istore 5, 2) := by decide +kernel
theorem d_La_law_591 : decode code 591 = .ok (.aload_n 2, 1) := by decide +kernel
theorem d_La_law_592 : decode code 592 = .ok (.invokevirtual 137, 3) := by decide +kernel
theorem d_La_law_595 : decode code 595 = .ok (.istore 6, 2) := by decide +kernel
theorem d_La_law_597 : decode code 597 = .ok (.aload_n 2, 1) := by decide +kernel
theorem d_La_law_598 : decode code 598 = .ok (.invokevirtual 107, 3) := by decide +kernel
theorem d_La_law_601 : decode code 601 = .ok (.iload 5, 2) := by decide +kernel
theorem d_La_law_603 : decode code 603 = .ok (.if_icmp .eq 5, 3) := by decide +kernel
theorem d_La_law_606 : decode code 606 = .ok (.iconst 0, 1) := by decide +kernel
theorem d_La_law_607 : decode code 607 = .ok (.ireturn, 1) := by decide +kernel
theorem d_La_law_608 : decode code 608 = .ok (.iload 5, 2) := by decide +kernel
theorem d_La_law_610 : decode code 610 = .ok (.ifCond .ne 15, 3) := by decide +kernel
theorem d_La_law_613 : decode code 613 = .ok (.aload_n 3, 1) := by decide +kernel
theorem d_La_law_614 : decode code 614 = .ok (.iconst 0, 1) := by decide +kernel
theorem d_La_law_615 : decode code 615 = .ok (.laload, 1) := by decide +kernel
theorem d_La_law_616 : decode code 616 = .ok (.iload 6, 2) := by decide +kernel
theorem d_La_law_618 : decode code 618 = .ok (.i2l, 1) := by decide +kernel
theorem d_La_law_619 : decode code 619 = .ok (.lcmp, 1) := by decide +kernel
theorem d_La_law_620 : decode code 620 = .ok (.ifCond .eq 5, 3) := by decide +kernel
theorem d_La_law_623 : decode code 623 = .ok (.iconst 0, 1) := by decide +kernel
theorem d_La_law_624 : decode code 624 = .ok (.ireturn, 1) := by decide +kernel
theorem d_La_law_625 : decode code 625 = .ok (.goto 934, 3) := by decide +kernel
theorem d_La_law_628 : decode code 628 = .ok (.aload_n 1, 1) := by decide +kernel
theorem d_La_law_629 : decode code 629 = .ok (.invokevirtual 138, 3) := by decide +kernel
theorem d_La_law_632 : decode code 632 = .ok (.aload_n 2, 1) := by decide +kernel
theorem d_La_law_633 : decode code 633 = .ok (.invokevirtual 141, 3) := by decide +kernel
theorem d_La_law_636 : decode code 636 = .ok (.if_icmp .eq 923, 3) := by decide +kernel
theorem d_La_law_639 : decode code 639 = .ok (.iconst 0, 1) := by decide +kernel
theorem d_La_law_640 : decode code 640 = .ok (.ireturn, 1) := by decide +kernel
theorem d_La_law_641 : decode code 641 = .ok (.aload_n 1, 1) := by decide +kernel
theorem d_La_law_642 : decode code 642 = .ok (.aload_n 0, 1) := by decide +kernel
theorem d_La_law_643 : decode code 643 = .ok (.iload 4, 2) := by decide +kernel
theorem d_La_law_645 : decode code 645 = .ok (.iconst 1, 1) := by decide +kernel
theorem d_La_law_646 : decode code 646 = .ok (.iadd, 1) := by decide +kernel
theorem d_La_law_647 : decode code 647 = .ok (.iaload, 1) := by decide +kernel
theorem d_La_law_648 : decode code 648 = .ok (.aload_n 0, 1) := by decide +kernel
theorem d_La_law_649 : decode code 649 = .ok (.iload 4, 2) := by decide +kernel
theorem d_La_law_651 : decode code 651 = .ok (.iconst 2, 1) := by decide +kernel
theorem d_La_law_652 : decode code 652 = .ok (.iadd, 1) := by decide +kernel
theorem d_La_law_653 : decode code 653 = .ok (.iaload, 1) := by decide +kernel
theorem d_La_law_654 : decode code 654 = .ok (.aload_n 0, 1) := by decide +kernel
theorem d_La_law_655 : decode code 655 = .ok (.iload 4, 2) := by decide +kernel
theorem d_La_law_657 : decode code 657 = .ok (.iconst 3, 1) := by decide +kernel
theorem d_La_law_658 : decode code 658 = .ok (.iadd, 1) := by decide +kernel
theorem d_La_law_659 : decode code 659 = .ok (.iaload, 1) := by decide +kernel
theorem d_La_law_660 : decode code 660 = .ok (.aload_n 0, 1) := by decide +kernel
theorem d_La_law_661 : decode code 661 = .ok (.iload 4, 2) := by decide +kernel
theorem d_La_law_663 : decode code 663 = .ok (.iconst 4, 1) := by decide +kernel
theorem d_La_law_664 : decode code 664 = .ok (.iadd, 1) := by decide +kernel
theorem d_La_law_665 : decode code 665 = .ok (.iaload, 1) := by decide +kernel
theorem d_La_law_666 : decode code 666 = .ok (.aload_n 3, 1) := by decide +kernel
theorem d_La_law_667 : decode code 667 = .ok (.invokestatic 142, 3) := by decide +kernel
theorem d_La_law_670 : decode code 670 = .ok (.istore 5, 2) := by decide +kernel
theorem d_La_law_672 : decode code 672 = .ok (.aload_n 2, 1) := by decide +kernel
theorem d_La_law_673 : decode code 673 = .ok (.aload_n 0, 1) := by decide +kernel
theorem d_La_law_674 : decode code 674 = .ok (.iload 4, 2) := by decide +kernel
theorem d_La_law_676 : decode code 676 = .ok (.iconst 1, 1) := by decide +kernel
theorem d_La_law_677 : decode code 677 = .ok (.iadd, 1) := by decide +kernel
theorem d_La_law_678 : decode code 678 = .ok (.iaload, 1) := by decide +kernel
theorem d_La_law_679 : decode code 679 = .ok (.aload_n 0, 1) := by decide +kernel
theorem d_La_law_680 : decode code 680 = .ok (.iload 4, 2) := by decide +kernel
theorem d_La_law_682 : decode code 682 = .ok (.iconst 2, 1) := by decide +kernel
theorem d_La_law_683 : decode code 683 = .ok (.iadd, 1) := by decide +kernel
theorem d_La_law_684 : decode code 684 = .ok (.iaload, 1) := by decide +kernel
theorem d_La_law_685 : decode code 685 = .ok (.aload_n 0, 1) := by decide +kernel
theorem d_La_law_686 : decode code 686 = .ok (.iload 4, 2) := by decide +kernel
theorem d_La_law_688 : decode code 688 = .ok (.iconst 3, 1) := by decide +kernel
theorem d_La_law_689 : decode code 689 = .ok (.iadd, 1) := by decide +kernel
theorem d_La_law_690 : decode code 690 = .ok (.iaload, 1) := by decide +kernel
theorem d_La_law_691 : decode code 691 = .ok (.aload_n 0, 1) := by decide +kernel
theorem d_La_law_692 : decode code 692 = .ok (.iload 4, 2) := by decide +kernel
theorem d_La_law_694 : decode code 694 = .ok (.iconst 4, 1) := by decide +kernel
theorem d_La_law_695 : decode code 695 = .ok (.iadd, 1) := by decide +kernel
theorem d_La_law_696 : decode code 696 = .ok (.iaload, 1) := by decide +kernel
theorem d_La_law_697 : decode code 697 = .ok (.invokevirtual 145, 3) := by decide +kernel
theorem d_La_law_700 : decode code 700 = .ok (.istore 6, 2) := by decide +kernel
theorem d_La_law_702 : decode code 702 = .ok (.aload_n 2, 1) := by decide +kernel
theorem d_La_law_703 : decode code 703 = .ok (.invokevirtual 107, 3) := by decide +kernel
theorem d_La_law_706 : decode code 706 = .ok (.iload 5, 2) := by decide +kernel
theorem d_La_law_708 : decode code 708 = .ok (.if_icmp .eq 5, 3) := by decide +kernel
theorem d_La_law_711 : decode code 711 = .ok (.iconst 0, 1) := by decide +kernel
theorem d_La_law_712 : decode code 712 = .ok (.ireturn, 1) := by decide +kernel
theorem d_La_law_713 : decode code 713 = .ok (.iload 5, 2) := by decide +kernel
theorem d_La_law_715 : decode code 715 = .ok (.ifCond .ne 15, 3) := by decide +kernel
theorem d_La_law_718 : decode code 718 = .ok (.aload_n 3, 1) := by decide +kernel
theorem d_La_law_719 : decode code 719 = .ok (.iconst 0, 1) := by decide +kernel
theorem d_La_law_720 : decode code 720 = .ok (.laload, 1) := by decide +kernel
theorem d_La_law_721 : decode code 721 = .ok (.iload 6, 2) := by decide +kernel
theorem d_La_law_723 : decode code 723 = .ok (.i2l, 1) := by decide +kernel
theorem d_La_law_724 : decode code 724 = .ok (.lcmp, 1) := by decide +kernel
theorem d_La_law_725 : decode code 725 = .ok (.ifCond .eq 5, 3) := by decide +kernel
theorem d_La_law_728 : decode code 728 = .ok (.iconst 0, 1) := by decide +kernel
theorem d_La_law_729 : decode code 729 = .ok (.ireturn, 1) := by decide +kernel
theorem d_La_law_730 : decode code 730 = .ok (.goto 829, 3) := by decide +kernel
theorem d_La_law_733 : decode code 733 = .ok (.aload_n 1, 1) := by decide +kernel
theorem d_La_law_734 : decode code 734 = .ok (.aload_n 0, 1) := by decide +kernel
theorem d_La_law_735 : decode code 735 = .ok (.iload 4, 2) := by decide +kernel
theorem d_La_law_737 : decode code 737 = .ok (.iconst 1, 1) := by decide +kernel
theorem d_La_law_738 : decode code 738 = .ok (.iadd, 1) := by decide +kernel
theorem d_La_law_739 : decode code 739 = .ok (.iaload, 1) := by decide +kernel
theorem d_La_law_740 : decode code 740 = .ok (.aload_n 0, 1) := by decide +kernel
theorem d_La_law_741 : decode code 741 = .ok (.iload 4, 2) := by decide +kernel
theorem d_La_law_743 : decode code 743 = .ok (.iconst 2, 1) := by decide +kernel
theorem d_La_law_744 : decode code 744 = .ok (.iadd, 1) := by decide +kernel
theorem d_La_law_745 : decode code 745 = .ok (.iaload, 1) := by decide +kernel
theorem d_La_law_746 : decode code 746 = .ok (.aload_n 3, 1) := by decide +kernel
theorem d_La_law_747 : decode code 747 = .ok (.invokestatic 146, 3) := by decide +kernel
theorem d_La_law_750 : decode code 750 = .ok (.istore 5, 2) := by decide +kernel
theorem d_La_law_752 : decode code 752 = .ok (.aload_n 2, 1) := by decide +kernel
theorem d_La_law_753 : decode code 753 = .ok (.aload_n 0, 1) := by decide +kernel
theorem d_La_law_754 : decode code 754 = .ok (.iload 4, 2) := by decide +kernel
theorem d_La_law_756 : decode code 756 = .ok (.iconst 1, 1) := by decide +kernel
theorem d_La_law_757 : decode code 757 = .ok (.iadd, 1) := by decide +kernel
theorem d_La_law_758 : decode code 758 = .ok (.iaload, 1) := by decide +kernel
theorem d_La_law_759 : decode code 759 = .ok (.aload_n 0, 1) := by decide +kernel
theorem d_La_law_760 : decode code 760 = .ok (.iload 4, 2) := by decide +kernel
theorem d_La_law_762 : decode code 762 = .ok (.iconst 2, 1) := by decide +kernel
theorem d_La_law_763 : decode code 763 = .ok (.iadd, 1) := by decide +kernel
theorem d_La_law_764 : decode code 764 = .ok (.iaload, 1) := by decide +kernel
theorem d_La_law_765 : decode code 765 = .ok (.invokevirtual 149, 3) := by decide +kernel
theorem d_La_law_768 : decode code 768 = .ok (.istore 6, 2) := by decide +kernel
theorem d_La_law_770 : decode code 770 = .ok (.aload_n 2, 1) := by decide +kernel
theorem d_La_law_771 : decode code 771 = .ok (.invokevirtual 107, 3) := by decide +kernel
theorem d_La_law_774 : decode code 774 = .ok (.iload 5, 2) := by decide +kernel
theorem d_La_law_776 : decode code 776 = .ok (.if_icmp .eq 5, 3) := by decide +kernel
theorem d_La_law_779 : decode code 779 = .ok (.iconst 0, 1) := by decide +kernel
theorem d_La_law_780 : decode code 780 = .ok (.ireturn, 1) := by decide +kernel
theorem d_La_law_781 : decode code 781 = .ok (.iload 5, 2) := by decide +kernel
theorem d_La_law_783 : decode code 783 = .ok (.ifCond .ne 15, 3) := by decide +kernel
theorem d_La_law_786 : decode code 786 = .ok (.aload_n 3, 1) := by decide +kernel
theorem d_La_law_787 : decode code 787 = .ok (.iconst 0, 1) := by decide +kernel
theorem d_La_law_788 : decode code 788 = .ok (.laload, 1) := by decide +kernel
theorem d_La_law_789 : decode code 789 = .ok (.iload 6, 2) := by decide +kernel
theorem d_La_law_791 : decode code 791 = .ok (.i2l, 1) := by decide +kernel
theorem d_La_law_792 : decode code 792 = .ok (.lcmp, 1) := by decide +kernel
theorem d_La_law_793 : decode code 793 = .ok (.ifCond .eq 5, 3) := by decide +kernel
theorem d_La_law_796 : decode code 796 = .ok (.iconst 0, 1) := by decide +kernel
theorem d_La_law_797 : decode code 797 = .ok (.ireturn, 1) := by decide +kernel
theorem d_La_law_798 : decode code 798 = .ok (.goto 761, 3) := by decide +kernel
theorem d_La_law_801 : decode code 801 = .ok (.aload_n 1, 1) := by decide +kernel
theorem d_La_law_802 : decode code 802 = .ok (.aload_n 0, 1) := by decide +kernel
theorem d_La_law_803 : decode code 803 = .ok (.iload 4, 2) := by decide +kernel
theorem d_La_law_805 : decode code 805 = .ok (.iconst 1, 1) := by decide +kernel
theorem d_La_law_806 : decode code 806 = .ok (.iadd, 1) := by decide +kernel
theorem d_La_law_807 : decode code 807 = .ok (.iaload, 1) := by decide +kernel
theorem d_La_law_808 : decode code 808 = .ok (.aload_n 0, 1) := by decide +kernel
theorem d_La_law_809 : decode code 809 = .ok (.iload 4, 2) := by decide +kernel
theorem d_La_law_811 : decode code 811 = .ok (.iconst 2, 1) := by decide +kernel
theorem d_La_law_812 : decode code 812 = .ok (.iadd, 1) := by decide +kernel
theorem d_La_law_813 : decode code 813 = .ok (.iaload, 1) := by decide +kernel
theorem d_La_law_814 : decode code 814 = .ok (.ifCond .eq 7, 3) := by decide +kernel
theorem d_La_law_817 : decode code 817 = .ok (.iconst 1, 1) := by decide +kernel
theorem d_La_law_818 : decode code 818 = .ok (.goto 4, 3) := by decide +kernel
theorem d_La_law_821 : decode code 821 = .ok (.iconst 0, 1) := by decide +kernel
theorem d_La_law_822 : decode code 822 = .ok (.invokestatic 150, 3) := by decide +kernel
theorem d_La_law_825 : decode code 825 = .ok (.istore 5, 2) := by decide +kernel
theorem d_La_law_827 : decode code 827 = .ok (.aload_n 2, 1) := by decide +kernel
theorem d_La_law_828 : decode code 828 = .ok (.aload_n 0, 1) := by decide +kernel
theorem d_La_law_829 : decode code 829 = .ok (.iload 4, 2) := by decide +kernel
theorem d_La_law_831 : decode code 831 = .ok (.iconst 1, 1) := by decide +kernel
theorem d_La_law_832 : decode code 832 = .ok (.iadd, 1) := by decide +kernel
theorem d_La_law_833 : decode code 833 = .ok (.iaload, 1) := by decide +kernel
theorem d_La_law_834 : decode code 834 = .ok (.aload_n 0, 1) := by decide +kernel
theorem d_La_law_835 : decode code 835 = .ok (.iload 4, 2) := by decide +kernel
theorem d_La_law_837 : decode code 837 = .ok (.iconst 2, 1) := by decide +kernel
theorem d_La_law_838 : decode code 838 = .ok (.iadd, 1) := by decide +kernel
theorem d_La_law_839 : decode code 839 = .ok (.iaload, 1) := by decide +kernel
theorem d_La_law_840 : decode code 840 = .ok (.ifCond .eq 7, 3) := by decide +kernel
theorem d_La_law_843 : decode code 843 = .ok (.iconst 1, 1) := by decide +kernel
theorem d_La_law_844 : decode code 844 = .ok (.goto 4, 3) := by decide +kernel
theorem d_La_law_847 : decode code 847 = .ok (.iconst 0, 1) := by decide +kernel
theorem d_La_law_848 : decode code 848 = .ok (.invokevirtual 153, 3) := by decide +kernel
theorem d_La_law_851 : decode code 851 = .ok (.aload_n 2, 1) := by decide +kernel
theorem d_La_law_852 : decode code 852 = .ok (.invokevirtual 107, 3) := by decide +kernel
theorem d_La_law_855 : decode code 855 = .ok (.iload 5, 2) := by decide +kernel
theorem d_La_law_857 : decode code 857 = .ok (.if_icmp .eq 5, 3) := by decide +kernel
theorem d_La_law_860 : decode code 860 = .ok (.iconst 0, 1) := by decide +kernel
theorem d_La_law_861 : decode code 861 = .ok (.ireturn, 1) := by decide +kernel
theorem d_La_law_862 : decode code 862 = .ok (.goto 697, 3) := by decide +kernel
theorem d_La_law_865 : decode code 865 = .ok (.aload_n 1, 1) := by decide +kernel
theorem d_La_law_866 : decode code 866 = .ok (.aload_n 0, 1) := by decide +kernel
theorem d_La_law_867 : decode code 867 = .ok (.iload 4, 2) := by decide +kernel
theorem d_La_law_869 : decode code 869 = .ok (.iconst 1, 1) := by decide +kernel
theorem d_La_law_870 : decode code 870 = .ok (.iadd, 1) := by decide +kernel
theorem d_La_law_871 : decode code 871 = .ok (.iaload, 1) := by decide +kernel
theorem d_La_law_872 : decode code 872 = .ok (.aload_n 3, 1) := by decide +kernel
theorem d_La_law_873 : decode code 873 = .ok (.invokestatic 154, 3) := by decide +kernel
theorem d_La_law_876 : decode code 876 = .ok (.istore 5, 2) := by decide +kernel
theorem d_La_law_878 : decode code 878 = .ok (.aload_n 2, 1) := by decide +kernel
theorem d_La_law_879 : decode code 879 = .ok (.aload_n 0, 1) := by decide +kernel
theorem d_La_law_880 : decode code 880 = .ok (.iload 4, 2) := by decide +kernel
theorem d_La_law_882 : decode code 882 = .ok (.iconst 1, 1) := by decide +kernel
theorem d_La_law_883 : decode code 883 = .ok (.iadd, 1) := by decide +kernel
theorem d_La_law_884 : decode code 884 = .ok (.iaload, 1) := by decide +kernel
theorem d_La_law_885 : decode code 885 = .ok (.invokevirtual 157, 3) := by decide +kernel
theorem d_La_law_888 : decode code 888 = .ok (.istore 6, 2) := by decide +kernel
theorem d_La_law_890 : decode code 890 = .ok (.aload_n 2, 1) := by decide +kernel
theorem d_La_law_891 : decode code 891 = .ok (.invokevirtual 107, 3) := by decide +kernel
theorem d_La_law_894 : decode code 894 = .ok (.iload 5, 2) := by decide +kernel
theorem d_La_law_896 : decode code 896 = .ok (.if_icmp .eq 5, 3) := by decide +kernel
theorem d_La_law_899 : decode code 899 = .ok (.iconst 0, 1) := by decide +kernel
theorem d_La_law_900 : decode code 900 = .ok (.ireturn, 1) := by decide +kernel
theorem d_La_law_901 : decode code 901 = .ok (.iload 5, 2) := by decide +kernel
theorem d_La_law_903 : decode code 903 = .ok (.ifCond .ne 15, 3) := by decide +kernel
theorem d_La_law_906 : decode code 906 = .ok (.aload_n 3, 1) := by decide +kernel
theorem d_La_law_907 : decode code 907 = .ok (.iconst 0, 1) := by decide +kernel
theorem d_La_law_908 : decode code 908 = .ok (.laload, 1) := by decide +kernel
theorem d_La_law_909 : decode code 909 = .ok (.iload 6, 2) := by decide +kernel
theorem d_La_law_911 : decode code 911 = .ok (.i2l, 1) := by decide +kernel
theorem d_La_law_912 : decode code 912 = .ok (.lcmp, 1) := by decide +kernel
theorem d_La_law_913 : decode code 913 = .ok (.ifCond .eq 5, 3) := by decide +kernel
theorem d_La_law_916 : decode code 916 = .ok (.iconst 0, 1) := by decide +kernel
theorem d_La_law_917 : decode code 917 = .ok (.ireturn, 1) := by decide +kernel
theorem d_La_law_918 : decode code 918 = .ok (.goto 641, 3) := by decide +kernel
theorem d_La_law_921 : decode code 921 = .ok (.aload_n 1, 1) := by decide +kernel
theorem d_La_law_922 : decode code 922 = .ok (.aload_n 0, 1) := by decide +kernel
theorem d_La_law_923 : decode code 923 = .ok (.iload 4, 2) := by decide +kernel
theorem d_La_law_925 : decode code 925 = .ok (.iconst 1, 1) := by decide +kernel
theorem d_La_law_926 : decode code 926 = .ok (.iadd, 1) := by decide +kernel
theorem d_La_law_927 : decode code 927 = .ok (.iaload, 1) := by decide +kernel
theorem d_La_law_928 : decode code 928 = .ok (.aload_n 0, 1) := by decide +kernel
theorem d_La_law_929 : decode code 929 = .ok (.iload 4, 2) := by decide +kernel
theorem d_La_law_931 : decode code 931 = .ok (.iconst 2, 1) := by decide +kernel
theorem d_La_law_932 : decode code 932 = .ok (.iadd, 1) := by decide +kernel
theorem d_La_law_933 : decode code 933 = .ok (.iaload, 1) := by decide +kernel
theorem d_La_law_934 : decode code 934 = .ok (.aload_n 3, 1) := by decide +kernel
theorem d_La_law_935 : decode code 935 = .ok (.invokestatic 158, 3) := by decide +kernel
theorem d_La_law_938 : decode code 938 = .ok (.istore 5, 2) := by decide +kernel
theorem d_La_law_940 : decode code 940 = .ok (.aload_n 2, 1) := by decide +kernel
theorem d_La_law_941 : decode code 941 = .ok (.aload_n 0, 1) := by decide +kernel
theorem d_La_law_942 : decode code 942 = .ok (.iload 4, 2) := by decide +kernel
theorem d_La_law_944 : decode code 944 = .ok (.iconst 1, 1) := by decide +kernel
theorem d_La_law_945 : decode code 945 = .ok (.iadd, 1) := by decide +kernel
theorem d_La_law_946 : decode code 946 = .ok (.iaload, 1) := by decide +kernel
theorem d_La_law_947 : decode code 947 = .ok (.aload_n 0, 1) := by decide +kernel
theorem d_La_law_948 : decode code 948 = .ok (.iload 4, 2) := by decide +kernel
theorem d_La_law_950 : decode code 950 = .ok (.iconst 2, 1) := by decide +kernel
theorem d_La_law_951 : decode code 951 = .ok (.iadd, 1) := by decide +kernel
theorem d_La_law_952 : decode code 952 = .ok (.iaload, 1) := by decide +kernel
theorem d_La_law_953 : decode code 953 = .ok (.invokevirtual 160, 3) := by decide +kernel
theorem d_La_law_956 : decode code 956 = .ok (.istore 6, 2) := by decide +kernel
theorem d_La_law_958 : decode code 958 = .ok (.aload_n 2, 1) := by decide +kernel
theorem d_La_law_959 : decode code 959 = .ok (.invokevirtual 107, 3) := by decide +kernel
theorem d_La_law_962 : decode code 962 = .ok (.iload 5, 2) := by decide +kernel
theorem d_La_law_964 : decode code 964 = .ok (.if_icmp .eq 5, 3) := by decide +kernel
theorem d_La_law_967 : decode code 967 = .ok (.iconst 0, 1) := by decide +kernel
theorem d_La_law_968 : decode code 968 = .ok (.ireturn, 1) := by decide +kernel
theorem d_La_law_969 : decode code 969 = .ok (.iload 5, 2) := by decide +kernel
theorem d_La_law_971 : decode code 971 = .ok (.ifCond .ne 15, 3) := by decide +kernel
theorem d_La_law_974 : decode code 974 = .ok (.aload_n 3, 1) := by decide +kernel
theorem d_La_law_975 : decode code 975 = .ok (.iconst 0, 1) := by decide +kernel
theorem d_La_law_976 : decode code 976 = .ok (.laload, 1) := by decide +kernel
theorem d_La_law_977 : decode code 977 = .ok (.iload 6, 2) := by decide +kernel
theorem d_La_law_979 : decode code 979 = .ok (.i2l, 1) := by decide +kernel
theorem d_La_law_980 : decode code 980 = .ok (.lcmp, 1) := by decide +kernel
theorem d_La_law_981 : decode code 981 = .ok (.ifCond .eq 5, 3) := by decide +kernel
theorem d_La_law_984 : decode code 984 = .ok (.iconst 0, 1) := by decide +kernel
theorem d_La_law_985 : decode code 985 = .ok (.ireturn, 1) := by decide +kernel
theorem d_La_law_986 : decode code 986 = .ok (.goto 573, 3) := by decide +kernel
theorem d_La_law_989 : decode code 989 = .ok (.aload_n 1, 1) := by decide +kernel
theorem d_La_law_990 : decode code 990 = .ok (.aload_n 0, 1) := by decide +kernel
theorem d_La_law_991 : decode code 991 = .ok (.iload 4, 2) := by decide +kernel
theorem d_La_law_993 : decode code 993 = .ok (.iconst 1, 1) := by decide +kernel
theorem d_La_law_994 : decode code 994 = .ok (.iadd, 1) := by decide +kernel
theorem d_La_law_995 : decode code 995 = .ok (.iaload, 1) := by decide +kernel
theorem d_La_law_996 : decode code 996 = .ok (.aload_n 0, 1) := by decide +kernel
theorem d_La_law_997 : decode code 997 = .ok (.iload 4, 2) := by decide +kernel
theorem d_La_law_999 : decode code 999 = .ok (.iconst 2, 1) := by decide +kernel
theorem d_La_law_1000 : decode code 1000 = .ok (.iadd, 1) := by decide +kernel
theorem d_La_law_1001 : decode code 1001 = .ok (.iaload, 1) := by decide +kernel
theorem d_La_law_1002 : decode code 1002 = .ok (.invokestatic 161, 3) := by decide +kernel
theorem d_La_law_1005 : decode code 1005 = .ok (.istore 5, 2) := by decide +kernel
theorem d_La_law_1007 : decode code 1007 = .ok (.aload_n 2, 1) := by decide +kernel
theorem d_La_law_1008 : decode code 1008 = .ok (.aload_n 0, 1) := by decide +kernel
theorem d_La_law_1009 : decode code 1009 = .ok (.iload 4, 2) := by decide +kernel
theorem d_La_law_1011 : decode code 1011 = .ok (.iconst 1, 1) := by decide +kernel
theorem d_La_law_1012 : decode code 1012 = .ok (.iadd, 1) := by decide +kernel
theorem d_La_law_1013 : decode code 1013 = .ok (.iaload, 1) := by decide +kernel
theorem d_La_law_1014 : decode code 1014 = .ok (.aload_n 0, 1) := by decide +kernel
theorem d_La_law_1015 : decode code 1015 = .ok (.iload 4, 2) := by decide +kernel
theorem d_La_law_1017 : decode code 1017 = .ok (.iconst 2, 1) := by decide +kernel
theorem d_La_law_1018 : decode code 1018 = .ok (.iadd, 1) := by decide +kernel
theorem d_La_law_1019 : decode code 1019 = .ok (.iaload, 1) := by decide +kernel
theorem d_La_law_1020 : decode code 1020 = .ok (.invokevirtual 163, 3) := by decide +kernel
theorem d_La_law_1023 : decode code 1023 = .ok (.aload_n 2, 1) := by decide +kernel
theorem d_La_law_1024 : decode code 1024 = .ok (.invokevirtual 107, 3) := by decide +kernel
theorem d_La_law_1027 : decode code 1027 = .ok (.iload 5, 2) := by decide +kernel
theorem d_La_law_1029 : decode code 1029 = .ok (.if_icmp .eq 5, 3) := by decide +kernel
theorem d_La_law_1032 : decode code 1032 = .ok (.iconst 0, 1) := by decide +kernel
theorem d_La_law_1033 : decode code 1033 = .ok (.ireturn, 1) := by decide +kernel
theorem d_La_law_1034 : decode code 1034 = .ok (.goto 525, 3) := by decide +kernel
theorem d_La_law_1037 : decode code 1037 = .ok (.aload_n 1, 1) := by decide +kernel
theorem d_La_law_1038 : decode code 1038 = .ok (.aload_n 0, 1) := by decide +kernel
theorem d_La_law_1039 : decode code 1039 = .ok (.iload 4, 2) := by decide +kernel
theorem d_La_law_1041 : decode code 1041 = .ok (.iconst 1, 1) := by decide +kernel
theorem d_La_law_1042 : decode code 1042 = .ok (.iadd, 1) := by decide +kernel
theorem d_La_law_1043 : decode code 1043 = .ok (.iaload, 1) := by decide +kernel
theorem d_La_law_1044 : decode code 1044 = .ok (.aload_n 0, 1) := by decide +kernel
theorem d_La_law_1045 : decode code 1045 = .ok (.iload 4, 2) := by decide +kernel
theorem d_La_law_1047 : decode code 1047 = .ok (.iconst 2, 1) := by decide +kernel
theorem d_La_law_1048 : decode code 1048 = .ok (.iadd, 1) := by decide +kernel
theorem d_La_law_1049 : decode code 1049 = .ok (.iaload, 1) := by decide +kernel
theorem d_La_law_1050 : decode code 1050 = .ok (.aload_n 3, 1) := by decide +kernel
theorem d_La_law_1051 : decode code 1051 = .ok (.invokestatic 164, 3) := by decide +kernel
theorem d_La_law_1054 : decode code 1054 = .ok (.istore 5, 2) := by decide +kernel
theorem d_La_law_1056 : decode code 1056 = .ok (.aload_n 2, 1) := by decide +kernel
theorem d_La_law_1057 : decode code 1057 = .ok (.aload_n 0, 1) := by decide +kernel
theorem d_La_law_1058 : decode code 1058 = .ok (.iload 4, 2) := by decide +kernel
theorem d_La_law_1060 : decode code 1060 = .ok (.iconst 1, 1) := by decide +kernel
theorem d_La_law_1061 : decode code 1061 = .ok (.iadd, 1) := by decide +kernel
theorem d_La_law_1062 : decode code 1062 = .ok (.iaload, 1) := by decide +kernel
theorem d_La_law_1063 : decode code 1063 = .ok (.aload_n 0, 1) := by decide +kernel
theorem d_La_law_1064 : decode code 1064 = .ok (.iload 4, 2) := by decide +kernel
theorem d_La_law_1066 : decode code 1066 = .ok (.iconst 2, 1) := by decide +kernel
theorem d_La_law_1067 : decode code 1067 = .ok (.iadd, 1) := by decide +kernel
theorem d_La_law_1068 : decode code 1068 = .ok (.iaload, 1) := by decide +kernel
theorem d_La_law_1069 : decode code 1069 = .ok (.invokevirtual 166, 3) := by decide +kernel
theorem d_La_law_1072 : decode code 1072 = .ok (.istore 6, 2) := by decide +kernel
theorem d_La_law_1074 : decode code 1074 = .ok (.aload_n 2, 1) := by decide +kernel
theorem d_La_law_1075 : decode code 1075 = .ok (.invokevirtual 107, 3) := by decide +kernel
theorem d_La_law_1078 : decode code 1078 = .ok (.iload 5, 2) := by decide +kernel
theorem d_La_law_1080 : decode code 1080 = .ok (.if_icmp .eq 5, 3) := by decide +kernel
theorem d_La_law_1083 : decode code 1083 = .ok (.iconst 0, 1) := by decide +kernel
theorem d_La_law_1084 : decode code 1084 = .ok (.ireturn, 1) := by decide +kernel
theorem d_La_law_1085 : decode code 1085 = .ok (.iload 5, 2) := by decide +kernel
theorem d_La_law_1087 : decode code 1087 = .ok (.ifCond .ne 15, 3) := by decide +kernel
theorem d_La_law_1090 : decode code 1090 = .ok (.aload_n 3, 1) := by decide +kernel
theorem d_La_law_1091 : decode code 1091 = .ok (.iconst 0, 1) := by decide +kernel
theorem d_La_law_1092 : decode code 1092 = .ok (.laload, 1) := by decide +kernel
theorem d_La_law_1093 : decode code 1093 = .ok (.iload 6, 2) := by decide +kernel
theorem d_La_law_1095 : decode code 1095 = .ok (.i2l, 1) := by decide +kernel
theorem d_La_law_1096 : decode code 1096 = .ok (.lcmp, 1) := by decide +kernel
theorem d_La_law_1097 : decode code 1097 = .ok (.ifCond .eq 5, 3) := by decide +kernel
theorem d_La_law_1100 : decode code 1100 = .ok (.iconst 0, 1) := by decide +kernel
theorem d_La_law_1101 : decode code 1101 = .ok (.ireturn, 1) := by decide +kernel
theorem d_La_law_1102 : decode code 1102 = .ok (.goto 457, 3) := by decide +kernel
theorem d_La_law_1105 : decode code 1105 = .ok (.aload_n 1, 1) := by decide +kernel
theorem d_La_law_1106 : decode code 1106 = .ok (.aload_n 0, 1) := by decide +kernel
theorem d_La_law_1107 : decode code 1107 = .ok (.iload 4, 2) := by decide +kernel
theorem d_La_law_1109 : decode code 1109 = .ok (.iconst 1, 1) := by decide +kernel
theorem d_La_law_1110 : decode code 1110 = .ok (.iadd, 1) := by decide +kernel
theorem d_La_law_1111 : decode code 1111 = .ok (.iaload, 1) := by decide +kernel
theorem d_La_law_1112 : decode code 1112 = .ok (.aload_n 0, 1) := by decide +kernel
theorem d_La_law_1113 : decode code 1113 = .ok (.iload 4, 2) := by decide +kernel
theorem d_La_law_1115 : decode code 1115 = .ok (.iconst 2, 1) := by decide +kernel
theorem d_La_law_1116 : decode code 1116 = .ok (.iadd, 1) := by decide +kernel
theorem d_La_law_1117 : decode code 1117 = .ok (.iaload, 1) := by decide +kernel
theorem d_La_law_1118 : decode code 1118 = .ok (.aload_n 3, 1) := by decide +kernel
theorem d_La_law_1119 : decode code 1119 = .ok (.invokestatic 167, 3) := by decide +kernel
theorem d_La_law_1122 : decode code 1122 = .ok (.istore 5, 2) := by decide +kernel
theorem d_La_law_1124 : decode code 1124 = .ok (.aload_n 2, 1) := by decide +kernel
theorem d_La_law_1125 : decode code 1125 = .ok (.aload_n 0, 1) := by decide +kernel
theorem d_La_law_1126 : decode code 1126 = .ok (.iload 4, 2) := by decide +kernel
theorem d_La_law_1128 : decode code 1128 = .ok (.iconst 1, 1) := by decide +kernel
theorem d_La_law_1129 : decode code 1129 = .ok (.iadd, 1) := by decide +kernel
theorem d_La_law_1130 : decode code 1130 = .ok (.iaload, 1) := by decide +kernel
theorem d_La_law_1131 : decode code 1131 = .ok (.aload_n 0, 1) := by decide +kernel
theorem d_La_law_1132 : decode code 1132 = .ok (.iload 4, 2) := by decide +kernel
theorem d_La_law_1134 : decode code 1134 = .ok (.iconst 2, 1) := by decide +kernel
theorem d_La_law_1135 : decode code 1135 = .ok (.iadd, 1) := by decide +kernel
theorem d_La_law_1136 : decode code 1136 = .ok (.iaload, 1) := by decide +kernel
theorem d_La_law_1137 : decode code 1137 = .ok (.invokevirtual 169, 3) := by decide +kernel
theorem d_La_law_1140 : decode code 1140 = .ok (.istore 6, 2) := by decide +kernel
theorem d_La_law_1142 : decode code 1142 = .ok (.aload_n 2, 1) := by decide +kernel
theorem d_La_law_1143 : decode code 1143 = .ok (.invokevirtual 107, 3) := by decide +kernel
theorem d_La_law_1146 : decode code 1146 = .ok (.iload 5, 2) := by decide +kernel
theorem d_La_law_1148 : decode code 1148 = .ok (.if_icmp .eq 5, 3) := by decide +kernel
theorem d_La_law_1151 : decode code 1151 = .ok (.iconst 0, 1) := by decide +kernel
theorem d_La_law_1152 : decode code 1152 = .ok (.ireturn, 1) := by decide +kernel
theorem d_La_law_1153 : decode code 1153 = .ok (.iload 5, 2) := by decide +kernel
theorem d_La_law_1155 : decode code 1155 = .ok (.ifCond .ne 15, 3) := by decide +kernel
theorem d_La_law_1158 : decode code 1158 = .ok (.aload_n 3, 1) := by decide +kernel
theorem d_La_law_1159 : decode code 1159 = .ok (.iconst 0, 1) := by decide +kernel
theorem d_La_law_1160 : decode code 1160 = .ok (.laload, 1) := by decide +kernel
theorem d_La_law_1161 : decode code 1161 = .ok (.iload 6, 2) := by decide +kernel
theorem d_La_law_1163 : decode code 1163 = .ok (.i2l, 1) := by decide +kernel
theorem d_La_law_1164 : decode code 1164 = .ok (.lcmp, 1) := by decide +kernel
theorem d_La_law_1165 : decode code 1165 = .ok (.ifCond .eq 5, 3) := by decide +kernel
theorem d_La_law_1168 : decode code 1168 = .ok (.iconst 0, 1) := by decide +kernel
theorem d_La_law_1169 : decode code 1169 = .ok (.ireturn, 1) := by decide +kernel
theorem d_La_law_1170 : decode code 1170 = .ok (.goto 389, 3) := by decide +kernel
theorem d_La_law_1173 : decode code 1173 = .ok (.aload_n 1, 1) := by decide +kernel
theorem d_La_law_1174 : decode code 1174 = .ok (.aload_n 0, 1) := by decide +kernel
theorem d_La_law_1175 : decode code 1175 = .ok (.iload 4, 2) := by decide +kernel
theorem d_La_law_1177 : decode code 1177 = .ok (.iconst 1, 1) := by decide +kernel
theorem d_La_law_1178 : decode code 1178 = .ok (.iadd, 1) := by decide +kernel
theorem d_La_law_1179 : decode code 1179 = .ok (.iaload, 1) := by decide +kernel
theorem d_La_law_1180 : decode code 1180 = .ok (.aload_n 0, 1) := by decide +kernel
theorem d_La_law_1181 : decode code 1181 = .ok (.iload 4, 2) := by decide +kernel
theorem d_La_law_1183 : decode code 1183 = .ok (.iconst 2, 1) := by decide +kernel
theorem d_La_law_1184 : decode code 1184 = .ok (.iadd, 1) := by decide +kernel
theorem d_La_law_1185 : decode code 1185 = .ok (.iaload, 1) := by decide +kernel
theorem d_La_law_1186 : decode code 1186 = .ok (.aload_n 0, 1) := by decide +kernel
theorem d_La_law_1187 : decode code 1187 = .ok (.iload 4, 2) := by decide +kernel
theorem d_La_law_1189 : decode code 1189 = .ok (.iconst 3, 1) := by decide +kernel
theorem d_La_law_1190 : decode code 1190 = .ok (.iadd, 1) := by decide +kernel
theorem d_La_law_1191 : decode code 1191 = .ok (.iaload, 1) := by decide +kernel
theorem d_La_law_1192 : decode code 1192 = .ok (.aload_n 3, 1) := by decide +kernel
theorem d_La_law_1193 : decode code 1193 = .ok (.invokestatic 170, 3) := by decide +kernel
theorem d_La_law_1196 : decode code 1196 = .ok (.istore 5, 2) := by decide +kernel
theorem d_La_law_1198 : decode code 1198 = .ok (.aload_n 2, 1) := by decide +kernel
theorem d_La_law_1199 : decode code 1199 = .ok (.aload_n 0, 1) := by decide +kernel
theorem d_La_law_1200 : decode code 1200 = .ok (.iload 4, 2) := by decide +kernel
theorem d_La_law_1202 : decode code 1202 = .ok (.iconst 1, 1) := by decide +kernel
theorem d_La_law_1203 : decode code 1203 = .ok (.iadd, 1) := by decide +kernel
theorem d_La_law_1204 : decode code 1204 = .ok (.iaload, 1) := by decide +kernel
theorem d_La_law_1205 : decode code 1205 = .ok (.aload_n 0, 1) := by decide +kernel
theorem d_La_law_1206 : decode code 1206 = .ok (.iload 4, 2) := by decide +kernel
theorem d_La_law_1208 : decode code 1208 = .ok (.iconst 2, 1) := by decide +kernel
theorem d_La_law_1209 : decode code 1209 = .ok (.iadd, 1) := by decide +kernel
theorem d_La_law_1210 : decode code 1210 = .ok (.iaload, 1) := by decide +kernel
theorem d_La_law_1211 : decode code 1211 = .ok (.aload_n 0, 1) := by decide +kernel
theorem d_La_law_1212 : decode code 1212 = .ok (.iload 4, 2) := by decide +kernel
theorem d_La_law_1214 : decode code 1214 = .ok (.iconst 3, 1) := by decide +kernel
theorem d_La_law_1215 : decode code 1215 = .ok (.iadd, 1) := by decide +kernel
theorem d_La_law_1216 : decode code 1216 = .ok (.iaload, 1) := by decide +kernel
theorem d_La_law_1217 : decode code 1217 = .ok (.invokevirtual 172, 3) := by decide +kernel
theorem d_La_law_1220 : decode code 1220 = .ok (.istore 6, 2) := by decide +kernel
theorem d_La_law_1222 : decode code 1222 = .ok (.aload_n 2, 1) := by decide +kernel
theorem d_La_law_1223 : decode code 1223 = .ok (.invokevirtual 107, 3) := by decide +kernel
theorem d_La_law_1226 : decode code 1226 = .ok (.iload 5, 2) := by decide +kernel
theorem d_La_law_1228 : decode code 1228 = .ok (.if_icmp .eq 5, 3) := by decide +kernel
theorem d_La_law_1231 : decode code 1231 = .ok (.iconst 0, 1) := by decide +kernel
theorem d_La_law_1232 : decode code 1232 = .ok (.ireturn, 1) := by decide +kernel
theorem d_La_law_1233 : decode code 1233 = .ok (.iload 5, 2) := by decide +kernel
theorem d_La_law_1235 : decode code 1235 = .ok (.ifCond .ne 15, 3) := by decide +kernel
theorem d_La_law_1238 : decode code 1238 = .ok (.aload_n 3, 1) := by decide +kernel
theorem d_La_law_1239 : decode code 1239 = .ok (.iconst 0, 1) := by decide +kernel
theorem d_La_law_1240 : decode code 1240 = .ok (.laload, 1) := by decide +kernel
theorem d_La_law_1241 : decode code 1241 = .ok (.iload 6, 2) := by decide +kernel
theorem d_La_law_1243 : decode code 1243 = .ok (.i2l, 1) := by decide +kernel
theorem d_La_law_1244 : decode code 1244 = .ok (.lcmp, 1) := by decide +kernel
theorem d_La_law_1245 : decode code 1245 = .ok (.ifCond .eq 5, 3) := by decide +kernel
theorem d_La_law_1248 : decode code 1248 = .ok (.iconst 0, 1) := by decide +kernel
theorem d_La_law_1249 : decode code 1249 = .ok (.ireturn, 1) := by decide +kernel
theorem d_La_law_1250 : decode code 1250 = .ok (.goto 309, 3) := by decide +kernel
theorem d_La_law_1253 : decode code 1253 = .ok (.aload_n 1, 1) := by decide +kernel
theorem d_La_law_1254 : decode code 1254 = .ok (.aload_n 0, 1) := by decide +kernel
theorem d_La_law_1255 : decode code 1255 = .ok (.iload 4, 2) := by decide +kernel
theorem d_La_law_1257 : decode code 1257 = .ok (.iconst 1, 1) := by decide +kernel
theorem d_La_law_1258 : decode code 1258 = .ok (.iadd, 1) := by decide +kernel
theorem d_La_law_1259 : decode code 1259 = .ok (.iaload, 1) := by decide +kernel
theorem d_La_law_1260 : decode code 1260 = .ok (.aload_n 0, 1) := by decide +kernel
theorem d_La_law_1261 : decode code 1261 = .ok (.iload 4, 2) := by decide +kernel
theorem d_La_law_1263 : decode code 1263 = .ok (.iconst 2, 1) := by decide +kernel
theorem d_La_law_1264 : decode code 1264 = .ok (.iadd, 1) := by decide +kernel
theorem d_La_law_1265 : decode code 1265 = .ok (.iaload, 1) := by decide +kernel
theorem d_La_law_1266 : decode code 1266 = .ok (.aload_n 3, 1) := by decide +kernel
theorem d_La_law_1267 : decode code 1267 = .ok (.invokestatic 173, 3) := by decide +kernel
theorem d_La_law_1270 : decode code 1270 = .ok (.istore 5, 2) := by decide +kernel
theorem d_La_law_1272 : decode code 1272 = .ok (.aload_n 2, 1) := by decide +kernel
theorem d_La_law_1273 : decode code 1273 = .ok (.aload_n 0, 1) := by decide +kernel
theorem d_La_law_1274 : decode code 1274 = .ok (.iload 4, 2) := by decide +kernel
theorem d_La_law_1276 : decode code 1276 = .ok (.iconst 1, 1) := by decide +kernel
theorem d_La_law_1277 : decode code 1277 = .ok (.iadd, 1) := by decide +kernel
theorem d_La_law_1278 : decode code 1278 = .ok (.iaload, 1) := by decide +kernel
theorem d_La_law_1279 : decode code 1279 = .ok (.aload_n 0, 1) := by decide +kernel
theorem d_La_law_1280 : decode code 1280 = .ok (.iload 4, 2) := by decide +kernel
theorem d_La_law_1282 : decode code 1282 = .ok (.iconst 2, 1) := by decide +kernel
theorem d_La_law_1283 : decode code 1283 = .ok (.iadd, 1) := by decide +kernel
theorem d_La_law_1284 : decode code 1284 = .ok (.iaload, 1) := by decide +kernel
theorem d_La_law_1285 : decode code 1285 = .ok (.invokevirtual 175, 3) := by decide +kernel
theorem d_La_law_1288 : decode code 1288 = .ok (.istore 6, 2) := by decide +kernel
theorem d_La_law_1290 : decode code 1290 = .ok (.aload_n 2, 1) := by decide +kernel
theorem d_La_law_1291 : decode code 1291 = .ok (.invokevirtual 107, 3) := by decide +kernel
theorem d_La_law_1294 : decode code 1294 = .ok (.iload 5, 2) := by decide +kernel
theorem d_La_law_1296 : decode code 1296 = .ok (.if_icmp .eq 5, 3) := by decide +kernel
theorem d_La_law_1299 : decode code 1299 = .ok (.iconst 0, 1) := by decide +kernel
theorem d_La_law_1300 : decode code 1300 = .ok (.ireturn, 1) := by decide +kernel
theorem d_La_law_1301 : decode code 1301 = .ok (.iload 5, 2) := by decide +kernel
theorem d_La_law_1303 : decode code 1303 = .ok (.ifCond .ne 15, 3) := by decide +kernel
theorem d_La_law_1306 : decode code 1306 = .ok (.aload_n 3, 1) := by decide +kernel
theorem d_La_law_1307 : decode code 1307 = .ok (.iconst 0, 1) := by decide +kernel
theorem d_La_law_1308 : decode code 1308 = .ok (.laload, 1) := by decide +kernel
theorem d_La_law_1309 : decode code 1309 = .ok (.iload 6, 2) := by decide +kernel
theorem d_La_law_1311 : decode code 1311 = .ok (.i2l, 1) := by decide +kernel
theorem d_La_law_1312 : decode code 1312 = .ok (.lcmp, 1) := by decide +kernel
theorem d_La_law_1313 : decode code 1313 = .ok (.ifCond .eq 5, 3) := by decide +kernel
theorem d_La_law_1316 : decode code 1316 = .ok (.iconst 0, 1) := by decide +kernel
theorem d_La_law_1317 : decode code 1317 = .ok (.ireturn, 1) := by decide +kernel
theorem d_La_law_1318 : decode code 1318 = .ok (.goto 241, 3) := by decide +kernel
theorem d_La_law_1321 : decode code 1321 = .ok (.aload_n 1, 1) := by decide +kernel
theorem d_La_law_1322 : decode code 1322 = .ok (.aload_n 0, 1) := by decide +kernel
theorem d_La_law_1323 : decode code 1323 = .ok (.iload 4, 2) := by decide +kernel
theorem d_La_law_1325 : decode code 1325 = .ok (.iconst 1, 1) := by decide +kernel
theorem d_La_law_1326 : decode code 1326 = .ok (.iadd, 1) := by decide +kernel
theorem d_La_law_1327 : decode code 1327 = .ok (.iaload, 1) := by decide +kernel
theorem d_La_law_1328 : decode code 1328 = .ok (.aload_n 3, 1) := by decide +kernel
theorem d_La_law_1329 : decode code 1329 = .ok (.invokestatic 176, 3) := by decide +kernel
theorem d_La_law_1332 : decode code 1332 = .ok (.istore 5, 2) := by decide +kernel
theorem d_La_law_1334 : decode code 1334 = .ok (.aload_n 2, 1) := by decide +kernel
theorem d_La_law_1335 : decode code 1335 = .ok (.aload_n 0, 1) := by decide +kernel
theorem d_La_law_1336 : decode code 1336 = .ok (.iload 4, 2) := by decide +kernel
theorem d_La_law_1338 : decode code 1338 = .ok (.iconst 1, 1) := by decide +kernel
theorem d_La_law_1339 : decode code 1339 = .ok (.iadd, 1) := by decide +kernel
theorem d_La_law_1340 : decode code 1340 = .ok (.iaload, 1) := by decide +kernel
theorem d_La_law_1341 : decode code 1341 = .ok (.invokevirtual 178, 3) := by decide +kernel
theorem d_La_law_1344 : decode code 1344 = .ok (.istore 6, 2) := by decide +kernel
theorem d_La_law_1346 : decode code 1346 = .ok (.aload_n 2, 1) := by decide +kernel
theorem d_La_law_1347 : decode code 1347 = .ok (.invokevirtual 107, 3) := by decide +kernel
theorem d_La_law_1350 : decode code 1350 = .ok (.iload 5, 2) := by decide +kernel
theorem d_La_law_1352 : decode code 1352 = .ok (.if_icmp .eq 5, 3) := by decide +kernel
theorem d_La_law_1355 : decode code 1355 = .ok (.iconst 0, 1) := by decide +kernel
theorem d_La_law_1356 : decode code 1356 = .ok (.ireturn, 1) := by decide +kernel
theorem d_La_law_1357 : decode code 1357 = .ok (.iload 5, 2) := by decide +kernel
theorem d_La_law_1359 : decode code 1359 = .ok (.ifCond .ne 15, 3) := by decide +kernel
theorem d_La_law_1362 : decode code 1362 = .ok (.aload_n 3, 1) := by decide +kernel
theorem d_La_law_1363 : decode code 1363 = .ok (.iconst 0, 1) := by decide +kernel
theorem d_La_law_1364 : decode code 1364 = .ok (.laload, 1) := by decide +kernel
theorem d_La_law_1365 : decode code 1365 = .ok (.iload 6, 2) := by decide +kernel
theorem d_La_law_1367 : decode code 1367 = .ok (.i2l, 1) := by decide +kernel
theorem d_La_law_1368 : decode code 1368 = .ok (.lcmp, 1) := by decide +kernel
theorem d_La_law_1369 : decode code 1369 = .ok (.ifCond .eq 5, 3) := by decide +kernel
theorem d_La_law_1372 : decode code 1372 = .ok (.iconst 0, 1) := by decide +kernel
theorem d_La_law_1373 : decode code 1373 = .ok (.ireturn, 1) := by decide +kernel
theorem d_La_law_1374 : decode code 1374 = .ok (.goto 185, 3) := by decide +kernel
theorem d_La_law_1377 : decode code 1377 = .ok (.aload_n 1, 1) := by decide +kernel
theorem d_La_law_1378 : decode code 1378 = .ok (.aload_n 0, 1) := by decide +kernel
theorem d_La_law_1379 : decode code 1379 = .ok (.iload 4, 2) := by decide +kernel
theorem d_La_law_1381 : decode code 1381 = .ok (.iconst 1, 1) := by decide +kernel
theorem d_La_law_1382 : decode code 1382 = .ok (.iadd, 1) := by decide +kernel
theorem d_La_law_1383 : decode code 1383 = .ok (.iaload, 1) := by decide +kernel
theorem d_La_law_1384 : decode code 1384 = .ok (.aload_n 0, 1) := by decide +kernel
theorem d_La_law_1385 : decode code 1385 = .ok (.iload 4, 2) := by decide +kernel
theorem d_La_law_1387 : decode code 1387 = .ok (.iconst 2, 1) := by decide +kernel
theorem d_La_law_1388 : decode code 1388 = .ok (.iadd, 1) := by decide +kernel
theorem d_La_law_1389 : decode code 1389 = .ok (.iaload, 1) := by decide +kernel
theorem d_La_law_1390 : decode code 1390 = .ok (.aload_n 3, 1) := by decide +kernel
theorem d_La_law_1391 : decode code 1391 = .ok (.invokestatic 179, 3) := by decide +kernel
theorem d_La_law_1394 : decode code 1394 = .ok (.istore 5, 2) := by decide +kernel
theorem d_La_law_1396 : decode code 1396 = .ok (.aload_n 2, 1) := by decide +kernel
theorem d_La_law_1397 : decode code 1397 = .ok (.aload_n 0, 1) := by decide +kernel
theorem d_La_law_1398 : decode code 1398 = .ok (.iload 4, 2) := by decide +kernel
theorem d_La_law_1400 : decode code 1400 = .ok (.iconst 1, 1) := by decide +kernel
theorem d_La_law_1401 : decode code 1401 = .ok (.iadd, 1) := by decide +kernel
theorem d_La_law_1402 : decode code 1402 = .ok (.iaload, 1) := by decide +kernel
theorem d_La_law_1403 : decode code 1403 = .ok (.aload_n 0, 1) := by decide +kernel
theorem d_La_law_1404 : decode code 1404 = .ok (.iload 4, 2) := by decide +kernel
theorem d_La_law_1406 : decode code 1406 = .ok (.iconst 2, 1) := by decide +kernel
theorem d_La_law_1407 : decode code 1407 = .ok (.iadd, 1) := by decide +kernel
theorem d_La_law_1408 : decode code 1408 = .ok (.iaload, 1) := by decide +kernel
theorem d_La_law_1409 : decode code 1409 = .ok (.invokevirtual 181, 3) := by decide +kernel
theorem d_La_law_1412 : decode code 1412 = .ok (.lstore 6, 2) := by decide +kernel
theorem d_La_law_1414 : decode code 1414 = .ok (.aload_n 2, 1) := by decide +kernel
theorem d_La_law_1415 : decode code 1415 = .ok (.invokevirtual 107, 3) := by decide +kernel
theorem d_La_law_1418 : decode code 1418 = .ok (.iload 5, 2) := by decide +kernel
theorem d_La_law_1420 : decode code 1420 = .ok (.if_icmp .eq 5, 3) := by decide +kernel
theorem d_La_law_1423 : decode code 1423 = .ok (.iconst 0, 1) := by decide +kernel
theorem d_La_law_1424 : decode code 1424 = .ok (.ireturn, 1) := by decide +kernel
theorem d_La_law_1425 : decode code 1425 = .ok (.iload 5, 2) := by decide +kernel
theorem d_La_law_1427 : decode code 1427 = .ok (.ifCond .ne 14, 3) := by decide +kernel
theorem d_La_law_1430 : decode code 1430 = .ok (.aload_n 3, 1) := by decide +kernel
theorem d_La_law_1431 : decode code 1431 = .ok (.iconst 0, 1) := by decide +kernel
theorem d_La_law_1432 : decode code 1432 = .ok (.laload, 1) := by decide +kernel
theorem d_La_law_1433 : decode code 1433 = .ok (.lload 6, 2) := by decide +kernel
theorem d_La_law_1435 : decode code 1435 = .ok (.lcmp, 1) := by decide +kernel
theorem d_La_law_1436 : decode code 1436 = .ok (.ifCond .eq 5, 3) := by decide +kernel
theorem d_La_law_1439 : decode code 1439 = .ok (.iconst 0, 1) := by decide +kernel
theorem d_La_law_1440 : decode code 1440 = .ok (.ireturn, 1) := by decide +kernel
theorem d_La_law_1441 : decode code 1441 = .ok (.goto 118, 3) := by decide +kernel
theorem d_La_law_1444 : decode code 1444 = .ok (.aload_n 1, 1) := by decide +kernel
theorem d_La_law_1445 : decode code 1445 = .ok (.aload_n 0, 1) := by decide +kernel
theorem d_La_law_1446 : decode code 1446 = .ok (.iload 4, 2) := by decide +kernel
theorem d_La_law_1448 : decode code 1448 = .ok (.iconst 1, 1) := by decide +kernel
theorem d_La_law_1449 : decode code 1449 = .ok (.iadd, 1) := by decide +kernel
theorem d_La_law_1450 : decode code 1450 = .ok (.iaload, 1) := by decide +kernel
theorem d_La_law_1451 : decode code 1451 = .ok (.invokestatic 182, 3) := by decide +kernel
theorem d_La_law_1454 : decode code 1454 = .ok (.istore 5, 2) := by decide +kernel
theorem d_La_law_1456 : decode code 1456 = .ok (.aload_n 2, 1) := by decide +kernel
theorem d_La_law_1457 : decode code 1457 = .ok (.aload_n 0, 1) := by decide +kernel
theorem d_La_law_1458 : decode code 1458 = .ok (.iload 4, 2) := by decide +kernel
theorem d_La_law_1460 : decode code 1460 = .ok (.iconst 1, 1) := by decide +kernel
theorem d_La_law_1461 : decode code 1461 = .ok (.iadd, 1) := by decide +kernel
theorem d_La_law_1462 : decode code 1462 = .ok (.iaload, 1) := by decide +kernel
theorem d_La_law_1463 : decode code 1463 = .ok (.invokevirtual 184, 3) := by decide +kernel
theorem d_La_law_1466 : decode code 1466 = .ok (.aload_n 2, 1) := by decide +kernel
theorem d_La_law_1467 : decode code 1467 = .ok (.invokevirtual 107, 3) := by decide +kernel
theorem d_La_law_1470 : decode code 1470 = .ok (.iload 5, 2) := by decide +kernel
theorem d_La_law_1472 : decode code 1472 = .ok (.if_icmp .eq 5, 3) := by decide +kernel
theorem d_La_law_1475 : decode code 1475 = .ok (.iconst 0, 1) := by decide +kernel
theorem d_La_law_1476 : decode code 1476 = .ok (.ireturn, 1) := by decide +kernel
theorem d_La_law_1477 : decode code 1477 = .ok (.goto 82, 3) := by decide +kernel
theorem d_La_law_1480 : decode code 1480 = .ok (.aload_n 1, 1) := by decide +kernel
theorem d_La_law_1481 : decode code 1481 = .ok (.aload_n 0, 1) := by decide +kernel
theorem d_La_law_1482 : decode code 1482 = .ok (.iload 4, 2) := by decide +kernel
theorem d_La_law_1484 : decode code 1484 = .ok (.iconst 1, 1) := by decide +kernel
theorem d_La_law_1485 : decode code 1485 = .ok (.iadd, 1) := by decide +kernel
theorem d_La_law_1486 : decode code 1486 = .ok (.iaload, 1) := by decide +kernel
theorem d_La_law_1487 : decode code 1487 = .ok (.aload_n 0, 1) := by decide +kernel
theorem d_La_law_1488 : decode code 1488 = .ok (.iload 4, 2) := by decide +kernel
theorem d_La_law_1490 : decode code 1490 = .ok (.iconst 2, 1) := by decide +kernel
theorem d_La_law_1491 : decode code 1491 = .ok (.iadd, 1) := by decide +kernel
theorem d_La_law_1492 : decode code 1492 = .ok (.iaload, 1) := by decide +kernel
theorem d_La_law_1493 : decode code 1493 = .ok (.aload_n 0, 1) := by decide +kernel
theorem d_La_law_1494 : decode code 1494 = .ok (.iload 4, 2) := by decide +kernel
theorem d_La_law_1496 : decode code 1496 = .ok (.iconst 3, 1) := by decide +kernel
theorem d_La_law_1497 : decode code 1497 = .ok (.iadd, 1) := by decide +kernel
theorem d_La_law_1498 : decode code 1498 = .ok (.iaload, 1) := by decide +kernel
theorem d_La_law_1499 : decode code 1499 = .ok (.aload_n 3, 1) := by decide +kernel
theorem d_La_law_1500 : decode code 1500 = .ok (.invokestatic 185, 3) := by decide +kernel
theorem d_La_law_1503 : decode code 1503 = .ok (.istore 5, 2) := by decide +kernel
theorem d_La_law_1505 : decode code 1505 = .ok (.aload_n 2, 1) := by decide +kernel
theorem d_La_law_1506 : decode code 1506 = .ok (.aload_n 0, 1) := by decide +kernel
theorem d_La_law_1507 : decode code 1507 = .ok (.iload 4, 2) := by decide +kernel
theorem d_La_law_1509 : decode code 1509 = .ok (.iconst 1, 1) := by decide +kernel
theorem d_La_law_1510 : decode code 1510 = .ok (.iadd, 1) := by decide +kernel
theorem d_La_law_1511 : decode code 1511 = .ok (.iaload, 1) := by decide +kernel
theorem d_La_law_1512 : decode code 1512 = .ok (.aload_n 0, 1) := by decide +kernel
theorem d_La_law_1513 : decode code 1513 = .ok (.iload 4, 2) := by decide +kernel
theorem d_La_law_1515 : decode code 1515 = .ok (.iconst 2, 1) := by decide +kernel
theorem d_La_law_1516 : decode code 1516 = .ok (.iadd, 1) := by decide +kernel
theorem d_La_law_1517 : decode code 1517 = .ok (.iaload, 1) := by decide +kernel
theorem d_La_law_1518 : decode code 1518 = .ok (.aload_n 0, 1) := by decide +kernel
theorem d_La_law_1519 : decode code 1519 = .ok (.iload 4, 2) := by decide +kernel
theorem d_La_law_1521 : decode code 1521 = .ok (.iconst 3, 1) := by decide +kernel
theorem d_La_law_1522 : decode code 1522 = .ok (.iadd, 1) := by decide +kernel
theorem d_La_law_1523 : decode code 1523 = .ok (.iaload, 1) := by decide +kernel
theorem d_La_law_1524 : decode code 1524 = .ok (.invokevirtual 187, 3) := by decide +kernel
theorem d_La_law_1527 : decode code 1527 = .ok (.lstore 6, 2) := by decide +kernel
theorem d_La_law_1529 : decode code 1529 = .ok (.aload_n 2, 1) := by decide +kernel
theorem d_La_law_1530 : decode code 1530 = .ok (.invokevirtual 107, 3) := by decide +kernel
theorem d_La_law_1533 : decode code 1533 = .ok (.iload 5, 2) := by decide +kernel
theorem d_La_law_1535 : decode code 1535 = .ok (.if_icmp .eq 5, 3) := by decide +kernel
theorem d_La_law_1538 : decode code 1538 = .ok (.iconst 0, 1) := by decide +kernel
theorem d_La_law_1539 : decode code 1539 = .ok (.ireturn, 1) := by decide +kernel
theorem d_La_law_1540 : decode code 1540 = .ok (.iload 5, 2) := by decide +kernel
theorem d_La_law_1542 : decode code 1542 = .ok (.ifCond .ne 14, 3) := by decide +kernel
theorem d_La_law_1545 : decode code 1545 = .ok (.aload_n 3, 1) := by decide +kernel
theorem d_La_law_1546 : decode code 1546 = .ok (.iconst 0, 1) := by decide +kernel
theorem d_La_law_1547 : decode code 1547 = .ok (.laload, 1) := by decide +kernel
theorem d_La_law_1548 : decode code 1548 = .ok (.lload 6, 2) := by decide +kernel
theorem d_La_law_1550 : decode code 1550 = .ok (.lcmp, 1) := by decide +kernel
theorem d_La_law_1551 : decode code 1551 = .ok (.ifCond .eq 5, 3) := by decide +kernel
theorem d_La_law_1554 : decode code 1554 = .ok (.iconst 0, 1) := by decide +kernel
theorem d_La_law_1555 : decode code 1555 = .ok (.ireturn, 1) := by decide +kernel
theorem d_La_law_1556 : decode code 1556 = .ok (.goto 3, 3) := by decide +kernel
theorem d_La_law_1559 : decode code 1559 = .ok (.iinc 4 5, 3) := by decide +kernel
theorem d_La_law_1562 : decode code 1562 = .ok (.goto (-1539), 3) := by decide +kernel
theorem d_La_law_1565 : decode code 1565 = .ok (.iconst 1, 1) := by decide +kernel
theorem d_La_law_1566 : decode code 1566 = .ok (.ireturn, 1) := by decide +kernel
