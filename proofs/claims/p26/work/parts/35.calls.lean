theorem dL_law_0 : decode cL_law 0 = .ok (.new 8, 3) := by decide +kernel
theorem dL_law_3 : decode cL_law 3 = .ok (.dup, 1) := by decide +kernel
theorem dL_law_4 : decode cL_law 4 = .ok (.invokespecial 89, 3) := by decide +kernel
theorem dL_law_7 : decode cL_law 7 = .ok (.astore_n 1, 1) := by decide +kernel
theorem dL_law_8 : decode cL_law 8 = .ok (.new 90, 3) := by decide +kernel
theorem dL_law_11 : decode cL_law 11 = .ok (.dup, 1) := by decide +kernel
theorem dL_law_12 : decode cL_law 12 = .ok (.invokespecial 92, 3) := by decide +kernel
theorem dL_law_15 : decode cL_law 15 = .ok (.astore_n 2, 1) := by decide +kernel
theorem dL_law_16 : decode cL_law 16 = .ok (.new 14, 3) := by decide +kernel
theorem dL_law_19 : decode cL_law 19 = .ok (.dup, 1) := by decide +kernel
theorem dL_law_20 : decode cL_law 20 = .ok (.invokespecial 93, 3) := by decide +kernel
theorem dL_law_23 : decode cL_law 23 = .ok (.astore_n 3, 1) := by decide +kernel
theorem dL_law_24 : decode cL_law 24 = .ok (.iconst 0, 1) := by decide +kernel
theorem dL_law_25 : decode cL_law 25 = .ok (.istore 4, 2) := by decide +kernel
theorem dL_law_27 : decode cL_law 27 = .ok (.iload 4, 2) := by decide +kernel
theorem dL_law_29 : decode cL_law 29 = .ok (.aload_n 0, 1) := by decide +kernel
theorem dL_law_30 : decode cL_law 30 = .ok (.arraylength, 1) := by decide +kernel
theorem dL_law_31 : decode cL_law 31 = .ok (.iconst 5, 1) := by decide +kernel
theorem dL_law_32 : decode cL_law 32 = .ok (.isub, 1) := by decide +kernel
theorem dL_law_33 : decode cL_law 33 = .ok (.if_icmp .gt 958, 3) := by decide +kernel
theorem dL_law_36 : decode cL_law 36 = .ok (.aload_n 0, 1) := by decide +kernel
theorem dL_law_37 : decode cL_law 37 = .ok (.iload 4, 2) := by decide +kernel
theorem dL_law_39 : decode cL_law 39 = .ok (.iaload, 1) := by decide +kernel
theorem dL_law_40 : decode cL_law 40 = .ok (.bipush 31, 2) := by decide +kernel
theorem dL_law_42 : decode cL_law 42 = .ok (.iand, 1) := by decide +kernel
theorem dL_law_43 : decode cL_law 43 = .ok (.tableswitch 942 0 24 #[113, 153, 217, 281, 333, 361, 374, 402, 430, 446, 474, 487, 539, 579, 619, 647, 660, 688, 703, 743, 795, 859, 887, 915, 928], 113) := by decide +kernel
theorem dL_law_156 : decode cL_law 156 = .ok (.aload_n 1, 1) := by decide +kernel
theorem dL_law_157 : decode cL_law 157 = .ok (.aload_n 0, 1) := by decide +kernel
theorem dL_law_158 : decode cL_law 158 = .ok (.iload 4, 2) := by decide +kernel
theorem dL_law_160 : decode cL_law 160 = .ok (.iconst 1, 1) := by decide +kernel
theorem dL_law_161 : decode cL_law 161 = .ok (.iadd, 1) := by decide +kernel
theorem dL_law_162 : decode cL_law 162 = .ok (.iaload, 1) := by decide +kernel
theorem dL_law_163 : decode cL_law 163 = .ok (.aload_n 0, 1) := by decide +kernel
theorem dL_law_164 : decode cL_law 164 = .ok (.iload 4, 2) := by decide +kernel
theorem dL_law_166 : decode cL_law 166 = .ok (.iconst 2, 1) := by decide +kernel
theorem dL_law_167 : decode cL_law 167 = .ok (.iadd, 1) := by decide +kernel
theorem dL_law_168 : decode cL_law 168 = .ok (.iaload, 1) := by decide +kernel
theorem dL_law_169 : decode cL_law 169 = .ok (.aload_n 3, 1) := by decide +kernel
theorem dL_law_170 : decode cL_law 170 = .ok (.invokestatic 94, 3) := by decide +kernel
theorem dL_law_173 : decode cL_law 173 = .ok (.istore 5, 2) := by decide +kernel
theorem dL_law_175 : decode cL_law 175 = .ok (.aload_n 2, 1) := by decide +kernel
theorem dL_law_176 : decode cL_law 176 = .ok (.aload_n 0, 1) := by decide +kernel
theorem dL_law_177 : decode cL_law 177 = .ok (.iload 4, 2) := by decide +kernel
theorem dL_law_179 : decode cL_law 179 = .ok (.iconst 1, 1) := by decide +kernel
theorem dL_law_180 : decode cL_law 180 = .ok (.iadd, 1) := by decide +kernel
theorem dL_law_181 : decode cL_law 181 = .ok (.iaload, 1) := by decide +kernel
theorem dL_law_182 : decode cL_law 182 = .ok (.aload_n 0, 1) := by decide +kernel
theorem dL_law_183 : decode cL_law 183 = .ok (.iload 4, 2) := by decide +kernel
theorem dL_law_185 : decode cL_law 185 = .ok (.iconst 2, 1) := by decide +kernel
theorem dL_law_186 : decode cL_law 186 = .ok (.iadd, 1) := by decide +kernel
theorem dL_law_187 : decode cL_law 187 = .ok (.iaload, 1) := by decide +kernel
theorem dL_law_188 : decode cL_law 188 = .ok (.invokevirtual 99, 3) := by decide +kernel
theorem dL_law_191 : decode cL_law 191 = .ok (.istore 6, 2) := by decide +kernel
theorem dL_law_193 : decode cL_law 193 = .ok (.goto 792, 3) := by decide +kernel
theorem dL_law_196 : decode cL_law 196 = .ok (.aload_n 1, 1) := by decide +kernel
theorem dL_law_197 : decode cL_law 197 = .ok (.aload_n 0, 1) := by decide +kernel
theorem dL_law_198 : decode cL_law 198 = .ok (.iload 4, 2) := by decide +kernel
theorem dL_law_200 : decode cL_law 200 = .ok (.iconst 1, 1) := by decide +kernel
theorem dL_law_201 : decode cL_law 201 = .ok (.iadd, 1) := by decide +kernel
theorem dL_law_202 : decode cL_law 202 = .ok (.iaload, 1) := by decide +kernel
theorem dL_law_203 : decode cL_law 203 = .ok (.aload_n 0, 1) := by decide +kernel
theorem dL_law_204 : decode cL_law 204 = .ok (.iload 4, 2) := by decide +kernel
theorem dL_law_206 : decode cL_law 206 = .ok (.iconst 2, 1) := by decide +kernel
theorem dL_law_207 : decode cL_law 207 = .ok (.iadd, 1) := by decide +kernel
theorem dL_law_208 : decode cL_law 208 = .ok (.iaload, 1) := by decide +kernel
theorem dL_law_209 : decode cL_law 209 = .ok (.aload_n 0, 1) := by decide +kernel
theorem dL_law_210 : decode cL_law 210 = .ok (.iload 4, 2) := by decide +kernel
theorem dL_law_212 : decode cL_law 212 = .ok (.iconst 3, 1) := by decide +kernel
theorem dL_law_213 : decode cL_law 213 = .ok (.iadd, 1) := by decide +kernel
theorem dL_law_214 : decode cL_law 214 = .ok (.iaload, 1) := by decide +kernel
theorem dL_law_215 : decode cL_law 215 = .ok (.aload_n 0, 1) := by decide +kernel
theorem dL_law_216 : decode cL_law 216 = .ok (.iload 4, 2) := by decide +kernel
theorem dL_law_218 : decode cL_law 218 = .ok (.iconst 4, 1) := by decide +kernel
theorem dL_law_219 : decode cL_law 219 = .ok (.iadd, 1) := by decide +kernel
theorem dL_law_220 : decode cL_law 220 = .ok (.iaload, 1) := by decide +kernel
theorem dL_law_221 : decode cL_law 221 = .ok (.aload_n 3, 1) := by decide +kernel
theorem dL_law_222 : decode cL_law 222 = .ok (.invokestatic 100, 3) := by decide +kernel
theorem dL_law_225 : decode cL_law 225 = .ok (.istore 5, 2) := by decide +kernel
theorem dL_law_227 : decode cL_law 227 = .ok (.aload_n 2, 1) := by decide +kernel
theorem dL_law_228 : decode cL_law 228 = .ok (.aload_n 0, 1) := by decide +kernel
theorem dL_law_229 : decode cL_law 229 = .ok (.iload 4, 2) := by decide +kernel
theorem dL_law_231 : decode cL_law 231 = .ok (.iconst 1, 1) := by decide +kernel
theorem dL_law_232 : decode cL_law 232 = .ok (.iadd, 1) := by decide +kernel
theorem dL_law_233 : decode cL_law 233 = .ok (.iaload, 1) := by decide +kernel
theorem dL_law_234 : decode cL_law 234 = .ok (.aload_n 0, 1) := by decide +kernel
theorem dL_law_235 : decode cL_law 235 = .ok (.iload 4, 2) := by decide +kernel
theorem dL_law_237 : decode cL_law 237 = .ok (.iconst 2, 1) := by decide +kernel
theorem dL_law_238 : decode cL_law 238 = .ok (.iadd, 1) := by decide +kernel
theorem dL_law_239 : decode cL_law 239 = .ok (.iaload, 1) := by decide +kernel
theorem dL_law_240 : decode cL_law 240 = .ok (.aload_n 0, 1) := by decide +kernel
theorem dL_law_241 : decode cL_law 241 = .ok (.iload 4, 2) := by decide +kernel
theorem dL_law_243 : decode cL_law 243 = .ok (.iconst 3, 1) := by decide +kernel
theorem dL_law_244 : decode cL_law 244 = .ok (.iadd, 1) := by decide +kernel
theorem dL_law_245 : decode cL_law 245 = .ok (.iaload, 1) := by decide +kernel
theorem dL_law_246 : decode cL_law 246 = .ok (.aload_n 0, 1) := by decide +kernel
theorem dL_law_247 : decode cL_law 247 = .ok (.iload 4, 2) := by decide +kernel
theorem dL_law_249 : decode cL_law 249 = .ok (.iconst 4, 1) := by decide +kernel
theorem dL_law_250 : decode cL_law 250 = .ok (.iadd, 1) := by decide +kernel
theorem dL_law_251 : decode cL_law 251 = .ok (.iaload, 1) := by decide +kernel
theorem dL_law_252 : decode cL_law 252 = .ok (.invokevirtual 103, 3) := by decide +kernel
theorem dL_law_255 : decode cL_law 255 = .ok (.istore 6, 2) := by decide +kernel
theorem dL_law_257 : decode cL_law 257 = .ok (.goto 728, 3) := by decide +kernel
theorem dL_law_260 : decode cL_law 260 = .ok (.aload_n 1, 1) := by decide +kernel
theorem dL_law_261 : decode cL_law 261 = .ok (.aload_n 0, 1) := by decide +kernel
theorem dL_law_262 : decode cL_law 262 = .ok (.iload 4, 2) := by decide +kernel
theorem dL_law_264 : decode cL_law 264 = .ok (.iconst 1, 1) := by decide +kernel
theorem dL_law_265 : decode cL_law 265 = .ok (.iadd, 1) := by decide +kernel
theorem dL_law_266 : decode cL_law 266 = .ok (.iaload, 1) := by decide +kernel
theorem dL_law_267 : decode cL_law 267 = .ok (.aload_n 0, 1) := by decide +kernel
theorem dL_law_268 : decode cL_law 268 = .ok (.iload 4, 2) := by decide +kernel
theorem dL_law_270 : decode cL_law 270 = .ok (.iconst 2, 1) := by decide +kernel
theorem dL_law_271 : decode cL_law 271 = .ok (.iadd, 1) := by decide +kernel
theorem dL_law_272 : decode cL_law 272 = .ok (.iaload, 1) := by decide +kernel
theorem dL_law_273 : decode cL_law 273 = .ok (.aload_n 0, 1) := by decide +kernel
theorem dL_law_274 : decode cL_law 274 = .ok (.iload 4, 2) := by decide +kernel
theorem dL_law_276 : decode cL_law 276 = .ok (.iconst 3, 1) := by decide +kernel
theorem dL_law_277 : decode cL_law 277 = .ok (.iadd, 1) := by decide +kernel
theorem dL_law_278 : decode cL_law 278 = .ok (.iaload, 1) := by decide +kernel
theorem dL_law_279 : decode cL_law 279 = .ok (.aload_n 0, 1) := by decide +kernel
theorem dL_law_280 : decode cL_law 280 = .ok (.iload 4, 2) := by decide +kernel
theorem dL_law_282 : decode cL_law 282 = .ok (.iconst 4, 1) := by decide +kernel
theorem dL_law_283 : decode cL_law 283 = .ok (.iadd, 1) := by decide +kernel
theorem dL_law_284 : decode cL_law 284 = .ok (.iaload, 1) := by decide +kernel
theorem dL_law_285 : decode cL_law 285 = .ok (.aload_n 3, 1) := by decide +kernel
theorem dL_law_286 : decode cL_law 286 = .ok (.invokestatic 104, 3) := by decide +kernel
theorem dL_law_289 : decode cL_law 289 = .ok (.istore 5, 2) := by decide +kernel
theorem dL_law_291 : decode cL_law 291 = .ok (.aload_n 2, 1) := by decide +kernel
theorem dL_law_292 : decode cL_law 292 = .ok (.aload_n 0, 1) := by decide +kernel
theorem dL_law_293 : decode cL_law 293 = .ok (.iload 4, 2) := by decide +kernel
theorem dL_law_295 : decode cL_law 295 = .ok (.iconst 1, 1) := by decide +kernel
theorem dL_law_296 : decode cL_law 296 = .ok (.iadd, 1) := by decide +kernel
theorem dL_law_297 : decode cL_law 297 = .ok (.iaload, 1) := by decide +kernel
theorem dL_law_298 : decode cL_law 298 = .ok (.aload_n 0, 1) := by decide +kernel
theorem dL_law_299 : decode cL_law 299 = .ok (.iload 4, 2) := by decide +kernel
theorem dL_law_301 : decode cL_law 301 = .ok (.iconst 2, 1) := by decide +kernel
theorem dL_law_302 : decode cL_law 302 = .ok (.iadd, 1) := by decide +kernel
theorem dL_law_303 : decode cL_law 303 = .ok (.iaload, 1) := by decide +kernel
theorem dL_law_304 : decode cL_law 304 = .ok (.aload_n 0, 1) := by decide +kernel
theorem dL_law_305 : decode cL_law 305 = .ok (.iload 4, 2) := by decide +kernel
theorem dL_law_307 : decode cL_law 307 = .ok (.iconst 3, 1) := by decide +kernel
theorem dL_law_308 : decode cL_law 308 = .ok (.iadd, 1) := by decide +kernel
theorem dL_law_309 : decode cL_law 309 = .ok (.iaload, 1) := by decide +kernel
theorem dL_law_310 : decode cL_law 310 = .ok (.aload_n 0, 1) := by decide +kernel
theorem dL_law_311 : decode cL_law 311 = .ok (.iload 4, 2) := by decide +kernel
theorem dL_law_313 : decode cL_law 313 = .ok (.iconst 4, 1) := by decide +kernel
theorem dL_law_314 : decode cL_law 314 = .ok (.iadd, 1) := by decide +kernel
theorem dL_law_315 : decode cL_law 315 = .ok (.iaload, 1) := by decide +kernel
theorem dL_law_316 : decode cL_law 316 = .ok (.invokevirtual 106, 3) := by decide +kernel
theorem dL_law_319 : decode cL_law 319 = .ok (.istore 6, 2) := by decide +kernel
theorem dL_law_321 : decode cL_law 321 = .ok (.goto 664, 3) := by decide +kernel
theorem dL_law_324 : decode cL_law 324 = .ok (.aload_n 1, 1) := by decide +kernel
theorem dL_law_325 : decode cL_law 325 = .ok (.aload_n 0, 1) := by decide +kernel
theorem dL_law_326 : decode cL_law 326 = .ok (.iload 4, 2) := by decide +kernel
theorem dL_law_328 : decode cL_law 328 = .ok (.iconst 1, 1) := by decide +kernel
theorem dL_law_329 : decode cL_law 329 = .ok (.iadd, 1) := by decide +kernel
theorem dL_law_330 : decode cL_law 330 = .ok (.iaload, 1) := by decide +kernel
theorem dL_law_331 : decode cL_law 331 = .ok (.aload_n 0, 1) := by decide +kernel
theorem dL_law_332 : decode cL_law 332 = .ok (.iload 4, 2) := by decide +kernel
theorem dL_law_334 : decode cL_law 334 = .ok (.iconst 2, 1) := by decide +kernel
theorem dL_law_335 : decode cL_law 335 = .ok (.iadd, 1) := by decide +kernel
theorem dL_law_336 : decode cL_law 336 = .ok (.iaload, 1) := by decide +kernel
theorem dL_law_337 : decode cL_law 337 = .ok (.aload_n 0, 1) := by decide +kernel
theorem dL_law_338 : decode cL_law 338 = .ok (.iload 4, 2) := by decide +kernel
theorem dL_law_340 : decode cL_law 340 = .ok (.iconst 3, 1) := by decide +kernel
theorem dL_law_341 : decode cL_law 341 = .ok (.iadd, 1) := by decide +kernel
theorem dL_law_342 : decode cL_law 342 = .ok (.iaload, 1) := by decide +kernel
theorem dL_law_343 : decode cL_law 343 = .ok (.aload_n 3, 1) := by decide +kernel
theorem dL_law_344 : decode cL_law 344 = .ok (.invokestatic 107, 3) := by decide +kernel
theorem dL_law_347 : decode cL_law 347 = .ok (.istore 5, 2) := by decide +kernel
theorem dL_law_349 : decode cL_law 349 = .ok (.aload_n 2, 1) := by decide +kernel
theorem dL_law_350 : decode cL_law 350 = .ok (.aload_n 0, 1) := by decide +kernel
theorem dL_law_351 : decode cL_law 351 = .ok (.iload 4, 2) := by decide +kernel
theorem dL_law_353 : decode cL_law 353 = .ok (.iconst 1, 1) := by decide +kernel
theorem dL_law_354 : decode cL_law 354 = .ok (.iadd, 1) := by decide +kernel
theorem dL_law_355 : decode cL_law 355 = .ok (.iaload, 1) := by decide +kernel
theorem dL_law_356 : decode cL_law 356 = .ok (.aload_n 0, 1) := by decide +kernel
theorem dL_law_357 : decode cL_law 357 = .ok (.iload 4, 2) := by decide +kernel
theorem dL_law_359 : decode cL_law 359 = .ok (.iconst 2, 1) := by decide +kernel
theorem dL_law_360 : decode cL_law 360 = .ok (.iadd, 1) := by decide +kernel
theorem dL_law_361 : decode cL_law 361 = .ok (.iaload, 1) := by decide +kernel
theorem dL_law_362 : decode cL_law 362 = .ok (.aload_n 0, 1) := by decide +kernel
theorem dL_law_363 : decode cL_law 363 = .ok (.iload 4, 2) := by decide +kernel
theorem dL_law_365 : decode cL_law 365 = .ok (.iconst 3, 1) := by decide +kernel
theorem dL_law_366 : decode cL_law 366 = .ok (.iadd, 1) := by decide +kernel
theorem dL_law_367 : decode cL_law 367 = .ok (.iaload, 1) := by decide +kernel
theorem dL_law_368 : decode cL_law 368 = .ok (.invokevirtual 110, 3) := by decide +kernel
theorem dL_law_371 : decode cL_law 371 = .ok (.istore 6, 2) := by decide +kernel
theorem dL_law_373 : decode cL_law 373 = .ok (.goto 612, 3) := by decide +kernel
theorem dL_law_376 : decode cL_law 376 = .ok (.aload_n 1, 1) := by decide +kernel
theorem dL_law_377 : decode cL_law 377 = .ok (.aload_n 0, 1) := by decide +kernel
theorem dL_law_378 : decode cL_law 378 = .ok (.iload 4, 2) := by decide +kernel
theorem dL_law_380 : decode cL_law 380 = .ok (.iconst 1, 1) := by decide +kernel
theorem dL_law_381 : decode cL_law 381 = .ok (.iadd, 1) := by decide +kernel
theorem dL_law_382 : decode cL_law 382 = .ok (.iaload, 1) := by decide +kernel
theorem dL_law_383 : decode cL_law 383 = .ok (.aload_n 3, 1) := by decide +kernel
theorem dL_law_384 : decode cL_law 384 = .ok (.invokestatic 111, 3) := by decide +kernel
theorem dL_law_387 : decode cL_law 387 = .ok (.istore 5, 2) := by decide +kernel
theorem dL_law_389 : decode cL_law 389 = .ok (.aload_n 2, 1) := by decide +kernel
theorem dL_law_390 : decode cL_law 390 = .ok (.aload_n 0, 1) := by decide +kernel
theorem dL_law_391 : decode cL_law 391 = .ok (.iload 4, 2) := by decide +kernel
theorem dL_law_393 : decode cL_law 393 = .ok (.iconst 1, 1) := by decide +kernel
theorem dL_law_394 : decode cL_law 394 = .ok (.iadd, 1) := by decide +kernel
theorem dL_law_395 : decode cL_law 395 = .ok (.iaload, 1) := by decide +kernel
theorem dL_law_396 : decode cL_law 396 = .ok (.invokevirtual 114, 3) := by decide +kernel
theorem dL_law_399 : decode cL_law 399 = .ok (.istore 6, 2) := by decide +kernel
theorem dL_law_401 : decode cL_law 401 = .ok (.goto 584, 3) := by decide +kernel
theorem dL_law_404 : decode cL_law 404 = .ok (.aload_n 1, 1) := by decide +kernel
theorem dL_law_405 : decode cL_law 405 = .ok (.invokevirtual 115, 3) := by decide +kernel
theorem dL_law_408 : decode cL_law 408 = .ok (.pop, 1) := by decide +kernel
theorem dL_law_409 : decode cL_law 409 = .ok (.aload_n 2, 1) := by decide +kernel
theorem dL_law_410 : decode cL_law 410 = .ok (.invokevirtual 118, 3) := by decide +kernel
theorem dL_law_413 : decode cL_law 413 = .ok (.pop, 1) := by decide +kernel
theorem dL_law_414 : decode cL_law 414 = .ok (.goto 571, 3) := by decide +kernel
theorem dL_law_417 : decode cL_law 417 = .ok (.aload_n 1, 1) := by decide +kernel
theorem dL_law_418 : decode cL_law 418 = .ok (.aload_n 0, 1) := by decide +kernel
theorem dL_law_419 : decode cL_law 419 = .ok (.iload 4, 2) := by decide +kernel
theorem dL_law_421 : decode cL_law 421 = .ok (.iconst 1, 1) := by decide +kernel
theorem dL_law_422 : decode cL_law 422 = .ok (.iadd, 1) := by decide +kernel
theorem dL_law_423 : decode cL_law 423 = .ok (.iaload, 1) := by decide +kernel
theorem dL_law_424 : decode cL_law 424 = .ok (.aload_n 3, 1) := by decide +kernel
theorem dL_law_425 : decode cL_law 425 = .ok (.invokestatic 119, 3) := by decide +kernel
theorem dL_law_428 : decode cL_law 428 = .ok (.istore 5, 2) := by decide +kernel
theorem dL_law_430 : decode cL_law 430 = .ok (.aload_n 2, 1) := by decide +kernel
theorem dL_law_431 : decode cL_law 431 = .ok (.aload_n 0, 1) := by decide +kernel
theorem dL_law_432 : decode cL_law 432 = .ok (.iload 4, 2) := by decide +kernel
theorem dL_law_434 : decode cL_law 434 = .ok (.iconst 1, 1) := by decide +kernel
theorem dL_law_435 : decode cL_law 435 = .ok (.iadd, 1) := by decide +kernel
theorem dL_law_436 : decode cL_law 436 = .ok (.iaload, 1) := by decide +kernel
theorem dL_law_437 : decode cL_law 437 = .ok (.invokevirtual 121, 3) := by decide +kernel
theorem dL_law_440 : decode cL_law 440 = .ok (.istore 6, 2) := by decide +kernel
theorem dL_law_442 : decode cL_law 442 = .ok (.goto 543, 3) := by decide +kernel
theorem dL_law_445 : decode cL_law 445 = .ok (.aload_n 1, 1) := by decide +kernel
theorem dL_law_446 : decode cL_law 446 = .ok (.aload_n 0, 1) := by decide +kernel
theorem dL_law_447 : decode cL_law 447 = .ok (.iload 4, 2) := by decide +kernel
theorem dL_law_449 : decode cL_law 449 = .ok (.iconst 1, 1) := by decide +kernel
theorem dL_law_450 : decode cL_law 450 = .ok (.iadd, 1) := by decide +kernel
theorem dL_law_451 : decode cL_law 451 = .ok (.iaload, 1) := by decide +kernel
theorem dL_law_452 : decode cL_law 452 = .ok (.aload_n 3, 1) := by decide +kernel
theorem dL_law_453 : decode cL_law 453 = .ok (.invokestatic 122, 3) := by decide +kernel
theorem dL_law_456 : decode cL_law 456 = .ok (.istore 5, 2) := by decide +kernel
theorem dL_law_458 : decode cL_law 458 = .ok (.aload_n 2, 1) := by decide +kernel
theorem dL_law_459 : decode cL_law 459 = .ok (.aload_n 0, 1) := by decide +kernel
theorem dL_law_460 : decode cL_law 460 = .ok (.iload 4, 2) := by decide +kernel
theorem dL_law_462 : decode cL_law 462 = .ok (.iconst 1, 1) := by decide +kernel
theorem dL_law_463 : decode cL_law 463 = .ok (.iadd, 1) := by decide +kernel
theorem dL_law_464 : decode cL_law 464 = .ok (.iaload, 1) := by decide +kernel
theorem dL_law_465 : decode cL_law 465 = .ok (.invokevirtual 124, 3) := by decide +kernel
theorem dL_law_468 : decode cL_law 468 = .ok (.istore 6, 2) := by decide +kernel
theorem dL_law_470 : decode cL_law 470 = .ok (.goto 515, 3) := by decide +kernel
theorem dL_law_473 : decode cL_law 473 = .ok (.aload_n 1, 1) := by decide +kernel
theorem dL_law_474 : decode cL_law 474 = .ok (.aload_n 3, 1) := by decide +kernel
theorem dL_law_475 : decode cL_law 475 = .ok (.invokestatic 125, 3) := by decide +kernel
theorem dL_law_478 : decode cL_law 478 = .ok (.istore 5, 2) := by decide +kernel
theorem dL_law_480 : decode cL_law 480 = .ok (.aload_n 2, 1) := by decide +kernel
theorem dL_law_481 : decode cL_law 481 = .ok (.invokevirtual 128, 3) := by decide +kernel
theorem dL_law_484 : decode cL_law 484 = .ok (.istore 6, 2) := by decide +kernel
theorem dL_law_486 : decode cL_law 486 = .ok (.goto 499, 3) := by decide +kernel
theorem dL_law_489 : decode cL_law 489 = .ok (.aload_n 1, 1) := by decide +kernel
theorem dL_law_490 : decode cL_law 490 = .ok (.aload_n 0, 1) := by decide +kernel
theorem dL_law_491 : decode cL_law 491 = .ok (.iload 4, 2) := by decide +kernel
theorem dL_law_493 : decode cL_law 493 = .ok (.iconst 1, 1) := by decide +kernel
theorem dL_law_494 : decode cL_law 494 = .ok (.iadd, 1) := by decide +kernel
theorem dL_law_495 : decode cL_law 495 = .ok (.iaload, 1) := by decide +kernel
theorem dL_law_496 : decode cL_law 496 = .ok (.aload_n 3, 1) := by decide +kernel
theorem dL_law_497 : decode cL_law 497 = .ok (.invokestatic 129, 3) := by decide +kernel
theorem dL_law_500 : decode cL_law 500 = .ok (.istore 5, 2) := by decide +kernel
theorem dL_law_502 : decode cL_law 502 = .ok (.aload_n 2, 1) := by decide +kernel
theorem dL_law_503 : decode cL_law 503 = .ok (.aload_n 0, 1) := by decide +kernel
theorem dL_law_504 : decode cL_law 504 = .ok (.iload 4, 2) := by decide +kernel
theorem dL_law_506 : decode cL_law 506 = .ok (.iconst 1, 1) := by decide +kernel
theorem dL_law_507 : decode cL_law 507 = .ok (.iadd, 1) := by decide +kernel
theorem dL_law_508 : decode cL_law 508 = .ok (.iaload, 1) := by decide +kernel
theorem dL_law_509 : decode cL_law 509 = .ok (.invokevirtual 131, 3) := by decide +kernel
theorem dL_law_512 : decode cL_law 512 = .ok (.istore 6, 2) := by decide +kernel
theorem dL_law_514 : decode cL_law 514 = .ok (.goto 471, 3) := by decide +kernel
theorem dL_law_517 : decode cL_law 517 = .ok (.aload_n 1, 1) := by decide +kernel
theorem dL_law_518 : decode cL_law 518 = .ok (.invokevirtual 132, 3) := by decide +kernel
theorem dL_law_521 : decode cL_law 521 = .ok (.pop, 1) := by decide +kernel
theorem dL_law_522 : decode cL_law 522 = .ok (.aload_n 2, 1) := by decide +kernel
theorem dL_law_523 : decode cL_law 523 = .ok (.invokevirtual 135, 3) := by decide +kernel
theorem dL_law_526 : decode cL_law 526 = .ok (.pop, 1) := by decide +kernel
theorem dL_law_527 : decode cL_law 527 = .ok (.goto 458, 3) := by decide +kernel
theorem dL_law_530 : decode cL_law 530 = .ok (.aload_n 1, 1) := by decide +kernel
theorem dL_law_531 : decode cL_law 531 = .ok (.aload_n 0, 1) := by decide +kernel
theorem dL_law_532 : decode cL_law 532 = .ok (.iload 4, 2) := by decide +kernel
theorem dL_law_534 : decode cL_law 534 = .ok (.iconst 1, 1) := by decide +kernel
theorem dL_law_535 : decode cL_law 535 = .ok (.iadd, 1) := by decide +kernel
theorem dL_law_536 : decode cL_law 536 = .ok (.iaload, 1) := by decide +kernel
theorem dL_law_537 : decode cL_law 537 = .ok (.aload_n 0, 1) := by decide +kernel
theorem dL_law_538 : decode cL_law 538 = .ok (.iload 4, 2) := by decide +kernel
theorem dL_law_540 : decode cL_law 540 = .ok (.iconst 2, 1) := by decide +kernel
theorem dL_law_541 : decode cL_law 541 = .ok (.iadd, 1) := by decide +kernel
theorem dL_law_542 : decode cL_law 542 = .ok (.iaload, 1) := by decide +kernel
theorem dL_law_543 : decode cL_law 543 = .ok (.aload_n 0, 1) := by decide +kernel
theorem dL_law_544 : decode cL_law 544 = .ok (.iload 4, 2) := by decide +kernel
theorem dL_law_546 : decode cL_law 546 = .ok (.iconst 3, 1) := by decide +kernel
theorem dL_law_547 : decode cL_law 547 = .ok (.iadd, 1) := by decide +kernel
theorem dL_law_548 : decode cL_law 548 = .ok (.iaload, 1) := by decide +kernel
theorem dL_law_549 : decode cL_law 549 = .ok (.aload_n 3, 1) := by decide +kernel
theorem dL_law_550 : decode cL_law 550 = .ok (.invokestatic 136, 3) := by decide +kernel
theorem dL_law_553 : decode cL_law 553 = .ok (.istore 5, 2) := by decide +kernel
theorem dL_law_555 : decode cL_law 555 = .ok (.aload_n 2, 1) := by decide +kernel
theorem dL_law_556 : decode cL_law 556 = .ok (.aload_n 0, 1) := by decide +kernel
theorem dL_law_557 : decode cL_law 557 = .ok (.iload 4, 2) := by decide +kernel
theorem dL_law_559 : decode cL_law 559 = .ok (.iconst 1, 1) := by decide +kernel
theorem dL_law_560 : decode cL_law 560 = .ok (.iadd, 1) := by decide +kernel
theorem dL_law_561 : decode cL_law 561 = .ok (.iaload, 1) := by decide +kernel
theorem dL_law_562 : decode cL_law 562 = .ok (.aload_n 0, 1) := by decide +kernel
theorem dL_law_563 : decode cL_law 563 = .ok (.iload 4, 2) := by decide +kernel
theorem dL_law_565 : decode cL_law 565 = .ok (.iconst 2, 1) := by decide +kernel
theorem dL_law_566 : decode cL_law 566 = .ok (.iadd, 1) := by decide +kernel
theorem dL_law_567 : decode cL_law 567 = .ok (.iaload, 1) := by decide +kernel
theorem dL_law_568 : decode cL_law 568 = .ok (.aload_n 0, 1) := by decide +kernel
theorem dL_law_569 : decode cL_law 569 = .ok (.iload 4, 2) := by decide +kernel
theorem dL_law_571 : decode cL_law 571 = .ok (.iconst 3, 1) := by decide +kernel
theorem dL_law_572 : decode cL_law 572 = .ok (.iadd, 1) := by decide +kernel
theorem dL_law_573 : decode cL_law 573 = .ok (.iaload, 1) := by decide +kernel
theorem dL_law_574 : decode cL_law 574 = .ok (.invokevirtual 138, 3) := by decide +kernel
theorem dL_law_577 : decode cL_law 577 = .ok (.istore 6, 2) := by decide +kernel
theorem dL_law_579 : decode cL_law 579 = .ok (.goto 406, 3) := by decide +kernel
theorem dL_law_582 : decode cL_law 582 = .ok (.aload_n 1, 1) := by decide +kernel
theorem dL_law_583 : decode cL_law 583 = .ok (.aload_n 0, 1) := by decide +kernel
theorem dL_law_584 : decode cL_law 584 = .ok (.iload 4, 2) := by decide +kernel
theorem dL_law_586 : decode cL_law 586 = .ok (.iconst 1, 1) := by decide +kernel
theorem dL_law_587 : decode cL_law 587 = .ok (.iadd, 1) := by decide +kernel
theorem dL_law_588 : decode cL_law 588 = .ok (.iaload, 1) := by decide +kernel
theorem dL_law_589 : decode cL_law 589 = .ok (.aload_n 0, 1) := by decide +kernel
theorem dL_law_590 : decode cL_law 590 = .ok (.iload 4, 2) := by decide +kernel
theorem dL_law_592 : decode cL_law 592 = .ok (.iconst 2, 1) := by decide +kernel
theorem dL_law_593 : decode cL_law 593 = .ok (.iadd, 1) := by decide +kernel
theorem dL_law_594 : decode cL_law 594 = .ok (.iaload, 1) := by decide +kernel
theorem dL_law_595 : decode cL_law 595 = .ok (.aload_n 3, 1) := by decide +kernel
theorem dL_law_596 : decode cL_law 596 = .ok (.invokestatic 139, 3) := by decide +kernel
theorem dL_law_599 : decode cL_law 599 = .ok (.istore 5, 2) := by decide +kernel
theorem dL_law_601 : decode cL_law 601 = .ok (.aload_n 2, 1) := by decide +kernel
theorem dL_law_602 : decode cL_law 602 = .ok (.aload_n 0, 1) := by decide +kernel
theorem dL_law_603 : decode cL_law 603 = .ok (.iload 4, 2) := by decide +kernel
theorem dL_law_605 : decode cL_law 605 = .ok (.iconst 1, 1) := by decide +kernel
theorem dL_law_606 : decode cL_law 606 = .ok (.iadd, 1) := by decide +kernel
theorem dL_law_607 : decode cL_law 607 = .ok (.iaload, 1) := by decide +kernel
theorem dL_law_608 : decode cL_law 608 = .ok (.aload_n 0, 1) := by decide +kernel
theorem dL_law_609 : decode cL_law 609 = .ok (.iload 4, 2) := by decide +kernel
theorem dL_law_611 : decode cL_law 611 = .ok (.iconst 2, 1) := by decide +kernel
theorem dL_law_612 : decode cL_law 612 = .ok (.iadd, 1) := by decide +kernel
theorem dL_law_613 : decode cL_law 613 = .ok (.iaload, 1) := by decide +kernel
theorem dL_law_614 : decode cL_law 614 = .ok (.invokevirtual 141, 3) := by decide +kernel
theorem dL_law_617 : decode cL_law 617 = .ok (.istore 6, 2) := by decide +kernel
theorem dL_law_619 : decode cL_law 619 = .ok (.goto 366, 3) := by decide +kernel
theorem dL_law_622 : decode cL_law 622 = .ok (.aload_n 1, 1) := by decide +kernel
theorem dL_law_623 : decode cL_law 623 = .ok (.aload_n 0, 1) := by decide +kernel
theorem dL_law_624 : decode cL_law 624 = .ok (.iload 4, 2) := by decide +kernel
theorem dL_law_626 : decode cL_law 626 = .ok (.iconst 1, 1) := by decide +kernel
theorem dL_law_627 : decode cL_law 627 = .ok (.iadd, 1) := by decide +kernel
theorem dL_law_628 : decode cL_law 628 = .ok (.iaload, 1) := by decide +kernel
theorem dL_law_629 : decode cL_law 629 = .ok (.aload_n 0, 1) := by decide +kernel
theorem dL_law_630 : decode cL_law 630 = .ok (.iload 4, 2) := by decide +kernel
theorem dL_law_632 : decode cL_law 632 = .ok (.iconst 2, 1) := by decide +kernel
theorem dL_law_633 : decode cL_law 633 = .ok (.iadd, 1) := by decide +kernel
theorem dL_law_634 : decode cL_law 634 = .ok (.iaload, 1) := by decide +kernel
theorem dL_law_635 : decode cL_law 635 = .ok (.aload_n 3, 1) := by decide +kernel
theorem dL_law_636 : decode cL_law 636 = .ok (.invokestatic 142, 3) := by decide +kernel
theorem dL_law_639 : decode cL_law 639 = .ok (.istore 5, 2) := by decide +kernel
theorem dL_law_641 : decode cL_law 641 = .ok (.aload_n 2, 1) := by decide +kernel
theorem dL_law_642 : decode cL_law 642 = .ok (.aload_n 0, 1) := by decide +kernel
theorem dL_law_643 : decode cL_law 643 = .ok (.iload 4, 2) := by decide +kernel
theorem dL_law_645 : decode cL_law 645 = .ok (.iconst 1, 1) := by decide +kernel
theorem dL_law_646 : decode cL_law 646 = .ok (.iadd, 1) := by decide +kernel
theorem dL_law_647 : decode cL_law 647 = .ok (.iaload, 1) := by decide +kernel
theorem dL_law_648 : decode cL_law 648 = .ok (.aload_n 0, 1) := by decide +kernel
theorem dL_law_649 : decode cL_law 649 = .ok (.iload 4, 2) := by decide +kernel
theorem dL_law_651 : decode cL_law 651 = .ok (.iconst 2, 1) := by decide +kernel
theorem dL_law_652 : decode cL_law 652 = .ok (.iadd, 1) := by decide +kernel
theorem dL_law_653 : decode cL_law 653 = .ok (.iaload, 1) := by decide +kernel
theorem dL_law_654 : decode cL_law 654 = .ok (.invokevirtual 144, 3) := by decide +kernel
theorem dL_law_657 : decode cL_law 657 = .ok (.istore 6, 2) := by decide +kernel
theorem dL_law_659 : decode cL_law 659 = .ok (.goto 326, 3) := by decide +kernel
theorem dL_law_662 : decode cL_law 662 = .ok (.aload_n 1, 1) := by decide +kernel
theorem dL_law_663 : decode cL_law 663 = .ok (.aload_n 0, 1) := by decide +kernel
theorem dL_law_664 : decode cL_law 664 = .ok (.iload 4, 2) := by decide +kernel
theorem dL_law_666 : decode cL_law 666 = .ok (.iconst 1, 1) := by decide +kernel
theorem dL_law_667 : decode cL_law 667 = .ok (.iadd, 1) := by decide +kernel
theorem dL_law_668 : decode cL_law 668 = .ok (.iaload, 1) := by decide +kernel
theorem dL_law_669 : decode cL_law 669 = .ok (.aload_n 3, 1) := by decide +kernel
theorem dL_law_670 : decode cL_law 670 = .ok (.invokestatic 145, 3) := by decide +kernel
theorem dL_law_673 : decode cL_law 673 = .ok (.istore 5, 2) := by decide +kernel
theorem dL_law_675 : decode cL_law 675 = .ok (.aload_n 2, 1) := by decide +kernel
theorem dL_law_676 : decode cL_law 676 = .ok (.aload_n 0, 1) := by decide +kernel
theorem dL_law_677 : decode cL_law 677 = .ok (.iload 4, 2) := by decide +kernel
theorem dL_law_679 : decode cL_law 679 = .ok (.iconst 1, 1) := by decide +kernel
theorem dL_law_680 : decode cL_law 680 = .ok (.iadd, 1) := by decide +kernel
theorem dL_law_681 : decode cL_law 681 = .ok (.iaload, 1) := by decide +kernel
theorem dL_law_682 : decode cL_law 682 = .ok (.invokevirtual 147, 3) := by decide +kernel
theorem dL_law_685 : decode cL_law 685 = .ok (.istore 6, 2) := by decide +kernel
theorem dL_law_687 : decode cL_law 687 = .ok (.goto 298, 3) := by decide +kernel
theorem dL_law_690 : decode cL_law 690 = .ok (.aload_n 1, 1) := by decide +kernel
theorem dL_law_691 : decode cL_law 691 = .ok (.invokevirtual 148, 3) := by decide +kernel
theorem dL_law_694 : decode cL_law 694 = .ok (.pop, 1) := by decide +kernel
theorem dL_law_695 : decode cL_law 695 = .ok (.aload_n 2, 1) := by decide +kernel
theorem dL_law_696 : decode cL_law 696 = .ok (.invokevirtual 151, 3) := by decide +kernel
theorem dL_law_699 : decode cL_law 699 = .ok (.pop, 1) := by decide +kernel
theorem dL_law_700 : decode cL_law 700 = .ok (.goto 285, 3) := by decide +kernel
theorem dL_law_703 : decode cL_law 703 = .ok (.aload_n 1, 1) := by decide +kernel
theorem dL_law_704 : decode cL_law 704 = .ok (.aload_n 0, 1) := by decide +kernel
theorem dL_law_705 : decode cL_law 705 = .ok (.iload 4, 2) := by decide +kernel
theorem dL_law_707 : decode cL_law 707 = .ok (.iconst 1, 1) := by decide +kernel
theorem dL_law_708 : decode cL_law 708 = .ok (.iadd, 1) := by decide +kernel
theorem dL_law_709 : decode cL_law 709 = .ok (.iaload, 1) := by decide +kernel
theorem dL_law_710 : decode cL_law 710 = .ok (.aload_n 3, 1) := by decide +kernel
theorem dL_law_711 : decode cL_law 711 = .ok (.invokestatic 152, 3) := by decide +kernel
theorem dL_law_714 : decode cL_law 714 = .ok (.istore 5, 2) := by decide +kernel
theorem dL_law_716 : decode cL_law 716 = .ok (.aload_n 2, 1) := by decide +kernel
theorem dL_law_717 : decode cL_law 717 = .ok (.aload_n 0, 1) := by decide +kernel
theorem dL_law_718 : decode cL_law 718 = .ok (.iload 4, 2) := by decide +kernel
theorem dL_law_720 : decode cL_law 720 = .ok (.iconst 1, 1) := by decide +kernel
theorem dL_law_721 : decode cL_law 721 = .ok (.iadd, 1) := by decide +kernel
theorem dL_law_722 : decode cL_law 722 = .ok (.iaload, 1) := by decide +kernel
theorem dL_law_723 : decode cL_law 723 = .ok (.invokevirtual 154, 3) := by decide +kernel
theorem dL_law_726 : decode cL_law 726 = .ok (.astore 6, 2) := by decide +kernel
theorem dL_law_728 : decode cL_law 728 = .ok (.goto 257, 3) := by decide +kernel
theorem dL_law_731 : decode cL_law 731 = .ok (.aload_n 1, 1) := by decide +kernel
theorem dL_law_732 : decode cL_law 732 = .ok (.invokevirtual 155, 3) := by decide +kernel
theorem dL_law_735 : decode cL_law 735 = .ok (.dstore 5, 2) := by decide +kernel
theorem dL_law_737 : decode cL_law 737 = .ok (.aload_n 2, 1) := by decide +kernel
theorem dL_law_738 : decode cL_law 738 = .ok (.invokevirtual 159, 3) := by decide +kernel
theorem dL_law_741 : decode cL_law 741 = .ok (.dstore 7, 2) := by decide +kernel
theorem dL_law_743 : decode cL_law 743 = .ok (.goto 242, 3) := by decide +kernel
theorem dL_law_746 : decode cL_law 746 = .ok (.aload_n 1, 1) := by decide +kernel
theorem dL_law_747 : decode cL_law 747 = .ok (.aload_n 0, 1) := by decide +kernel
theorem dL_law_748 : decode cL_law 748 = .ok (.iload 4, 2) := by decide +kernel
theorem dL_law_750 : decode cL_law 750 = .ok (.iconst 1, 1) := by decide +kernel
theorem dL_law_751 : decode cL_law 751 = .ok (.iadd, 1) := by decide +kernel
theorem dL_law_752 : decode cL_law 752 = .ok (.iaload, 1) := by decide +kernel
theorem dL_law_753 : decode cL_law 753 = .ok (.aload_n 0, 1) := by decide +kernel
theorem dL_law_754 : decode cL_law 754 = .ok (.iload 4, 2) := by decide +kernel
theorem dL_law_756 : decode cL_law 756 = .ok (.iconst 2, 1) := by decide +kernel
theorem dL_law_757 : decode cL_law 757 = .ok (.iadd, 1) := by decide +kernel
theorem dL_law_758 : decode cL_law 758 = .ok (.iaload, 1) := by decide +kernel
theorem dL_law_759 : decode cL_law 759 = .ok (.aload_n 3, 1) := by decide +kernel
theorem dL_law_760 : decode cL_law 760 = .ok (.invokestatic 160, 3) := by decide +kernel
theorem dL_law_763 : decode cL_law 763 = .ok (.istore 5, 2) := by decide +kernel
theorem dL_law_765 : decode cL_law 765 = .ok (.aload_n 2, 1) := by decide +kernel
theorem dL_law_766 : decode cL_law 766 = .ok (.aload_n 0, 1) := by decide +kernel
theorem dL_law_767 : decode cL_law 767 = .ok (.iload 4, 2) := by decide +kernel
theorem dL_law_769 : decode cL_law 769 = .ok (.iconst 1, 1) := by decide +kernel
theorem dL_law_770 : decode cL_law 770 = .ok (.iadd, 1) := by decide +kernel
theorem dL_law_771 : decode cL_law 771 = .ok (.iaload, 1) := by decide +kernel
theorem dL_law_772 : decode cL_law 772 = .ok (.aload_n 0, 1) := by decide +kernel
theorem dL_law_773 : decode cL_law 773 = .ok (.iload 4, 2) := by decide +kernel
theorem dL_law_775 : decode cL_law 775 = .ok (.iconst 2, 1) := by decide +kernel
theorem dL_law_776 : decode cL_law 776 = .ok (.iadd, 1) := by decide +kernel
theorem dL_law_777 : decode cL_law 777 = .ok (.iaload, 1) := by decide +kernel
theorem dL_law_778 : decode cL_law 778 = .ok (.invokevirtual 162, 3) := by decide +kernel
theorem dL_law_781 : decode cL_law 781 = .ok (.istore 6, 2) := by decide +kernel
theorem dL_law_783 : decode cL_law 783 = .ok (.goto 202, 3) := by decide +kernel
theorem dL_law_786 : decode cL_law 786 = .ok (.aload_n 1, 1) := by decide +kernel
theorem dL_law_787 : decode cL_law 787 = .ok (.aload_n 0, 1) := by decide +kernel
theorem dL_law_788 : decode cL_law 788 = .ok (.iload 4, 2) := by decide +kernel
theorem dL_law_790 : decode cL_law 790 = .ok (.iconst 1, 1) := by decide +kernel
theorem dL_law_791 : decode cL_law 791 = .ok (.iadd, 1) := by decide +kernel
theorem dL_law_792 : decode cL_law 792 = .ok (.iaload, 1) := by decide +kernel
theorem dL_law_793 : decode cL_law 793 = .ok (.aload_n 0, 1) := by decide +kernel
theorem dL_law_794 : decode cL_law 794 = .ok (.iload 4, 2) := by decide +kernel
theorem dL_law_796 : decode cL_law 796 = .ok (.iconst 2, 1) := by decide +kernel
theorem dL_law_797 : decode cL_law 797 = .ok (.iadd, 1) := by decide +kernel
theorem dL_law_798 : decode cL_law 798 = .ok (.iaload, 1) := by decide +kernel
theorem dL_law_799 : decode cL_law 799 = .ok (.aload_n 0, 1) := by decide +kernel
theorem dL_law_800 : decode cL_law 800 = .ok (.iload 4, 2) := by decide +kernel
theorem dL_law_802 : decode cL_law 802 = .ok (.iconst 3, 1) := by decide +kernel
theorem dL_law_803 : decode cL_law 803 = .ok (.iadd, 1) := by decide +kernel
theorem dL_law_804 : decode cL_law 804 = .ok (.iaload, 1) := by decide +kernel
theorem dL_law_805 : decode cL_law 805 = .ok (.aload_n 3, 1) := by decide +kernel
theorem dL_law_806 : decode cL_law 806 = .ok (.invokestatic 163, 3) := by decide +kernel
theorem dL_law_809 : decode cL_law 809 = .ok (.istore 5, 2) := by decide +kernel
theorem dL_law_811 : decode cL_law 811 = .ok (.aload_n 2, 1) := by decide +kernel
theorem dL_law_812 : decode cL_law 812 = .ok (.aload_n 0, 1) := by decide +kernel
theorem dL_law_813 : decode cL_law 813 = .ok (.iload 4, 2) := by decide +kernel
theorem dL_law_815 : decode cL_law 815 = .ok (.iconst 1, 1) := by decide +kernel
theorem dL_law_816 : decode cL_law 816 = .ok (.iadd, 1) := by decide +kernel
theorem dL_law_817 : decode cL_law 817 = .ok (.iaload, 1) := by decide +kernel
theorem dL_law_818 : decode cL_law 818 = .ok (.aload_n 0, 1) := by decide +kernel
theorem dL_law_819 : decode cL_law 819 = .ok (.iload 4, 2) := by decide +kernel
theorem dL_law_821 : decode cL_law 821 = .ok (.iconst 2, 1) := by decide +kernel
theorem dL_law_822 : decode cL_law 822 = .ok (.iadd, 1) := by decide +kernel
theorem dL_law_823 : decode cL_law 823 = .ok (.iaload, 1) := by decide +kernel
theorem dL_law_824 : decode cL_law 824 = .ok (.aload_n 0, 1) := by decide +kernel
theorem dL_law_825 : decode cL_law 825 = .ok (.iload 4, 2) := by decide +kernel
theorem dL_law_827 : decode cL_law 827 = .ok (.iconst 3, 1) := by decide +kernel
theorem dL_law_828 : decode cL_law 828 = .ok (.iadd, 1) := by decide +kernel
theorem dL_law_829 : decode cL_law 829 = .ok (.iaload, 1) := by decide +kernel
theorem dL_law_830 : decode cL_law 830 = .ok (.invokevirtual 165, 3) := by decide +kernel
theorem dL_law_833 : decode cL_law 833 = .ok (.istore 6, 2) := by decide +kernel
theorem dL_law_835 : decode cL_law 835 = .ok (.goto 150, 3) := by decide +kernel
theorem dL_law_838 : decode cL_law 838 = .ok (.aload_n 1, 1) := by decide +kernel
theorem dL_law_839 : decode cL_law 839 = .ok (.aload_n 0, 1) := by decide +kernel
theorem dL_law_840 : decode cL_law 840 = .ok (.iload 4, 2) := by decide +kernel
theorem dL_law_842 : decode cL_law 842 = .ok (.iconst 1, 1) := by decide +kernel
theorem dL_law_843 : decode cL_law 843 = .ok (.iadd, 1) := by decide +kernel
theorem dL_law_844 : decode cL_law 844 = .ok (.iaload, 1) := by decide +kernel
theorem dL_law_845 : decode cL_law 845 = .ok (.aload_n 0, 1) := by decide +kernel
theorem dL_law_846 : decode cL_law 846 = .ok (.iload 4, 2) := by decide +kernel
theorem dL_law_848 : decode cL_law 848 = .ok (.iconst 2, 1) := by decide +kernel
theorem dL_law_849 : decode cL_law 849 = .ok (.iadd, 1) := by decide +kernel
theorem dL_law_850 : decode cL_law 850 = .ok (.iaload, 1) := by decide +kernel
theorem dL_law_851 : decode cL_law 851 = .ok (.aload_n 0, 1) := by decide +kernel
theorem dL_law_852 : decode cL_law 852 = .ok (.iload 4, 2) := by decide +kernel
theorem dL_law_854 : decode cL_law 854 = .ok (.iconst 3, 1) := by decide +kernel
theorem dL_law_855 : decode cL_law 855 = .ok (.iadd, 1) := by decide +kernel
theorem dL_law_856 : decode cL_law 856 = .ok (.iaload, 1) := by decide +kernel
theorem dL_law_857 : decode cL_law 857 = .ok (.aload_n 0, 1) := by decide +kernel
theorem dL_law_858 : decode cL_law 858 = .ok (.iload 4, 2) := by decide +kernel
theorem dL_law_860 : decode cL_law 860 = .ok (.iconst 4, 1) := by decide +kernel
theorem dL_law_861 : decode cL_law 861 = .ok (.iadd, 1) := by decide +kernel
theorem dL_law_862 : decode cL_law 862 = .ok (.iaload, 1) := by decide +kernel
theorem dL_law_863 : decode cL_law 863 = .ok (.aload_n 3, 1) := by decide +kernel
theorem dL_law_864 : decode cL_law 864 = .ok (.invokestatic 166, 3) := by decide +kernel
theorem dL_law_867 : decode cL_law 867 = .ok (.istore 5, 2) := by decide +kernel
theorem dL_law_869 : decode cL_law 869 = .ok (.aload_n 2, 1) := by decide +kernel
theorem dL_law_870 : decode cL_law 870 = .ok (.aload_n 0, 1) := by decide +kernel
theorem dL_law_871 : decode cL_law 871 = .ok (.iload 4, 2) := by decide +kernel
theorem dL_law_873 : decode cL_law 873 = .ok (.iconst 1, 1) := by decide +kernel
theorem dL_law_874 : decode cL_law 874 = .ok (.iadd, 1) := by decide +kernel
theorem dL_law_875 : decode cL_law 875 = .ok (.iaload, 1) := by decide +kernel
theorem dL_law_876 : decode cL_law 876 = .ok (.aload_n 0, 1) := by decide +kernel
theorem dL_law_877 : decode cL_law 877 = .ok (.iload 4, 2) := by decide +kernel
theorem dL_law_879 : decode cL_law 879 = .ok (.iconst 2, 1) := by decide +kernel
theorem dL_law_880 : decode cL_law 880 = .ok (.iadd, 1) := by decide +kernel
theorem dL_law_881 : decode cL_law 881 = .ok (.iaload, 1) := by decide +kernel
theorem dL_law_882 : decode cL_law 882 = .ok (.aload_n 0, 1) := by decide +kernel
theorem dL_law_883 : decode cL_law 883 = .ok (.iload 4, 2) := by decide +kernel
theorem dL_law_885 : decode cL_law 885 = .ok (.iconst 3, 1) := by decide +kernel
theorem dL_law_886 : decode cL_law 886 = .ok (.iadd, 1) := by decide +kernel
theorem dL_law_887 : decode cL_law 887 = .ok (.iaload, 1) := by decide +kernel
theorem dL_law_888 : decode cL_law 888 = .ok (.aload_n 0, 1) := by decide +kernel
theorem dL_law_889 : decode cL_law 889 = .ok (.iload 4, 2) := by decide +kernel
theorem dL_law_891 : decode cL_law 891 = .ok (.iconst 4, 1) := by decide +kernel
theorem dL_law_892 : decode cL_law 892 = .ok (.iadd, 1) := by decide +kernel
theorem dL_law_893 : decode cL_law 893 = .ok (.iaload, 1) := by decide +kernel
theorem dL_law_894 : decode cL_law 894 = .ok (.invokevirtual 168, 3) := by decide +kernel
theorem dL_law_897 : decode cL_law 897 = .ok (.istore 6, 2) := by decide +kernel
theorem dL_law_899 : decode cL_law 899 = .ok (.goto 86, 3) := by decide +kernel
theorem dL_law_902 : decode cL_law 902 = .ok (.aload_n 1, 1) := by decide +kernel
theorem dL_law_903 : decode cL_law 903 = .ok (.aload_n 0, 1) := by decide +kernel
theorem dL_law_904 : decode cL_law 904 = .ok (.iload 4, 2) := by decide +kernel
theorem dL_law_906 : decode cL_law 906 = .ok (.iconst 1, 1) := by decide +kernel
theorem dL_law_907 : decode cL_law 907 = .ok (.iadd, 1) := by decide +kernel
theorem dL_law_908 : decode cL_law 908 = .ok (.iaload, 1) := by decide +kernel
theorem dL_law_909 : decode cL_law 909 = .ok (.aload_n 3, 1) := by decide +kernel
theorem dL_law_910 : decode cL_law 910 = .ok (.invokestatic 169, 3) := by decide +kernel
theorem dL_law_913 : decode cL_law 913 = .ok (.istore 5, 2) := by decide +kernel
theorem dL_law_915 : decode cL_law 915 = .ok (.aload_n 2, 1) := by decide +kernel
theorem dL_law_916 : decode cL_law 916 = .ok (.aload_n 0, 1) := by decide +kernel
theorem dL_law_917 : decode cL_law 917 = .ok (.iload 4, 2) := by decide +kernel
theorem dL_law_919 : decode cL_law 919 = .ok (.iconst 1, 1) := by decide +kernel
theorem dL_law_920 : decode cL_law 920 = .ok (.iadd, 1) := by decide +kernel
theorem dL_law_921 : decode cL_law 921 = .ok (.iaload, 1) := by decide +kernel
theorem dL_law_922 : decode cL_law 922 = .ok (.invokevirtual 171, 3) := by decide +kernel
theorem dL_law_925 : decode cL_law 925 = .ok (.istore 6, 2) := by decide +kernel
theorem dL_law_927 : decode cL_law 927 = .ok (.goto 58, 3) := by decide +kernel
theorem dL_law_930 : decode cL_law 930 = .ok (.aload_n 1, 1) := by decide +kernel
theorem dL_law_931 : decode cL_law 931 = .ok (.aload_n 0, 1) := by decide +kernel
theorem dL_law_932 : decode cL_law 932 = .ok (.iload 4, 2) := by decide +kernel
theorem dL_law_934 : decode cL_law 934 = .ok (.iconst 1, 1) := by decide +kernel
theorem dL_law_935 : decode cL_law 935 = .ok (.iadd, 1) := by decide +kernel
theorem dL_law_936 : decode cL_law 936 = .ok (.iaload, 1) := by decide +kernel
theorem dL_law_937 : decode cL_law 937 = .ok (.aload_n 3, 1) := by decide +kernel
theorem dL_law_938 : decode cL_law 938 = .ok (.invokestatic 172, 3) := by decide +kernel
theorem dL_law_941 : decode cL_law 941 = .ok (.istore 5, 2) := by decide +kernel
theorem dL_law_943 : decode cL_law 943 = .ok (.aload_n 2, 1) := by decide +kernel
theorem dL_law_944 : decode cL_law 944 = .ok (.aload_n 0, 1) := by decide +kernel
theorem dL_law_945 : decode cL_law 945 = .ok (.iload 4, 2) := by decide +kernel
theorem dL_law_947 : decode cL_law 947 = .ok (.iconst 1, 1) := by decide +kernel
theorem dL_law_948 : decode cL_law 948 = .ok (.iadd, 1) := by decide +kernel
theorem dL_law_949 : decode cL_law 949 = .ok (.iaload, 1) := by decide +kernel
theorem dL_law_950 : decode cL_law 950 = .ok (.invokevirtual 174, 3) := by decide +kernel
theorem dL_law_953 : decode cL_law 953 = .ok (.istore 6, 2) := by decide +kernel
theorem dL_law_955 : decode cL_law 955 = .ok (.goto 30, 3) := by decide +kernel
theorem dL_law_958 : decode cL_law 958 = .ok (.aload_n 1, 1) := by decide +kernel
theorem dL_law_959 : decode cL_law 959 = .ok (.invokevirtual 175, 3) := by decide +kernel
theorem dL_law_962 : decode cL_law 962 = .ok (.pop, 1) := by decide +kernel
theorem dL_law_963 : decode cL_law 963 = .ok (.aload_n 2, 1) := by decide +kernel
theorem dL_law_964 : decode cL_law 964 = .ok (.invokevirtual 179, 3) := by decide +kernel
theorem dL_law_967 : decode cL_law 967 = .ok (.pop, 1) := by decide +kernel
theorem dL_law_968 : decode cL_law 968 = .ok (.goto 17, 3) := by decide +kernel
theorem dL_law_971 : decode cL_law 971 = .ok (.aload_n 1, 1) := by decide +kernel
theorem dL_law_972 : decode cL_law 972 = .ok (.invokevirtual 180, 3) := by decide +kernel
theorem dL_law_975 : decode cL_law 975 = .ok (.aload_n 2, 1) := by decide +kernel
theorem dL_law_976 : decode cL_law 976 = .ok (.invokevirtual 184, 3) := by decide +kernel
theorem dL_law_979 : decode cL_law 979 = .ok (.lcmp, 1) := by decide +kernel
theorem dL_law_980 : decode cL_law 980 = .ok (.ifCond .eq 5, 3) := by decide +kernel
theorem dL_law_983 : decode cL_law 983 = .ok (.iconst 0, 1) := by decide +kernel
theorem dL_law_984 : decode cL_law 984 = .ok (.ireturn, 1) := by decide +kernel
theorem dL_law_985 : decode cL_law 985 = .ok (.iinc 4 5, 3) := by decide +kernel
theorem dL_law_988 : decode cL_law 988 = .ok (.goto (-961), 3) := by decide +kernel
theorem dL_law_991 : decode cL_law 991 = .ok (.iconst 1, 1) := by decide +kernel
theorem dL_law_992 : decode cL_law 992 = .ok (.ireturn, 1) := by decide +kernel
section ZC
variable {p9 : Program} {l : Launch} {e9 : Env} {s : State} {m9 : MethodId} {ar : Array Value} {bw : List Frame} {me : Method} {cd : Code} {H : Heap} {cells slots : Nat} {Q : State → Prop} {ls : Array Slot} {G : zG} {σ : St} {a b : Nat → Nat} {th m1 m2 : Int32} {o : Nat} {n0 : Int64} {sv : Value} {b0 L : Nat} {xs : Nat → Int32} {ix : Int}
theorem q2_86 : (Jvm.Cond.methodLink "CyclepaintLaw" (94 : Nat) ({ cls := "CyclepaintLaw", name := "colour", desc := "(LCyclepaint;IILCyclepaintLaw$Out;)I" } : Jvm.MethodName)) ∈ lw_g := zg_of (zin2 (List.mem_of_getElem? (i := 86) rfl)) rfl
theorem q5_11 : (Jvm.Cond.methodLink "CyclepaintLaw" (99 : Nat) ({ cls := "CyclepaintModel", name := "colour", desc := "(II)I" } : Jvm.MethodName)) ∈ lw_g := zg_of (zin5 (List.mem_of_getElem? (i := 11) rfl)) rfl
set_option maxHeartbeats 4000000 in
set_option maxRecDepth 100000 in
theorem lw_colour_0 (Z : zLaw p9 l s m9 cd ar G b0 L xs) (hS : va_S (fun q => s.heap.size ≤ q) s.heap H []) (I : zInv G σ a σ b th m1 m2 o n0 sv H) (hl : lv_has ls 9 [(0, .ref (b0)), (1, .ref (a 0)), (2, .ref (b 0)), (3, .ref (o)), (4, .int (zI (ix)))]) (hix : 0 ≤ ix ∧ ix + 4 < L) (hcs : cells + 1000 ≤ room_1.cells ∧ slots + 10000 ≤ room_1.slots) (kk : zKK p9 l e9 s m9 ar bw me cd Q G b0 o ix (a 0) (b 0) cells slots) (e x : Int) (re : rg e) (rx : rg x) (x1 : xs (ix + 1).toNat = zI e) (x2 : xs (ix + 2).toNat = zI x) (he : 0 ≤ e ∧ e ≤ 15) (hx : 0 ≤ x ∧ x ≤ 63) : W p9 l e9 room_1 s m9 ar bw me cd H [] cells slots Q (F0 m9 156 ls []) := by
  obtain ⟨S, hl0, hG, hX, hb, hL, h9⟩ := Z
  have kC : okC σ := I.C.2.2.2.2.2
  have kR : okR σ := I.M.2.2.2.2.2.2.2.2.2
  refine z_aload_n S dL_law_156 hl 1 rfl rfl ?_
  refine z_aload_n S dL_law_157 hl 0 rfl rfl ?_
  refine z_iload S dL_law_158 hl 4 rfl ?_
  refine z_iconst S dL_law_160 ?_
  refine z_iadd S dL_law_161 ?_
  refine z_sld S hX hb hS (i := ix + 1) (by omega) hL x1 dL_law_162 ?_
  refine z_aload_n S dL_law_163 hl 0 rfl rfl ?_
  refine z_iload S dL_law_164 hl 4 rfl ?_
  refine z_iconst S dL_law_166 ?_
  refine z_iadd S dL_law_167 ?_
  refine z_sld S hX hb hS (i := ix + 2) (by omega) hL x2 dL_law_168 ?_
  refine z_aload_n S dL_law_169 hl 3 rfl rfl ?_
  refine z_callH S hG hS (w_colour_0 l hl0 G σ a o n0 sv I.iC I.ao e x he hx) (zA_co h9 I) okL_colour q2_86 (⟨I.C, I.O⟩) ⟨rfl, rfl, by decide, by decide⟩ ⟨(by have := hcs.1; omega), (by have := hcs.2; omega)⟩ rfl (Nat.le_of_ble_eq_true rfl) hl.1 rfl dL_law_170 (fun H_1 L_1 hB hz oq hS => ?_)
  refine z_fresh hS (fun hS => ?_)
  have I := I.stepO oq hB rfl
  refine z_istore (lv' := [(5, .int (zI (0))), (0, .ref (b0)), (1, .ref (a 0)), (2, .ref (b 0)), (3, .ref (o)), (4, .int (zI (ix)))]) S dL_law_173 hl (by decide) rfl (fun ls hl => ?_)
  refine z_aload_n S dL_law_175 hl 3 rfl rfl ?_
  refine z_aload_n S dL_law_176 hl 1 rfl rfl ?_
  refine z_iload S dL_law_177 hl 5 rfl ?_
  refine z_iconst S dL_law_179 ?_
  refine z_iadd S dL_law_180 ?_
  refine z_sld S hX hb hS (i := ix + 1) (by omega) hL x1 dL_law_181 ?_
  refine z_aload_n S dL_law_182 hl 1 rfl rfl ?_
  refine z_iload S dL_law_183 hl 5 rfl ?_
  refine z_iconst S dL_law_185 ?_
  refine z_iadd S dL_law_186 ?_
  refine z_sld S hX hb hS (i := ix + 2) (by omega) hL x2 dL_law_187 ?_
  have ht : (0 : Int) = ec (!(decide (0 ≤ e) && decide (e ≤ 15))) (!(decide (0 ≤ x) && decide (x ≤ 63))) := (ec_0 (by first | rfl | (simp only [Bool.not_eq_true', Bool.and_eq_true, Bool.or_eq_true, Bool.and_eq_false_iff, Bool.or_eq_false_iff, Bool.not_eq_false', decide_eq_true_eq, decide_eq_false_iff_not]; omega)) (by first | rfl | (simp only [Bool.not_eq_true', Bool.and_eq_true, Bool.or_eq_true, Bool.and_eq_false_iff, Bool.or_eq_false_iff, Bool.not_eq_false', decide_eq_true_eq, decide_eq_false_iff_not]; omega))).symm
  refine z_callM S hG hS (c_X4_colour l G σ b th m1 m2 I.iM kR e x re rx 0 ht) (zA_m h9 I) ok_X4_colour I.M.1 zc_X4 rfl q5_11 (I.M) ⟨rfl, rfl, by decide, by decide⟩ ⟨(by have := hcs.1; omega), (by have := hcs.2; omega)⟩ rfl (Nat.le_of_ble_eq_true rfl) hl.1 rfl dL_law_188 (fun H_2 L_2 hB hz oq hS => ?_)
  refine z_fresh hS (fun hS => ?_)
  have I := I.stepN (τ' := (σ.wB (up σ.B e (zI x)))) oq (fun q hq z => z) hB rfl rfl
  refine z_istore (lv' := [(6, .int (_)), (5, .int (zI (0))), (0, .ref (b0)), (1, .ref (a 0)), (2, .ref (b 0)), (3, .ref (o)), (4, .int (zI (ix)))]) S dL_law_191 hl (by decide) rfl (fun ls hl => ?_)
  refine z_goto S 985 dL_law_193 (by decide) ?_
  refine W.widen (k := cells + 1000) (n := slots + 10000) (by omega) (by omega) ?_
  exact kk _ _ _ _ _ _ _ _ _ _ hS I (rfl) (rfl) (lv_sub hl [2, 3, 4, 5, 6] rfl)
set_option maxHeartbeats 4000000 in
set_option maxRecDepth 100000 in
theorem lw_colour_1 (Z : zLaw p9 l s m9 cd ar G b0 L xs) (hS : va_S (fun q => s.heap.size ≤ q) s.heap H []) (I : zInv G σ a σ b th m1 m2 o n0 sv H) (hl : lv_has ls 9 [(0, .ref (b0)), (1, .ref (a 0)), (2, .ref (b 0)), (3, .ref (o)), (4, .int (zI (ix)))]) (hix : 0 ≤ ix ∧ ix + 4 < L) (hcs : cells + 1000 ≤ room_1.cells ∧ slots + 10000 ≤ room_1.slots) (kk : zKK p9 l e9 s m9 ar bw me cd Q G b0 o ix (a 0) (b 0) cells slots) (e x : Int) (re : rg e) (rx : rg x) (x1 : xs (ix + 1).toNat = zI e) (x2 : xs (ix + 2).toNat = zI x) (h1 : ¬ (0 ≤ e ∧ e ≤ 15)) : W p9 l e9 room_1 s m9 ar bw me cd H [] cells slots Q (F0 m9 156 ls []) := by
  obtain ⟨S, hl0, hG, hX, hb, hL, h9⟩ := Z
  have kC : okC σ := I.C.2.2.2.2.2
  have kR : okR σ := I.M.2.2.2.2.2.2.2.2.2
  refine z_aload_n S dL_law_156 hl 1 rfl rfl ?_
  refine z_aload_n S dL_law_157 hl 0 rfl rfl ?_
  refine z_iload S dL_law_158 hl 4 rfl ?_
  refine z_iconst S dL_law_160 ?_
  refine z_iadd S dL_law_161 ?_
  refine z_sld S hX hb hS (i := ix + 1) (by omega) hL x1 dL_law_162 ?_
  refine z_aload_n S dL_law_163 hl 0 rfl rfl ?_
  refine z_iload S dL_law_164 hl 4 rfl ?_
  refine z_iconst S dL_law_166 ?_
  refine z_iadd S dL_law_167 ?_
  refine z_sld S hX hb hS (i := ix + 2) (by omega) hL x2 dL_law_168 ?_
  refine z_aload_n S dL_law_169 hl 3 rfl rfl ?_
  refine z_callH S hG hS (w_colour_1 l hl0 G σ a o n0 sv e x re rx h1) (fun _ z => z.elim) okL_colour q2_86 (⟨I.C, I.xp⟩) ⟨rfl, rfl, by decide, by decide⟩ ⟨(by have := hcs.1; omega), (by have := hcs.2; omega)⟩ rfl (Nat.le_of_ble_eq_true rfl) hl.1 rfl dL_law_170 (fun H_1 L_1 hB hz oq hS => ?_)
  refine z_fresh hS (fun hS => ?_)
  have I := I.step0 oq
  refine z_istore (lv' := [(5, .int (zI (1))), (0, .ref (b0)), (1, .ref (a 0)), (2, .ref (b 0)), (3, .ref (o)), (4, .int (zI (ix)))]) S dL_law_173 hl (by decide) rfl (fun ls hl => ?_)
  refine z_aload_n S dL_law_175 hl 3 rfl rfl ?_
  refine z_aload_n S dL_law_176 hl 1 rfl rfl ?_
  refine z_iload S dL_law_177 hl 5 rfl ?_
  refine z_iconst S dL_law_179 ?_
  refine z_iadd S dL_law_180 ?_
  refine z_sld S hX hb hS (i := ix + 1) (by omega) hL x1 dL_law_181 ?_
  refine z_aload_n S dL_law_182 hl 1 rfl rfl ?_
  refine z_iload S dL_law_183 hl 5 rfl ?_
  refine z_iconst S dL_law_185 ?_
  refine z_iadd S dL_law_186 ?_
  refine z_sld S hX hb hS (i := ix + 2) (by omega) hL x2 dL_law_187 ?_
  have ht : (1 : Int) = ec (!(decide (0 ≤ e) && decide (e ≤ 15))) (!(decide (0 ≤ x) && decide (x ≤ 63))) := (ec_1 (by first | rfl | (simp only [Bool.not_eq_true', Bool.and_eq_true, Bool.or_eq_true, Bool.and_eq_false_iff, Bool.or_eq_false_iff, Bool.not_eq_false', decide_eq_true_eq, decide_eq_false_iff_not]; omega))).symm
  refine z_callM S hG hS (c_X4_colour l G σ b th m1 m2 I.iM kR e x re rx 1 ht) (zA_m h9 I) ok_X4_colour I.M.1 zc_X4 rfl q5_11 (I.M) ⟨rfl, rfl, by decide, by decide⟩ ⟨(by have := hcs.1; omega), (by have := hcs.2; omega)⟩ rfl (Nat.le_of_ble_eq_true rfl) hl.1 rfl dL_law_188 (fun H_2 L_2 hB hz oq hS => ?_)
  refine z_fresh hS (fun hS => ?_)
  have I := I.stepN (τ' := σ) oq (fun q hq z => z) hB rfl rfl
  refine z_istore (lv' := [(6, .int (_)), (5, .int (zI (1))), (0, .ref (b0)), (1, .ref (a 0)), (2, .ref (b 0)), (3, .ref (o)), (4, .int (zI (ix)))]) S dL_law_191 hl (by decide) rfl (fun ls hl => ?_)
  refine z_goto S 985 dL_law_193 (by decide) ?_
  refine W.widen (k := cells + 1000) (n := slots + 10000) (by omega) (by omega) ?_
  exact kk _ _ _ _ _ _ _ _ _ _ hS I (rfl) (rfl) (lv_sub hl [2, 3, 4, 5, 6] rfl)
set_option maxHeartbeats 4000000 in
set_option maxRecDepth 100000 in
theorem lw_colour_2 (Z : zLaw p9 l s m9 cd ar G b0 L xs) (hS : va_S (fun q => s.heap.size ≤ q) s.heap H []) (I : zInv G σ a σ b th m1 m2 o n0 sv H) (hl : lv_has ls 9 [(0, .ref (b0)), (1, .ref (a 0)), (2, .ref (b 0)), (3, .ref (o)), (4, .int (zI (ix)))]) (hix : 0 ≤ ix ∧ ix + 4 < L) (hcs : cells + 1000 ≤ room_1.cells ∧ slots + 10000 ≤ room_1.slots) (kk : zKK p9 l e9 s m9 ar bw me cd Q G b0 o ix (a 0) (b 0) cells slots) (e x : Int) (re : rg e) (rx : rg x) (x1 : xs (ix + 1).toNat = zI e) (x2 : xs (ix + 2).toNat = zI x) (h1 : (0 ≤ e ∧ e ≤ 15)) (h2 : ¬ (0 ≤ x ∧ x ≤ 63)) : W p9 l e9 room_1 s m9 ar bw me cd H [] cells slots Q (F0 m9 156 ls []) := by
  obtain ⟨S, hl0, hG, hX, hb, hL, h9⟩ := Z
  have kC : okC σ := I.C.2.2.2.2.2
  have kR : okR σ := I.M.2.2.2.2.2.2.2.2.2
  refine z_aload_n S dL_law_156 hl 1 rfl rfl ?_
  refine z_aload_n S dL_law_157 hl 0 rfl rfl ?_
  refine z_iload S dL_law_158 hl 4 rfl ?_
  refine z_iconst S dL_law_160 ?_
  refine z_iadd S dL_law_161 ?_
  refine z_sld S hX hb hS (i := ix + 1) (by omega) hL x1 dL_law_162 ?_
  refine z_aload_n S dL_law_163 hl 0 rfl rfl ?_
  refine z_iload S dL_law_164 hl 4 rfl ?_
  refine z_iconst S dL_law_166 ?_
  refine z_iadd S dL_law_167 ?_
  refine z_sld S hX hb hS (i := ix + 2) (by omega) hL x2 dL_law_168 ?_
  refine z_aload_n S dL_law_169 hl 3 rfl rfl ?_
  refine z_callH S hG hS (w_colour_2 l hl0 G σ a o n0 sv e x re rx h1 h2) (fun _ z => z.elim) okL_colour q2_86 (⟨I.C, I.xp⟩) ⟨rfl, rfl, by decide, by decide⟩ ⟨(by have := hcs.1; omega), (by have := hcs.2; omega)⟩ rfl (Nat.le_of_ble_eq_true rfl) hl.1 rfl dL_law_170 (fun H_1 L_1 hB hz oq hS => ?_)
  refine z_fresh hS (fun hS => ?_)
  have I := I.step0 oq
  refine z_istore (lv' := [(5, .int (zI (2))), (0, .ref (b0)), (1, .ref (a 0)), (2, .ref (b 0)), (3, .ref (o)), (4, .int (zI (ix)))]) S dL_law_173 hl (by decide) rfl (fun ls hl => ?_)
  refine z_aload_n S dL_law_175 hl 3 rfl rfl ?_
  refine z_aload_n S dL_law_176 hl 1 rfl rfl ?_
  refine z_iload S dL_law_177 hl 5 rfl ?_
  refine z_iconst S dL_law_179 ?_
  refine z_iadd S dL_law_180 ?_
  refine z_sld S hX hb hS (i := ix + 1) (by omega) hL x1 dL_law_181 ?_
  refine z_aload_n S dL_law_182 hl 1 rfl rfl ?_
  refine z_iload S dL_law_183 hl 5 rfl ?_
  refine z_iconst S dL_law_185 ?_
  refine z_iadd S dL_law_186 ?_
  refine z_sld S hX hb hS (i := ix + 2) (by omega) hL x2 dL_law_187 ?_
  have ht : (2 : Int) = ec (!(decide (0 ≤ e) && decide (e ≤ 15))) (!(decide (0 ≤ x) && decide (x ≤ 63))) := (ec_2 (by first | rfl | (simp only [Bool.not_eq_true', Bool.and_eq_true, Bool.or_eq_true, Bool.and_eq_false_iff, Bool.or_eq_false_iff, Bool.not_eq_false', decide_eq_true_eq, decide_eq_false_iff_not]; omega)) (by first | rfl | (simp only [Bool.not_eq_true', Bool.and_eq_true, Bool.or_eq_true, Bool.and_eq_false_iff, Bool.or_eq_false_iff, Bool.not_eq_false', decide_eq_true_eq, decide_eq_false_iff_not]; omega))).symm
  refine z_callM S hG hS (c_X4_colour l G σ b th m1 m2 I.iM kR e x re rx 2 ht) (zA_m h9 I) ok_X4_colour I.M.1 zc_X4 rfl q5_11 (I.M) ⟨rfl, rfl, by decide, by decide⟩ ⟨(by have := hcs.1; omega), (by have := hcs.2; omega)⟩ rfl (Nat.le_of_ble_eq_true rfl) hl.1 rfl dL_law_188 (fun H_2 L_2 hB hz oq hS => ?_)
  refine z_fresh hS (fun hS => ?_)
  have I := I.stepN (τ' := σ) oq (fun q hq z => z) hB rfl rfl
  refine z_istore (lv' := [(6, .int (_)), (5, .int (zI (2))), (0, .ref (b0)), (1, .ref (a 0)), (2, .ref (b 0)), (3, .ref (o)), (4, .int (zI (ix)))]) S dL_law_191 hl (by decide) rfl (fun ls hl => ?_)
  refine z_goto S 985 dL_law_193 (by decide) ?_
  refine W.widen (k := cells + 1000) (n := slots + 10000) (by omega) (by omega) ?_
  exact kk _ _ _ _ _ _ _ _ _ _ hS I (rfl) (rfl) (lv_sub hl [2, 3, 4, 5, 6] rfl)
theorem q2_186 : (Jvm.Cond.methodLink "CyclepaintLaw" (100 : Nat) ({ cls := "CyclepaintLaw", name := "paint", desc := "(LCyclepaint;IIIILCyclepaintLaw$Out;)I" } : Jvm.MethodName)) ∈ lw_g := zg_of (zin2 (List.mem_of_getElem? (i := 186) rfl)) rfl
theorem q5_32 : (Jvm.Cond.methodLink "CyclepaintLaw" (103 : Nat) ({ cls := "CyclepaintModel", name := "paint", desc := "(IIII)I" } : Jvm.MethodName)) ∈ lw_g := zg_of (zin5 (List.mem_of_getElem? (i := 32) rfl)) rfl
set_option maxHeartbeats 4000000 in
set_option maxRecDepth 100000 in
theorem lw_paint_0 (Z : zLaw p9 l s m9 cd ar G b0 L xs) (hS : va_S (fun q => s.heap.size ≤ q) s.heap H []) (I : zInv G σ a σ b th m1 m2 o n0 sv H) (hl : lv_has ls 9 [(0, .ref (b0)), (1, .ref (a 0)), (2, .ref (b 0)), (3, .ref (o)), (4, .int (zI (ix)))]) (hix : 0 ≤ ix ∧ ix + 4 < L) (hcs : cells + 1000 ≤ room_1.cells ∧ slots + 10000 ≤ room_1.slots) (kk : zKK p9 l e9 s m9 ar bw me cd Q G b0 o ix (a 0) (b 0) cells slots) (v f tt x : Int) (rv : rg v) (rf : rg f) (rtt : rg tt) (rx : rg x) (x1 : xs (ix + 1).toNat = zI v) (x2 : xs (ix + 2).toNat = zI f) (x3 : xs (ix + 3).toNat = zI tt) (x4 : xs (ix + 4).toNat = zI x) (hv : 0 ≤ v ∧ v ≤ 3) (hf : 0 ≤ f ∧ f ≤ tt) (ht : tt ≤ 7) (hx : 0 ≤ x ∧ x ≤ 15) : W p9 l e9 room_1 s m9 ar bw me cd H [] cells slots Q (F0 m9 196 ls []) := by
  obtain ⟨S, hl0, hG, hX, hb, hL, h9⟩ := Z
  have kC : okC σ := I.C.2.2.2.2.2
  have kR : okR σ := I.M.2.2.2.2.2.2.2.2.2
  refine z_aload_n S dL_law_196 hl 1 rfl rfl ?_
  refine z_aload_n S dL_law_197 hl 0 rfl rfl ?_
  refine z_iload S dL_law_198 hl 4 rfl ?_
  refine z_iconst S dL_law_200 ?_
  refine z_iadd S dL_law_201 ?_
  refine z_sld S hX hb hS (i := ix + 1) (by omega) hL x1 dL_law_202 ?_
  refine z_aload_n S dL_law_203 hl 0 rfl rfl ?_
  refine z_iload S dL_law_204 hl 4 rfl ?_
  refine z_iconst S dL_law_206 ?_
  refine z_iadd S dL_law_207 ?_
  refine z_sld S hX hb hS (i := ix + 2) (by omega) hL x2 dL_law_208 ?_
  refine z_aload_n S dL_law_209 hl 0 rfl rfl ?_
  refine z_iload S dL_law_210 hl 4 rfl ?_
  refine z_iconst S dL_law_212 ?_
  refine z_iadd S dL_law_213 ?_
  refine z_sld S hX hb hS (i := ix + 3) (by omega) hL x3 dL_law_214 ?_
  refine z_aload_n S dL_law_215 hl 0 rfl rfl ?_
  refine z_iload S dL_law_216 hl 4 rfl ?_
  refine z_iconst S dL_law_218 ?_
  refine z_iadd S dL_law_219 ?_
  refine z_sld S hX hb hS (i := ix + 4) (by omega) hL x4 dL_law_220 ?_
  refine z_aload_n S dL_law_221 hl 3 rfl rfl ?_
  refine z_callH S hG hS (w_paint_0 l hl0 G σ a o n0 sv I.iC I.ao v f tt x hv hf ht hx) (zA_co h9 I) okL_paint q2_186 (⟨I.C, I.O⟩) ⟨rfl, rfl, by decide, by decide⟩ ⟨(by have := hcs.1; omega), (by have := hcs.2; omega)⟩ rfl (Nat.le_of_ble_eq_true rfl) hl.1 rfl dL_law_222 (fun H_1 L_1 hB hz oq hS => ?_)
  refine z_fresh hS (fun hS => ?_)
  have I := I.stepO oq hB rfl
  refine z_istore (lv' := [(5, .int (zI (0))), (0, .ref (b0)), (1, .ref (a 0)), (2, .ref (b 0)), (3, .ref (o)), (4, .int (zI (ix)))]) S dL_law_225 hl (by decide) rfl (fun ls hl => ?_)
  refine z_aload_n S dL_law_227 hl 3 rfl rfl ?_
  refine z_aload_n S dL_law_228 hl 1 rfl rfl ?_
  refine z_iload S dL_law_229 hl 5 rfl ?_
  refine z_iconst S dL_law_231 ?_
  refine z_iadd S dL_law_232 ?_
  refine z_sld S hX hb hS (i := ix + 1) (by omega) hL x1 dL_law_233 ?_
  refine z_aload_n S dL_law_234 hl 1 rfl rfl ?_
  refine z_iload S dL_law_235 hl 5 rfl ?_
  refine z_iconst S dL_law_237 ?_
  refine z_iadd S dL_law_238 ?_
  refine z_sld S hX hb hS (i := ix + 2) (by omega) hL x2 dL_law_239 ?_
  refine z_aload_n S dL_law_240 hl 1 rfl rfl ?_
  refine z_iload S dL_law_241 hl 5 rfl ?_
  refine z_iconst S dL_law_243 ?_
  refine z_iadd S dL_law_244 ?_
  refine z_sld S hX hb hS (i := ix + 3) (by omega) hL x3 dL_law_245 ?_
  refine z_aload_n S dL_law_246 hl 1 rfl rfl ?_
  refine z_iload S dL_law_247 hl 5 rfl ?_
  refine z_iconst S dL_law_249 ?_
  refine z_iadd S dL_law_250 ?_
  refine z_sld S hX hb hS (i := ix + 4) (by omega) hL x4 dL_law_251 ?_
  have ht : (0 : Int) = ec (!((decide (0 ≤ v) && decide (v ≤ 3)) && (decide (0 ≤ f) && decide (f ≤ 7)) && (decide (0 ≤ tt) && decide (tt ≤ 7)))) (decide (tt < f) || !(decide (0 ≤ x) && decide (x ≤ 15))) := (ec_0 (by first | rfl | (simp only [Bool.not_eq_true', Bool.and_eq_true, Bool.or_eq_true, Bool.and_eq_false_iff, Bool.or_eq_false_iff, Bool.not_eq_false', decide_eq_true_eq, decide_eq_false_iff_not]; omega)) (by first | rfl | (simp only [Bool.not_eq_true', Bool.and_eq_true, Bool.or_eq_true, Bool.and_eq_false_iff, Bool.or_eq_false_iff, Bool.not_eq_false', decide_eq_true_eq, decide_eq_false_iff_not]; omega))).symm
  refine z_callM S hG hS (c_X4_paint l G σ b th m1 m2 I.iM kR v f tt x rv rf rtt rx kC.2.1 0 ht) (zA_m h9 I) ok_X4_paint I.M.1 zc_X4 rfl q5_32 (I.M) ⟨rfl, rfl, by decide, by decide⟩ ⟨(by have := hcs.1; omega), (by have := hcs.2; omega)⟩ rfl (Nat.le_of_ble_eq_true rfl) hl.1 rfl dL_law_252 (fun H_2 L_2 hB hz oq hS => ?_)
  refine z_fresh hS (fun hS => ?_)
  have I := I.stepN (τ' := (σ.wD (pnt σ.Dt v x f (tt + 1)))) oq (fun q hq z => z) hB rfl rfl
  refine z_istore (lv' := [(6, .int (_)), (5, .int (zI (0))), (0, .ref (b0)), (1, .ref (a 0)), (2, .ref (b 0)), (3, .ref (o)), (4, .int (zI (ix)))]) S dL_law_255 hl (by decide) rfl (fun ls hl => ?_)
  refine z_goto S 985 dL_law_257 (by decide) ?_
  refine W.widen (k := cells + 1000) (n := slots + 10000) (by omega) (by omega) ?_
  exact kk _ _ _ _ _ _ _ _ _ _ hS I (rfl) (rfl) (lv_sub hl [2, 3, 4, 5, 6] rfl)
set_option maxHeartbeats 4000000 in
set_option maxRecDepth 100000 in
theorem lw_paint_1 (Z : zLaw p9 l s m9 cd ar G b0 L xs) (hS : va_S (fun q => s.heap.size ≤ q) s.heap H []) (I : zInv G σ a σ b th m1 m2 o n0 sv H) (hl : lv_has ls 9 [(0, .ref (b0)), (1, .ref (a 0)), (2, .ref (b 0)), (3, .ref (o)), (4, .int (zI (ix)))]) (hix : 0 ≤ ix ∧ ix + 4 < L) (hcs : cells + 1000 ≤ room_1.cells ∧ slots + 10000 ≤ room_1.slots) (kk : zKK p9 l e9 s m9 ar bw me cd Q G b0 o ix (a 0) (b 0) cells slots) (v f tt x : Int) (rv : rg v) (rf : rg f) (rtt : rg tt) (rx : rg x) (x1 : xs (ix + 1).toNat = zI v) (x2 : xs (ix + 2).toNat = zI f) (x3 : xs (ix + 3).toNat = zI tt) (x4 : xs (ix + 4).toNat = zI x) (h1 : ¬ ((0 ≤ v ∧ v ≤ 3) ∧ (0 ≤ f ∧ f ≤ 7) ∧ (0 ≤ tt ∧ tt ≤ 7))) : W p9 l e9 room_1 s m9 ar bw me cd H [] cells slots Q (F0 m9 196 ls []) := by
  obtain ⟨S, hl0, hG, hX, hb, hL, h9⟩ := Z
  have kC : okC σ := I.C.2.2.2.2.2
  have kR : okR σ := I.M.2.2.2.2.2.2.2.2.2
  refine z_aload_n S dL_law_196 hl 1 rfl rfl ?_
  refine z_aload_n S dL_law_197 hl 0 rfl rfl ?_
  refine z_iload S dL_law_198 hl 4 rfl ?_
  refine z_iconst S dL_law_200 ?_
  refine z_iadd S dL_law_201 ?_
  refine z_sld S hX hb hS (i := ix + 1) (by omega) hL x1 dL_law_202 ?_
  refine z_aload_n S dL_law_203 hl 0 rfl rfl ?_
  refine z_iload S dL_law_204 hl 4 rfl ?_
  refine z_iconst S dL_law_206 ?_
  refine z_iadd S dL_law_207 ?_
  refine z_sld S hX hb hS (i := ix + 2) (by omega) hL x2 dL_law_208 ?_
  refine z_aload_n S dL_law_209 hl 0 rfl rfl ?_
  refine z_iload S dL_law_210 hl 4 rfl ?_
  refine z_iconst S dL_law_212 ?_
  refine z_iadd S dL_law_213 ?_
  refine z_sld S hX hb hS (i := ix + 3) (by omega) hL x3 dL_law_214 ?_
  refine z_aload_n S dL_law_215 hl 0 rfl rfl ?_
  refine z_iload S dL_law_216 hl 4 rfl ?_
  refine z_iconst S dL_law_218 ?_
  refine z_iadd S dL_law_219 ?_
  refine z_sld S hX hb hS (i := ix + 4) (by omega) hL x4 dL_law_220 ?_
  refine z_aload_n S dL_law_221 hl 3 rfl rfl ?_
  refine z_callH S hG hS (w_paint_1 l hl0 G σ a o n0 sv v f tt x rv rf rtt rx h1) (fun _ z => z.elim) okL_paint q2_186 (⟨I.C, I.xp⟩) ⟨rfl, rfl, by decide, by decide⟩ ⟨(by have := hcs.1; omega), (by have := hcs.2; omega)⟩ rfl (Nat.le_of_ble_eq_true rfl) hl.1 rfl dL_law_222 (fun H_1 L_1 hB hz oq hS => ?_)
  refine z_fresh hS (fun hS => ?_)
  have I := I.step0 oq
  refine z_istore (lv' := [(5, .int (zI (1))), (0, .ref (b0)), (1, .ref (a 0)), (2, .ref (b 0)), (3, .ref (o)), (4, .int (zI (ix)))]) S dL_law_225 hl (by decide) rfl (fun ls hl => ?_)
  refine z_aload_n S dL_law_227 hl 3 rfl rfl ?_
  refine z_aload_n S dL_law_228 hl 1 rfl rfl ?_
  refine z_iload S dL_law_229 hl 5 rfl ?_
  refine z_iconst S dL_law_231 ?_
  refine z_iadd S dL_law_232 ?_
  refine z_sld S hX hb hS (i := ix + 1) (by omega) hL x1 dL_law_233 ?_
  refine z_aload_n S dL_law_234 hl 1 rfl rfl ?_
  refine z_iload S dL_law_235 hl 5 rfl ?_
  refine z_iconst S dL_law_237 ?_
  refine z_iadd S dL_law_238 ?_
  refine z_sld S hX hb hS (i := ix + 2) (by omega) hL x2 dL_law_239 ?_
  refine z_aload_n S dL_law_240 hl 1 rfl rfl ?_
  refine z_iload S dL_law_241 hl 5 rfl ?_
  refine z_iconst S dL_law_243 ?_
  refine z_iadd S dL_law_244 ?_
  refine z_sld S hX hb hS (i := ix + 3) (by omega) hL x3 dL_law_245 ?_
  refine z_aload_n S dL_law_246 hl 1 rfl rfl ?_
  refine z_iload S dL_law_247 hl 5 rfl ?_
  refine z_iconst S dL_law_249 ?_
  refine z_iadd S dL_law_250 ?_
  refine z_sld S hX hb hS (i := ix + 4) (by omega) hL x4 dL_law_251 ?_
  have ht : (1 : Int) = ec (!((decide (0 ≤ v) && decide (v ≤ 3)) && (decide (0 ≤ f) && decide (f ≤ 7)) && (decide (0 ≤ tt) && decide (tt ≤ 7)))) (decide (tt < f) || !(decide (0 ≤ x) && decide (x ≤ 15))) := (ec_1 (by first | rfl | (simp only [Bool.not_eq_true', Bool.and_eq_true, Bool.or_eq_true, Bool.and_eq_false_iff, Bool.or_eq_false_iff, Bool.not_eq_false', decide_eq_true_eq, decide_eq_false_iff_not]; omega))).symm
  refine z_callM S hG hS (c_X4_paint l G σ b th m1 m2 I.iM kR v f tt x rv rf rtt rx kC.2.1 1 ht) (zA_m h9 I) ok_X4_paint I.M.1 zc_X4 rfl q5_32 (I.M) ⟨rfl, rfl, by decide, by decide⟩ ⟨(by have := hcs.1; omega), (by have := hcs.2; omega)⟩ rfl (Nat.le_of_ble_eq_true rfl) hl.1 rfl dL_law_252 (fun H_2 L_2 hB hz oq hS => ?_)
  refine z_fresh hS (fun hS => ?_)
  have I := I.stepN (τ' := σ) oq (fun q hq z => z) hB rfl rfl
  refine z_istore (lv' := [(6, .int (_)), (5, .int (zI (1))), (0, .ref (b0)), (1, .ref (a 0)), (2, .ref (b 0)), (3, .ref (o)), (4, .int (zI (ix)))]) S dL_law_255 hl (by decide) rfl (fun ls hl => ?_)
  refine z_goto S 985 dL_law_257 (by decide) ?_
  refine W.widen (k := cells + 1000) (n := slots + 10000) (by omega) (by omega) ?_
  exact kk _ _ _ _ _ _ _ _ _ _ hS I (rfl) (rfl) (lv_sub hl [2, 3, 4, 5, 6] rfl)
set_option maxHeartbeats 4000000 in
set_option maxRecDepth 100000 in
theorem lw_paint_2 (Z : zLaw p9 l s m9 cd ar G b0 L xs) (hS : va_S (fun q => s.heap.size ≤ q) s.heap H []) (I : zInv G σ a σ b th m1 m2 o n0 sv H) (hl : lv_has ls 9 [(0, .ref (b0)), (1, .ref (a 0)), (2, .ref (b 0)), (3, .ref (o)), (4, .int (zI (ix)))]) (hix : 0 ≤ ix ∧ ix + 4 < L) (hcs : cells + 1000 ≤ room_1.cells ∧ slots + 10000 ≤ room_1.slots) (kk : zKK p9 l e9 s m9 ar bw me cd Q G b0 o ix (a 0) (b 0) cells slots) (v f tt x : Int) (rv : rg v) (rf : rg f) (rtt : rg tt) (rx : rg x) (x1 : xs (ix + 1).toNat = zI v) (x2 : xs (ix + 2).toNat = zI f) (x3 : xs (ix + 3).toNat = zI tt) (x4 : xs (ix + 4).toNat = zI x) (h1 : (0 ≤ v ∧ v ≤ 3) ∧ (0 ≤ f ∧ f ≤ 7) ∧ (0 ≤ tt ∧ tt ≤ 7)) (h2 : tt < f ∨ ¬ (0 ≤ x ∧ x ≤ 15)) : W p9 l e9 room_1 s m9 ar bw me cd H [] cells slots Q (F0 m9 196 ls []) := by
  obtain ⟨S, hl0, hG, hX, hb, hL, h9⟩ := Z
  have kC : okC σ := I.C.2.2.2.2.2
  have kR : okR σ := I.M.2.2.2.2.2.2.2.2.2
  refine z_aload_n S dL_law_196 hl 1 rfl rfl ?_
  refine z_aload_n S dL_law_197 hl 0 rfl rfl ?_
  refine z_iload S dL_law_198 hl 4 rfl ?_
  refine z_iconst S dL_law_200 ?_
  refine z_iadd S dL_law_201 ?_
  refine z_sld S hX hb hS (i := ix + 1) (by omega) hL x1 dL_law_202 ?_
  refine z_aload_n S dL_law_203 hl 0 rfl rfl ?_
  refine z_iload S dL_law_204 hl 4 rfl ?_
  refine z_iconst S dL_law_206 ?_
  refine z_iadd S dL_law_207 ?_
  refine z_sld S hX hb hS (i := ix + 2) (by omega) hL x2 dL_law_208 ?_
  refine z_aload_n S dL_law_209 hl 0 rfl rfl ?_
  refine z_iload S dL_law_210 hl 4 rfl ?_
  refine z_iconst S dL_law_212 ?_
  refine z_iadd S dL_law_213 ?_
  refine z_sld S hX hb hS (i := ix + 3) (by omega) hL x3 dL_law_214 ?_
  refine z_aload_n S dL_law_215 hl 0 rfl rfl ?_
  refine z_iload S dL_law_216 hl 4 rfl ?_
  refine z_iconst S dL_law_218 ?_
  refine z_iadd S dL_law_219 ?_
  refine z_sld S hX hb hS (i := ix + 4) (by omega) hL x4 dL_law_220 ?_
  refine z_aload_n S dL_law_221 hl 3 rfl rfl ?_
  refine z_callH S hG hS (w_paint_2 l hl0 G σ a o n0 sv v f tt x rv rf rtt rx h1 h2) (fun _ z => z.elim) okL_paint q2_186 (⟨I.C, I.xp⟩) ⟨rfl, rfl, by decide, by decide⟩ ⟨(by have := hcs.1; omega), (by have := hcs.2; omega)⟩ rfl (Nat.le_of_ble_eq_true rfl) hl.1 rfl dL_law_222 (fun H_1 L_1 hB hz oq hS => ?_)
  refine z_fresh hS (fun hS => ?_)
  have I := I.step0 oq
  refine z_istore (lv' := [(5, .int (zI (2))), (0, .ref (b0)), (1, .ref (a 0)), (2, .ref (b 0)), (3, .ref (o)), (4, .int (zI (ix)))]) S dL_law_225 hl (by decide) rfl (fun ls hl => ?_)
  refine z_aload_n S dL_law_227 hl 3 rfl rfl ?_
  refine z_aload_n S dL_law_228 hl 1 rfl rfl ?_
  refine z_iload S dL_law_229 hl 5 rfl ?_
  refine z_iconst S dL_law_231 ?_
  refine z_iadd S dL_law_232 ?_
  refine z_sld S hX hb hS (i := ix + 1) (by omega) hL x1 dL_law_233 ?_
  refine z_aload_n S dL_law_234 hl 1 rfl rfl ?_
  refine z_iload S dL_law_235 hl 5 rfl ?_
  refine z_iconst S dL_law_237 ?_
  refine z_iadd S dL_law_238 ?_
  refine z_sld S hX hb hS (i := ix + 2) (by omega) hL x2 dL_law_239 ?_
  refine z_aload_n S dL_law_240 hl 1 rfl rfl ?_
  refine z_iload S dL_law_241 hl 5 rfl ?_
  refine z_iconst S dL_law_243 ?_
  refine z_iadd S dL_law_244 ?_
  refine z_sld S hX hb hS (i := ix + 3) (by omega) hL x3 dL_law_245 ?_
  refine z_aload_n S dL_law_246 hl 1 rfl rfl ?_
  refine z_iload S dL_law_247 hl 5 rfl ?_
  refine z_iconst S dL_law_249 ?_
  refine z_iadd S dL_law_250 ?_
  refine z_sld S hX hb hS (i := ix + 4) (by omega) hL x4 dL_law_251 ?_
  have ht : (2 : Int) = ec (!((decide (0 ≤ v) && decide (v ≤ 3)) && (decide (0 ≤ f) && decide (f ≤ 7)) && (decide (0 ≤ tt) && decide (tt ≤ 7)))) (decide (tt < f) || !(decide (0 ≤ x) && decide (x ≤ 15))) := (ec_2 (by first | rfl | (simp only [Bool.not_eq_true', Bool.and_eq_true, Bool.or_eq_true, Bool.and_eq_false_iff, Bool.or_eq_false_iff, Bool.not_eq_false', decide_eq_true_eq, decide_eq_false_iff_not]; omega)) (by first | rfl | (simp only [Bool.not_eq_true', Bool.and_eq_true, Bool.or_eq_true, Bool.and_eq_false_iff, Bool.or_eq_false_iff, Bool.not_eq_false', decide_eq_true_eq, decide_eq_false_iff_not]; omega))).symm
  refine z_callM S hG hS (c_X4_paint l G σ b th m1 m2 I.iM kR v f tt x rv rf rtt rx kC.2.1 2 ht) (zA_m h9 I) ok_X4_paint I.M.1 zc_X4 rfl q5_32 (I.M) ⟨rfl, rfl, by decide, by decide⟩ ⟨(by have := hcs.1; omega), (by have := hcs.2; omega)⟩ rfl (Nat.le_of_ble_eq_true rfl) hl.1 rfl dL_law_252 (fun H_2 L_2 hB hz oq hS => ?_)
  refine z_fresh hS (fun hS => ?_)
  have I := I.stepN (τ' := σ) oq (fun q hq z => z) hB rfl rfl
  refine z_istore (lv' := [(6, .int (_)), (5, .int (zI (2))), (0, .ref (b0)), (1, .ref (a 0)), (2, .ref (b 0)), (3, .ref (o)), (4, .int (zI (ix)))]) S dL_law_255 hl (by decide) rfl (fun ls hl => ?_)
  refine z_goto S 985 dL_law_257 (by decide) ?_
  refine W.widen (k := cells + 1000) (n := slots + 10000) (by omega) (by omega) ?_
  exact kk _ _ _ _ _ _ _ _ _ _ hS I (rfl) (rfl) (lv_sub hl [2, 3, 4, 5, 6] rfl)
theorem q2_198 : (Jvm.Cond.methodLink "CyclepaintLaw" (104 : Nat) ({ cls := "CyclepaintLaw", name := "range", desc := "(LCyclepaint;IIIILCyclepaintLaw$Out;)I" } : Jvm.MethodName)) ∈ lw_g := zg_of (zin2 (List.mem_of_getElem? (i := 198) rfl)) rfl
theorem q5_36 : (Jvm.Cond.methodLink "CyclepaintLaw" (106 : Nat) ({ cls := "CyclepaintModel", name := "range", desc := "(IIII)I" } : Jvm.MethodName)) ∈ lw_g := zg_of (zin5 (List.mem_of_getElem? (i := 36) rfl)) rfl
set_option maxHeartbeats 4000000 in
set_option maxRecDepth 100000 in
theorem lw_range_0 (Z : zLaw p9 l s m9 cd ar G b0 L xs) (hS : va_S (fun q => s.heap.size ≤ q) s.heap H []) (I : zInv G σ a σ b th m1 m2 o n0 sv H) (hl : lv_has ls 9 [(0, .ref (b0)), (1, .ref (a 0)), (2, .ref (b 0)), (3, .ref (o)), (4, .int (zI (ix)))]) (hix : 0 ≤ ix ∧ ix + 4 < L) (hcs : cells + 1000 ≤ room_1.cells ∧ slots + 10000 ≤ room_1.slots) (kk : zKK p9 l e9 s m9 ar bw me cd Q G b0 o ix (a 0) (b 0) cells slots) (f tt sp kd : Int) (rf : rg f) (rtt : rg tt) (rsp : rg sp) (rkd : rg kd) (x1 : xs (ix + 1).toNat = zI f) (x2 : xs (ix + 2).toNat = zI tt) (x3 : xs (ix + 3).toNat = zI sp) (x4 : xs (ix + 4).toNat = zI kd) (hf : 0 ≤ f ∧ f < tt ∧ tt ≤ 15) (hsp : 1 ≤ sp ∧ sp ≤ 9) (hkd : 0 ≤ kd ∧ kd ≤ 2) (hr4 : σ.rn < 4) (hfree : allI (frB σ f tt) 16 = true) : W p9 l e9 room_1 s m9 ar bw me cd H [] cells slots Q (F0 m9 260 ls []) := by
  obtain ⟨S, hl0, hG, hX, hb, hL, h9⟩ := Z
  have kC : okC σ := I.C.2.2.2.2.2
  have kR : okR σ := I.M.2.2.2.2.2.2.2.2.2
  refine z_aload_n S dL_law_260 hl 1 rfl rfl ?_
  refine z_aload_n S dL_law_261 hl 0 rfl rfl ?_
  refine z_iload S dL_law_262 hl 4 rfl ?_
  refine z_iconst S dL_law_264 ?_
  refine z_iadd S dL_law_265 ?_
  refine z_sld S hX hb hS (i := ix + 1) (by omega) hL x1 dL_law_266 ?_
  refine z_aload_n S dL_law_267 hl 0 rfl rfl ?_
  refine z_iload S dL_law_268 hl 4 rfl ?_
  refine z_iconst S dL_law_270 ?_
  refine z_iadd S dL_law_271 ?_
  refine z_sld S hX hb hS (i := ix + 2) (by omega) hL x2 dL_law_272 ?_
  refine z_aload_n S dL_law_273 hl 0 rfl rfl ?_
  refine z_iload S dL_law_274 hl 4 rfl ?_
  refine z_iconst S dL_law_276 ?_
  refine z_iadd S dL_law_277 ?_
  refine z_sld S hX hb hS (i := ix + 3) (by omega) hL x3 dL_law_278 ?_
  refine z_aload_n S dL_law_279 hl 0 rfl rfl ?_
  refine z_iload S dL_law_280 hl 4 rfl ?_
  refine z_iconst S dL_law_282 ?_
  refine z_iadd S dL_law_283 ?_
  refine z_sld S hX hb hS (i := ix + 4) (by omega) hL x4 dL_law_284 ?_
  refine z_aload_n S dL_law_285 hl 3 rfl rfl ?_
  refine z_callH S hG hS (w_range_0 l hl0 G σ a o n0 sv I.iC I.ao H.size f tt sp kd hf hsp hkd hr4 hfree) (zA_cn h9 I hS) okL_range q2_198 (⟨I.C, I.O, rfl⟩) ⟨rfl, rfl, by decide, by decide⟩ ⟨(by have := hcs.1; omega), (by have := hcs.2; omega)⟩ rfl (Nat.le_of_ble_eq_true rfl) hl.1 rfl dL_law_286 (fun H_1 L_1 hB hz oq hS => ?_)
  refine z_fresh hS (fun hS => ?_)
  obtain ⟨nq, hB1, hB2, hB3⟩ := hB
  have I := I.stepCadd kR.1.1 oq hB1 hB2 hB3
  refine z_istore (lv' := [(5, .int (zI (0))), (0, .ref (b0)), (1, .ref (a 0)), (2, .ref (b 0)), (3, .ref (o)), (4, .int (zI (ix)))]) S dL_law_289 hl (by decide) rfl (fun ls hl => ?_)
  refine z_aload_n S dL_law_291 hl 3 rfl rfl ?_
  refine z_aload_n S dL_law_292 hl 1 rfl rfl ?_
  refine z_iload S dL_law_293 hl 5 rfl ?_
  refine z_iconst S dL_law_295 ?_
  refine z_iadd S dL_law_296 ?_
  refine z_sld S hX hb hS (i := ix + 1) (by omega) hL x1 dL_law_297 ?_
  refine z_aload_n S dL_law_298 hl 1 rfl rfl ?_
  refine z_iload S dL_law_299 hl 5 rfl ?_
  refine z_iconst S dL_law_301 ?_
  refine z_iadd S dL_law_302 ?_
  refine z_sld S hX hb hS (i := ix + 2) (by omega) hL x2 dL_law_303 ?_
  refine z_aload_n S dL_law_304 hl 1 rfl rfl ?_
  refine z_iload S dL_law_305 hl 5 rfl ?_
  refine z_iconst S dL_law_307 ?_
  refine z_iadd S dL_law_308 ?_
  refine z_sld S hX hb hS (i := ix + 3) (by omega) hL x3 dL_law_309 ?_
  refine z_aload_n S dL_law_310 hl 1 rfl rfl ?_
  refine z_iload S dL_law_311 hl 5 rfl ?_
  refine z_iconst S dL_law_313 ?_
  refine z_iadd S dL_law_314 ?_
  refine z_sld S hX hb hS (i := ix + 4) (by omega) hL x4 dL_law_315 ?_
  have hq := fr_CM (σ := σ) (f := f) (u := tt) (by omega) (by omega) (by omega)
  have hq2 : tkM σ f tt = false := by cases hh : tkM σ f tt with | false => rfl | true => (rw [hh, hfree] at hq; exact absurd hq (by decide))
  have ht : (0 : Int) = ec3 ((!(decide (0 ≤ f) && decide (f ≤ 15))) || (!(decide (0 ≤ tt) && decide (tt ≤ 15)))) ((decide (tt ≤ f) || !(decide (1 ≤ sp) && decide (sp ≤ 9))) || !(decide (0 ≤ kd) && decide (kd ≤ 2))) (decide (σ.rn = 4) || tkM σ f tt) := (ec3_0 (by first | rfl | (simp only [Bool.not_eq_true', Bool.and_eq_true, Bool.or_eq_true, Bool.and_eq_false_iff, Bool.or_eq_false_iff, Bool.not_eq_false', decide_eq_true_eq, decide_eq_false_iff_not]; omega)) (by first | rfl | (simp only [Bool.not_eq_true', Bool.and_eq_true, Bool.or_eq_true, Bool.and_eq_false_iff, Bool.or_eq_false_iff, Bool.not_eq_false', decide_eq_true_eq, decide_eq_false_iff_not]; omega)) (by rw [hq2, decide_eq_false (by omega)]; rfl)).symm
  refine z_callM S hG hS (c_X4_range l G σ b th m1 m2 _ I.iM (fun y ⟨i, hi, e⟩ => by rw [e]; exact I.sb i hi) f tt sp kd rf rtt rsp rkd 0 ht) (zA_r h9 I hS 5) ok_X4_range I.M.1 zc_X4 rfl q5_36 (⟨I.M, rfl, I.hp, I.g5⟩) ⟨rfl, rfl, by decide, by decide⟩ ⟨(by have := hcs.1; omega), (by have := hcs.2; omega)⟩ rfl (Nat.le_of_ble_eq_true rfl) hl.1 rfl dL_law_316 (fun H_2 L_2 hB hz oq hS => ?_)
  refine z_fresh hS (fun hS => ?_)
  obtain ⟨ne, nr, hB1, hB2, hB3, hB4⟩ := hB.1 rfl
  have I := I.stepR hr4 oq hB1 hB2 hB3 hB4
  refine z_istore (lv' := [(6, .int (_)), (5, .int (zI (0))), (0, .ref (b0)), (1, .ref (a 0)), (2, .ref (b 0)), (3, .ref (o)), (4, .int (zI (ix)))]) S dL_law_319 hl (by decide) rfl (fun ls hl => ?_)
  refine z_goto S 985 dL_law_321 (by decide) ?_
  refine W.widen (k := cells + 1000) (n := slots + 10000) (by omega) (by omega) ?_
  exact kk _ _ _ _ _ _ _ _ _ _ hS I (addA_o (by omega)) (addB_o (by decide) (by omega)) (lv_sub hl [2, 3, 4, 5, 6] rfl)
set_option maxHeartbeats 4000000 in
set_option maxRecDepth 100000 in
theorem lw_range_1 (Z : zLaw p9 l s m9 cd ar G b0 L xs) (hS : va_S (fun q => s.heap.size ≤ q) s.heap H []) (I : zInv G σ a σ b th m1 m2 o n0 sv H) (hl : lv_has ls 9 [(0, .ref (b0)), (1, .ref (a 0)), (2, .ref (b 0)), (3, .ref (o)), (4, .int (zI (ix)))]) (hix : 0 ≤ ix ∧ ix + 4 < L) (hcs : cells + 1000 ≤ room_1.cells ∧ slots + 10000 ≤ room_1.slots) (kk : zKK p9 l e9 s m9 ar bw me cd Q G b0 o ix (a 0) (b 0) cells slots) (f tt sp kd : Int) (rf : rg f) (rtt : rg tt) (rsp : rg sp) (rkd : rg kd) (x1 : xs (ix + 1).toNat = zI f) (x2 : xs (ix + 2).toNat = zI tt) (x3 : xs (ix + 3).toNat = zI sp) (x4 : xs (ix + 4).toNat = zI kd) (h1 : ¬ ((0 ≤ f ∧ f ≤ 15) ∧ (0 ≤ tt ∧ tt ≤ 15))) : W p9 l e9 room_1 s m9 ar bw me cd H [] cells slots Q (F0 m9 260 ls []) := by
  obtain ⟨S, hl0, hG, hX, hb, hL, h9⟩ := Z
  have kC : okC σ := I.C.2.2.2.2.2
  have kR : okR σ := I.M.2.2.2.2.2.2.2.2.2
  refine z_aload_n S dL_law_260 hl 1 rfl rfl ?_
  refine z_aload_n S dL_law_261 hl 0 rfl rfl ?_
  refine z_iload S dL_law_262 hl 4 rfl ?_
  refine z_iconst S dL_law_264 ?_
  refine z_iadd S dL_law_265 ?_
  refine z_sld S hX hb hS (i := ix + 1) (by omega) hL x1 dL_law_266 ?_
  refine z_aload_n S dL_law_267 hl 0 rfl rfl ?_
  refine z_iload S dL_law_268 hl 4 rfl ?_
  refine z_iconst S dL_law_270 ?_
  refine z_iadd S dL_law_271 ?_
  refine z_sld S hX hb hS (i := ix + 2) (by omega) hL x2 dL_law_272 ?_
  refine z_aload_n S dL_law_273 hl 0 rfl rfl ?_
  refine z_iload S dL_law_274 hl 4 rfl ?_
  refine z_iconst S dL_law_276 ?_
  refine z_iadd S dL_law_277 ?_
  refine z_sld S hX hb hS (i := ix + 3) (by omega) hL x3 dL_law_278 ?_
  refine z_aload_n S dL_law_279 hl 0 rfl rfl ?_
  refine z_iload S dL_law_280 hl 4 rfl ?_
  refine z_iconst S dL_law_282 ?_
  refine z_iadd S dL_law_283 ?_
  refine z_sld S hX hb hS (i := ix + 4) (by omega) hL x4 dL_law_284 ?_
  refine z_aload_n S dL_law_285 hl 3 rfl rfl ?_
  refine z_callH S hG hS (w_range_1 l hl0 G σ a o n0 sv f tt sp kd rf rtt rsp rkd h1) (fun _ z => z.elim) okL_range q2_198 (⟨I.C, I.xp⟩) ⟨rfl, rfl, by decide, by decide⟩ ⟨(by have := hcs.1; omega), (by have := hcs.2; omega)⟩ rfl (Nat.le_of_ble_eq_true rfl) hl.1 rfl dL_law_286 (fun H_1 L_1 hB hz oq hS => ?_)
  refine z_fresh hS (fun hS => ?_)
  have I := I.step0 oq
  refine z_istore (lv' := [(5, .int (zI (1))), (0, .ref (b0)), (1, .ref (a 0)), (2, .ref (b 0)), (3, .ref (o)), (4, .int (zI (ix)))]) S dL_law_289 hl (by decide) rfl (fun ls hl => ?_)
  refine z_aload_n S dL_law_291 hl 3 rfl rfl ?_
  refine z_aload_n S dL_law_292 hl 1 rfl rfl ?_
  refine z_iload S dL_law_293 hl 5 rfl ?_
  refine z_iconst S dL_law_295 ?_
  refine z_iadd S dL_law_296 ?_
  refine z_sld S hX hb hS (i := ix + 1) (by omega) hL x1 dL_law_297 ?_
  refine z_aload_n S dL_law_298 hl 1 rfl rfl ?_
  refine z_iload S dL_law_299 hl 5 rfl ?_
  refine z_iconst S dL_law_301 ?_
  refine z_iadd S dL_law_302 ?_
  refine z_sld S hX hb hS (i := ix + 2) (by omega) hL x2 dL_law_303 ?_
  refine z_aload_n S dL_law_304 hl 1 rfl rfl ?_
  refine z_iload S dL_law_305 hl 5 rfl ?_
  refine z_iconst S dL_law_307 ?_
  refine z_iadd S dL_law_308 ?_
  refine z_sld S hX hb hS (i := ix + 3) (by omega) hL x3 dL_law_309 ?_
  refine z_aload_n S dL_law_310 hl 1 rfl rfl ?_
  refine z_iload S dL_law_311 hl 5 rfl ?_
  refine z_iconst S dL_law_313 ?_
  refine z_iadd S dL_law_314 ?_
  refine z_sld S hX hb hS (i := ix + 4) (by omega) hL x4 dL_law_315 ?_
  have ht : (1 : Int) = ec3 ((!(decide (0 ≤ f) && decide (f ≤ 15))) || (!(decide (0 ≤ tt) && decide (tt ≤ 15)))) ((decide (tt ≤ f) || !(decide (1 ≤ sp) && decide (sp ≤ 9))) || !(decide (0 ≤ kd) && decide (kd ≤ 2))) (decide (σ.rn = 4) || tkM σ f tt) := (ec3_1 (by first | rfl | (simp only [Bool.not_eq_true', Bool.and_eq_true, Bool.or_eq_true, Bool.and_eq_false_iff, Bool.or_eq_false_iff, Bool.not_eq_false', decide_eq_true_eq, decide_eq_false_iff_not]; omega))).symm
  refine z_callM S hG hS (c_X4_range l G σ b th m1 m2 _ I.iM (fun y ⟨i, hi, e⟩ => by rw [e]; exact I.sb i hi) f tt sp kd rf rtt rsp rkd 1 ht) (zA_r h9 I hS 5) ok_X4_range I.M.1 zc_X4 rfl q5_36 (⟨I.M, rfl, I.hp, I.g5⟩) ⟨rfl, rfl, by decide, by decide⟩ ⟨(by have := hcs.1; omega), (by have := hcs.2; omega)⟩ rfl (Nat.le_of_ble_eq_true rfl) hl.1 rfl dL_law_316 (fun H_2 L_2 hB hz oq hS => ?_)
  refine z_fresh hS (fun hS => ?_)
  have hB := hB.2 (by decide)
  have I := I.stepX5 oq hB
  refine z_istore (lv' := [(6, .int (_)), (5, .int (zI (1))), (0, .ref (b0)), (1, .ref (a 0)), (2, .ref (b 0)), (3, .ref (o)), (4, .int (zI (ix)))]) S dL_law_319 hl (by decide) rfl (fun ls hl => ?_)
  refine z_goto S 985 dL_law_321 (by decide) ?_
  refine W.widen (k := cells + 1000) (n := slots + 10000) (by omega) (by omega) ?_
  exact kk _ _ _ _ _ _ _ _ _ _ hS I (rfl) (rfl) (lv_sub hl [2, 3, 4, 5, 6] rfl)
set_option maxHeartbeats 4000000 in
set_option maxRecDepth 100000 in
theorem lw_range_2 (Z : zLaw p9 l s m9 cd ar G b0 L xs) (hS : va_S (fun q => s.heap.size ≤ q) s.heap H []) (I : zInv G σ a σ b th m1 m2 o n0 sv H) (hl : lv_has ls 9 [(0, .ref (b0)), (1, .ref (a 0)), (2, .ref (b 0)), (3, .ref (o)), (4, .int (zI (ix)))]) (hix : 0 ≤ ix ∧ ix + 4 < L) (hcs : cells + 1000 ≤ room_1.cells ∧ slots + 10000 ≤ room_1.slots) (kk : zKK p9 l e9 s m9 ar bw me cd Q G b0 o ix (a 0) (b 0) cells slots) (f tt sp kd : Int) (rf : rg f) (rtt : rg tt) (rsp : rg sp) (rkd : rg kd) (x1 : xs (ix + 1).toNat = zI f) (x2 : xs (ix + 2).toNat = zI tt) (x3 : xs (ix + 3).toNat = zI sp) (x4 : xs (ix + 4).toNat = zI kd) (h1 : (0 ≤ f ∧ f ≤ 15) ∧ (0 ≤ tt ∧ tt ≤ 15)) (h2 : tt ≤ f ∨ ¬ (1 ≤ sp ∧ sp ≤ 9) ∨ ¬ (0 ≤ kd ∧ kd ≤ 2)) : W p9 l e9 room_1 s m9 ar bw me cd H [] cells slots Q (F0 m9 260 ls []) := by
  obtain ⟨S, hl0, hG, hX, hb, hL, h9⟩ := Z
  have kC : okC σ := I.C.2.2.2.2.2
  have kR : okR σ := I.M.2.2.2.2.2.2.2.2.2
  refine z_aload_n S dL_law_260 hl 1 rfl rfl ?_
  refine z_aload_n S dL_law_261 hl 0 rfl rfl ?_
  refine z_iload S dL_law_262 hl 4 rfl ?_
  refine z_iconst S dL_law_264 ?_
  refine z_iadd S dL_law_265 ?_
  refine z_sld S hX hb hS (i := ix + 1) (by omega) hL x1 dL_law_266 ?_
  refine z_aload_n S dL_law_267 hl 0 rfl rfl ?_
  refine z_iload S dL_law_268 hl 4 rfl ?_
  refine z_iconst S dL_law_270 ?_
  refine z_iadd S dL_law_271 ?_
  refine z_sld S hX hb hS (i := ix + 2) (by omega) hL x2 dL_law_272 ?_
  refine z_aload_n S dL_law_273 hl 0 rfl rfl ?_
  refine z_iload S dL_law_274 hl 4 rfl ?_
  refine z_iconst S dL_law_276 ?_
  refine z_iadd S dL_law_277 ?_
  refine z_sld S hX hb hS (i := ix + 3) (by omega) hL x3 dL_law_278 ?_
  refine z_aload_n S dL_law_279 hl 0 rfl rfl ?_
  refine z_iload S dL_law_280 hl 4 rfl ?_
  refine z_iconst S dL_law_282 ?_
  refine z_iadd S dL_law_283 ?_
  refine z_sld S hX hb hS (i := ix + 4) (by omega) hL x4 dL_law_284 ?_
  refine z_aload_n S dL_law_285 hl 3 rfl rfl ?_
  refine z_callH S hG hS (w_range_2 l hl0 G σ a o n0 sv f tt sp kd rf rtt rsp rkd h1 h2) (fun _ z => z.elim) okL_range q2_198 (⟨I.C, I.xp⟩) ⟨rfl, rfl, by decide, by decide⟩ ⟨(by have := hcs.1; omega), (by have := hcs.2; omega)⟩ rfl (Nat.le_of_ble_eq_true rfl) hl.1 rfl dL_law_286 (fun H_1 L_1 hB hz oq hS => ?_)
  refine z_fresh hS (fun hS => ?_)
  have I := I.step0 oq
  refine z_istore (lv' := [(5, .int (zI (2))), (0, .ref (b0)), (1, .ref (a 0)), (2, .ref (b 0)), (3, .ref (o)), (4, .int (zI (ix)))]) S dL_law_289 hl (by decide) rfl (fun ls hl => ?_)
  refine z_aload_n S dL_law_291 hl 3 rfl rfl ?_
  refine z_aload_n S dL_law_292 hl 1 rfl rfl ?_
  refine z_iload S dL_law_293 hl 5 rfl ?_
  refine z_iconst S dL_law_295 ?_
  refine z_iadd S dL_law_296 ?_
  refine z_sld S hX hb hS (i := ix + 1) (by omega) hL x1 dL_law_297 ?_
  refine z_aload_n S dL_law_298 hl 1 rfl rfl ?_
  refine z_iload S dL_law_299 hl 5 rfl ?_
  refine z_iconst S dL_law_301 ?_
  refine z_iadd S dL_law_302 ?_
  refine z_sld S hX hb hS (i := ix + 2) (by omega) hL x2 dL_law_303 ?_
  refine z_aload_n S dL_law_304 hl 1 rfl rfl ?_
  refine z_iload S dL_law_305 hl 5 rfl ?_
  refine z_iconst S dL_law_307 ?_
  refine z_iadd S dL_law_308 ?_
  refine z_sld S hX hb hS (i := ix + 3) (by omega) hL x3 dL_law_309 ?_
  refine z_aload_n S dL_law_310 hl 1 rfl rfl ?_
  refine z_iload S dL_law_311 hl 5 rfl ?_
  refine z_iconst S dL_law_313 ?_
  refine z_iadd S dL_law_314 ?_
  refine z_sld S hX hb hS (i := ix + 4) (by omega) hL x4 dL_law_315 ?_
  have ht : (2 : Int) = ec3 ((!(decide (0 ≤ f) && decide (f ≤ 15))) || (!(decide (0 ≤ tt) && decide (tt ≤ 15)))) ((decide (tt ≤ f) || !(decide (1 ≤ sp) && decide (sp ≤ 9))) || !(decide (0 ≤ kd) && decide (kd ≤ 2))) (decide (σ.rn = 4) || tkM σ f tt) := (ec3_2 (by first | rfl | (simp only [Bool.not_eq_true', Bool.and_eq_true, Bool.or_eq_true, Bool.and_eq_false_iff, Bool.or_eq_false_iff, Bool.not_eq_false', decide_eq_true_eq, decide_eq_false_iff_not]; omega)) (by first | rfl | (simp only [Bool.not_eq_true', Bool.and_eq_true, Bool.or_eq_true, Bool.and_eq_false_iff, Bool.or_eq_false_iff, Bool.not_eq_false', decide_eq_true_eq, decide_eq_false_iff_not]; omega))).symm
  refine z_callM S hG hS (c_X4_range l G σ b th m1 m2 _ I.iM (fun y ⟨i, hi, e⟩ => by rw [e]; exact I.sb i hi) f tt sp kd rf rtt rsp rkd 2 ht) (zA_r h9 I hS 5) ok_X4_range I.M.1 zc_X4 rfl q5_36 (⟨I.M, rfl, I.hp, I.g5⟩) ⟨rfl, rfl, by decide, by decide⟩ ⟨(by have := hcs.1; omega), (by have := hcs.2; omega)⟩ rfl (Nat.le_of_ble_eq_true rfl) hl.1 rfl dL_law_316 (fun H_2 L_2 hB hz oq hS => ?_)
  refine z_fresh hS (fun hS => ?_)
  have hB := hB.2 (by decide)
  have I := I.stepX5 oq hB
  refine z_istore (lv' := [(6, .int (_)), (5, .int (zI (2))), (0, .ref (b0)), (1, .ref (a 0)), (2, .ref (b 0)), (3, .ref (o)), (4, .int (zI (ix)))]) S dL_law_319 hl (by decide) rfl (fun ls hl => ?_)
  refine z_goto S 985 dL_law_321 (by decide) ?_
  refine W.widen (k := cells + 1000) (n := slots + 10000) (by omega) (by omega) ?_
  exact kk _ _ _ _ _ _ _ _ _ _ hS I (rfl) (rfl) (lv_sub hl [2, 3, 4, 5, 6] rfl)
set_option maxHeartbeats 4000000 in
set_option maxRecDepth 100000 in
theorem lw_range_3 (Z : zLaw p9 l s m9 cd ar G b0 L xs) (hS : va_S (fun q => s.heap.size ≤ q) s.heap H []) (I : zInv G σ a σ b th m1 m2 o n0 sv H) (hl : lv_has ls 9 [(0, .ref (b0)), (1, .ref (a 0)), (2, .ref (b 0)), (3, .ref (o)), (4, .int (zI (ix)))]) (hix : 0 ≤ ix ∧ ix + 4 < L) (hcs : cells + 1000 ≤ room_1.cells ∧ slots + 10000 ≤ room_1.slots) (kk : zKK p9 l e9 s m9 ar bw me cd Q G b0 o ix (a 0) (b 0) cells slots) (f tt sp kd : Int) (rf : rg f) (rtt : rg tt) (rsp : rg sp) (rkd : rg kd) (x1 : xs (ix + 1).toNat = zI f) (x2 : xs (ix + 2).toNat = zI tt) (x3 : xs (ix + 3).toNat = zI sp) (x4 : xs (ix + 4).toNat = zI kd) (h1 : (0 ≤ f ∧ f ≤ 15) ∧ (0 ≤ tt ∧ tt ≤ 15)) (h2 : f < tt ∧ (1 ≤ sp ∧ sp ≤ 9) ∧ (0 ≤ kd ∧ kd ≤ 2)) (h4 : allI (frB σ f tt) 16 = false) : W p9 l e9 room_1 s m9 ar bw me cd H [] cells slots Q (F0 m9 260 ls []) := by
  obtain ⟨S, hl0, hG, hX, hb, hL, h9⟩ := Z
  have kC : okC σ := I.C.2.2.2.2.2
  have kR : okR σ := I.M.2.2.2.2.2.2.2.2.2
  refine z_aload_n S dL_law_260 hl 1 rfl rfl ?_
  refine z_aload_n S dL_law_261 hl 0 rfl rfl ?_
  refine z_iload S dL_law_262 hl 4 rfl ?_
  refine z_iconst S dL_law_264 ?_
  refine z_iadd S dL_law_265 ?_
  refine z_sld S hX hb hS (i := ix + 1) (by omega) hL x1 dL_law_266 ?_
  refine z_aload_n S dL_law_267 hl 0 rfl rfl ?_
  refine z_iload S dL_law_268 hl 4 rfl ?_
  refine z_iconst S dL_law_270 ?_
  refine z_iadd S dL_law_271 ?_
  refine z_sld S hX hb hS (i := ix + 2) (by omega) hL x2 dL_law_272 ?_
  refine z_aload_n S dL_law_273 hl 0 rfl rfl ?_
  refine z_iload S dL_law_274 hl 4 rfl ?_
  refine z_iconst S dL_law_276 ?_
  refine z_iadd S dL_law_277 ?_
  refine z_sld S hX hb hS (i := ix + 3) (by omega) hL x3 dL_law_278 ?_
  refine z_aload_n S dL_law_279 hl 0 rfl rfl ?_
  refine z_iload S dL_law_280 hl 4 rfl ?_
  refine z_iconst S dL_law_282 ?_
  refine z_iadd S dL_law_283 ?_
  refine z_sld S hX hb hS (i := ix + 4) (by omega) hL x4 dL_law_284 ?_
  refine z_aload_n S dL_law_285 hl 3 rfl rfl ?_
  refine z_callH S hG hS (w_range_3 l hl0 G σ a o n0 sv f tt sp kd rf rtt rsp rkd h1 h2 h4) (fun _ z => z.elim) okL_range q2_198 (⟨I.C, I.xp⟩) ⟨rfl, rfl, by decide, by decide⟩ ⟨(by have := hcs.1; omega), (by have := hcs.2; omega)⟩ rfl (Nat.le_of_ble_eq_true rfl) hl.1 rfl dL_law_286 (fun H_1 L_1 hB hz oq hS => ?_)
  refine z_fresh hS (fun hS => ?_)
  have I := I.step0 oq
  refine z_istore (lv' := [(5, .int (zI (3))), (0, .ref (b0)), (1, .ref (a 0)), (2, .ref (b 0)), (3, .ref (o)), (4, .int (zI (ix)))]) S dL_law_289 hl (by decide) rfl (fun ls hl => ?_)
  refine z_aload_n S dL_law_291 hl 3 rfl rfl ?_
  refine z_aload_n S dL_law_292 hl 1 rfl rfl ?_
  refine z_iload S dL_law_293 hl 5 rfl ?_
  refine z_iconst S dL_law_295 ?_
  refine z_iadd S dL_law_296 ?_
  refine z_sld S hX hb hS (i := ix + 1) (by omega) hL x1 dL_law_297 ?_
  refine z_aload_n S dL_law_298 hl 1 rfl rfl ?_
  refine z_iload S dL_law_299 hl 5 rfl ?_
  refine z_iconst S dL_law_301 ?_
  refine z_iadd S dL_law_302 ?_
  refine z_sld S hX hb hS (i := ix + 2) (by omega) hL x2 dL_law_303 ?_
  refine z_aload_n S dL_law_304 hl 1 rfl rfl ?_
  refine z_iload S dL_law_305 hl 5 rfl ?_
  refine z_iconst S dL_law_307 ?_
  refine z_iadd S dL_law_308 ?_
  refine z_sld S hX hb hS (i := ix + 3) (by omega) hL x3 dL_law_309 ?_
  refine z_aload_n S dL_law_310 hl 1 rfl rfl ?_
  refine z_iload S dL_law_311 hl 5 rfl ?_
  refine z_iconst S dL_law_313 ?_
  refine z_iadd S dL_law_314 ?_
  refine z_sld S hX hb hS (i := ix + 4) (by omega) hL x4 dL_law_315 ?_
  have hq := fr_CM (σ := σ) (f := f) (u := tt) (by omega) (by omega) (by omega)
  have hq2 : tkM σ f tt = true := by cases hh : tkM σ f tt with | true => rfl | false => (rw [hh, h4] at hq; exact absurd hq (by decide))
  have ht : (3 : Int) = ec3 ((!(decide (0 ≤ f) && decide (f ≤ 15))) || (!(decide (0 ≤ tt) && decide (tt ≤ 15)))) ((decide (tt ≤ f) || !(decide (1 ≤ sp) && decide (sp ≤ 9))) || !(decide (0 ≤ kd) && decide (kd ≤ 2))) (decide (σ.rn = 4) || tkM σ f tt) := (ec3_3 (by first | rfl | (simp only [Bool.not_eq_true', Bool.and_eq_true, Bool.or_eq_true, Bool.and_eq_false_iff, Bool.or_eq_false_iff, Bool.not_eq_false', decide_eq_true_eq, decide_eq_false_iff_not]; omega)) (by first | rfl | (simp only [Bool.not_eq_true', Bool.and_eq_true, Bool.or_eq_true, Bool.and_eq_false_iff, Bool.or_eq_false_iff, Bool.not_eq_false', decide_eq_true_eq, decide_eq_false_iff_not]; omega)) (by rw [hq2, Bool.or_true])).symm
  refine z_callM S hG hS (c_X4_range l G σ b th m1 m2 _ I.iM (fun y ⟨i, hi, e⟩ => by rw [e]; exact I.sb i hi) f tt sp kd rf rtt rsp rkd 3 ht) (zA_r h9 I hS 5) ok_X4_range I.M.1 zc_X4 rfl q5_36 (⟨I.M, rfl, I.hp, I.g5⟩) ⟨rfl, rfl, by decide, by decide⟩ ⟨(by have := hcs.1; omega), (by have := hcs.2; omega)⟩ rfl (Nat.le_of_ble_eq_true rfl) hl.1 rfl dL_law_316 (fun H_2 L_2 hB hz oq hS => ?_)
  refine z_fresh hS (fun hS => ?_)
  have hB := hB.2 (by decide)
  have I := I.stepX5 oq hB
  refine z_istore (lv' := [(6, .int (_)), (5, .int (zI (3))), (0, .ref (b0)), (1, .ref (a 0)), (2, .ref (b 0)), (3, .ref (o)), (4, .int (zI (ix)))]) S dL_law_319 hl (by decide) rfl (fun ls hl => ?_)
  refine z_goto S 985 dL_law_321 (by decide) ?_
  refine W.widen (k := cells + 1000) (n := slots + 10000) (by omega) (by omega) ?_
  exact kk _ _ _ _ _ _ _ _ _ _ hS I (rfl) (rfl) (lv_sub hl [2, 3, 4, 5, 6] rfl)
set_option maxHeartbeats 4000000 in
set_option maxRecDepth 100000 in
theorem lw_range_4 (Z : zLaw p9 l s m9 cd ar G b0 L xs) (hS : va_S (fun q => s.heap.size ≤ q) s.heap H []) (I : zInv G σ a σ b th m1 m2 o n0 sv H) (hl : lv_has ls 9 [(0, .ref (b0)), (1, .ref (a 0)), (2, .ref (b 0)), (3, .ref (o)), (4, .int (zI (ix)))]) (hix : 0 ≤ ix ∧ ix + 4 < L) (hcs : cells + 1000 ≤ room_1.cells ∧ slots + 10000 ≤ room_1.slots) (kk : zKK p9 l e9 s m9 ar bw me cd Q G b0 o ix (a 0) (b 0) cells slots) (f tt sp kd : Int) (rf : rg f) (rtt : rg tt) (rsp : rg sp) (rkd : rg kd) (x1 : xs (ix + 1).toNat = zI f) (x2 : xs (ix + 2).toNat = zI tt) (x3 : xs (ix + 3).toNat = zI sp) (x4 : xs (ix + 4).toNat = zI kd) (h1 : (0 ≤ f ∧ f ≤ 15) ∧ (0 ≤ tt ∧ tt ≤ 15)) (h2 : f < tt ∧ (1 ≤ sp ∧ sp ≤ 9) ∧ (0 ≤ kd ∧ kd ≤ 2)) (h4 : σ.rn = 4) : W p9 l e9 room_1 s m9 ar bw me cd H [] cells slots Q (F0 m9 260 ls []) := by
  obtain ⟨S, hl0, hG, hX, hb, hL, h9⟩ := Z
  have kC : okC σ := I.C.2.2.2.2.2
  have kR : okR σ := I.M.2.2.2.2.2.2.2.2.2
  refine z_aload_n S dL_law_260 hl 1 rfl rfl ?_
  refine z_aload_n S dL_law_261 hl 0 rfl rfl ?_
  refine z_iload S dL_law_262 hl 4 rfl ?_
  refine z_iconst S dL_law_264 ?_
  refine z_iadd S dL_law_265 ?_
  refine z_sld S hX hb hS (i := ix + 1) (by omega) hL x1 dL_law_266 ?_
  refine z_aload_n S dL_law_267 hl 0 rfl rfl ?_
  refine z_iload S dL_law_268 hl 4 rfl ?_
  refine z_iconst S dL_law_270 ?_
  refine z_iadd S dL_law_271 ?_
  refine z_sld S hX hb hS (i := ix + 2) (by omega) hL x2 dL_law_272 ?_
  refine z_aload_n S dL_law_273 hl 0 rfl rfl ?_
  refine z_iload S dL_law_274 hl 4 rfl ?_
  refine z_iconst S dL_law_276 ?_
  refine z_iadd S dL_law_277 ?_
  refine z_sld S hX hb hS (i := ix + 3) (by omega) hL x3 dL_law_278 ?_
  refine z_aload_n S dL_law_279 hl 0 rfl rfl ?_
  refine z_iload S dL_law_280 hl 4 rfl ?_
  refine z_iconst S dL_law_282 ?_
  refine z_iadd S dL_law_283 ?_
  refine z_sld S hX hb hS (i := ix + 4) (by omega) hL x4 dL_law_284 ?_
  refine z_aload_n S dL_law_285 hl 3 rfl rfl ?_
  refine z_callH S hG hS (w_range_4 l hl0 G σ a o n0 sv f tt sp kd rf rtt rsp rkd h1 h2 h4) (fun _ z => z.elim) okL_range q2_198 (⟨I.C, I.xp⟩) ⟨rfl, rfl, by decide, by decide⟩ ⟨(by have := hcs.1; omega), (by have := hcs.2; omega)⟩ rfl (Nat.le_of_ble_eq_true rfl) hl.1 rfl dL_law_286 (fun H_1 L_1 hB hz oq hS => ?_)
  refine z_fresh hS (fun hS => ?_)
  have I := I.step0 oq
  refine z_istore (lv' := [(5, .int (zI (3))), (0, .ref (b0)), (1, .ref (a 0)), (2, .ref (b 0)), (3, .ref (o)), (4, .int (zI (ix)))]) S dL_law_289 hl (by decide) rfl (fun ls hl => ?_)
  refine z_aload_n S dL_law_291 hl 3 rfl rfl ?_
  refine z_aload_n S dL_law_292 hl 1 rfl rfl ?_
  refine z_iload S dL_law_293 hl 5 rfl ?_
  refine z_iconst S dL_law_295 ?_
  refine z_iadd S dL_law_296 ?_
  refine z_sld S hX hb hS (i := ix + 1) (by omega) hL x1 dL_law_297 ?_
  refine z_aload_n S dL_law_298 hl 1 rfl rfl ?_
  refine z_iload S dL_law_299 hl 5 rfl ?_
  refine z_iconst S dL_law_301 ?_
  refine z_iadd S dL_law_302 ?_
  refine z_sld S hX hb hS (i := ix + 2) (by omega) hL x2 dL_law_303 ?_
  refine z_aload_n S dL_law_304 hl 1 rfl rfl ?_
  refine z_iload S dL_law_305 hl 5 rfl ?_
  refine z_iconst S dL_law_307 ?_
  refine z_iadd S dL_law_308 ?_
  refine z_sld S hX hb hS (i := ix + 3) (by omega) hL x3 dL_law_309 ?_
  refine z_aload_n S dL_law_310 hl 1 rfl rfl ?_
  refine z_iload S dL_law_311 hl 5 rfl ?_
  refine z_iconst S dL_law_313 ?_
  refine z_iadd S dL_law_314 ?_
  refine z_sld S hX hb hS (i := ix + 4) (by omega) hL x4 dL_law_315 ?_
  have hq := fr_CM (σ := σ) (f := f) (u := tt) (by omega) (by omega) (by omega)
  have ht : (3 : Int) = ec3 ((!(decide (0 ≤ f) && decide (f ≤ 15))) || (!(decide (0 ≤ tt) && decide (tt ≤ 15)))) ((decide (tt ≤ f) || !(decide (1 ≤ sp) && decide (sp ≤ 9))) || !(decide (0 ≤ kd) && decide (kd ≤ 2))) (decide (σ.rn = 4) || tkM σ f tt) := (ec3_3 (by first | rfl | (simp only [Bool.not_eq_true', Bool.and_eq_true, Bool.or_eq_true, Bool.and_eq_false_iff, Bool.or_eq_false_iff, Bool.not_eq_false', decide_eq_true_eq, decide_eq_false_iff_not]; omega)) (by first | rfl | (simp only [Bool.not_eq_true', Bool.and_eq_true, Bool.or_eq_true, Bool.and_eq_false_iff, Bool.or_eq_false_iff, Bool.not_eq_false', decide_eq_true_eq, decide_eq_false_iff_not]; omega)) (by rw [decide_eq_true h4]; rfl)).symm
  refine z_callM S hG hS (c_X4_range l G σ b th m1 m2 _ I.iM (fun y ⟨i, hi, e⟩ => by rw [e]; exact I.sb i hi) f tt sp kd rf rtt rsp rkd 3 ht) (zA_r h9 I hS 5) ok_X4_range I.M.1 zc_X4 rfl q5_36 (⟨I.M, rfl, I.hp, I.g5⟩) ⟨rfl, rfl, by decide, by decide⟩ ⟨(by have := hcs.1; omega), (by have := hcs.2; omega)⟩ rfl (Nat.le_of_ble_eq_true rfl) hl.1 rfl dL_law_316 (fun H_2 L_2 hB hz oq hS => ?_)
  refine z_fresh hS (fun hS => ?_)
  have hB := hB.2 (by decide)
  have I := I.stepX5 oq hB
  refine z_istore (lv' := [(6, .int (_)), (5, .int (zI (3))), (0, .ref (b0)), (1, .ref (a 0)), (2, .ref (b 0)), (3, .ref (o)), (4, .int (zI (ix)))]) S dL_law_319 hl (by decide) rfl (fun ls hl => ?_)
  refine z_goto S 985 dL_law_321 (by decide) ?_
  refine W.widen (k := cells + 1000) (n := slots + 10000) (by omega) (by omega) ?_
  exact kk _ _ _ _ _ _ _ _ _ _ hS I (rfl) (rfl) (lv_sub hl [2, 3, 4, 5, 6] rfl)
theorem q3_27 : (Jvm.Cond.methodLink "CyclepaintLaw" (107 : Nat) ({ cls := "CyclepaintLaw", name := "turn", desc := "(LCyclepaint;IIILCyclepaintLaw$Out;)I" } : Jvm.MethodName)) ∈ lw_g := zg_of (zin3 (List.mem_of_getElem? (i := 27) rfl)) rfl
theorem q5_109 : (Jvm.Cond.methodLink "CyclepaintLaw" (110 : Nat) ({ cls := "CyclepaintModel", name := "turn", desc := "(III)I" } : Jvm.MethodName)) ∈ lw_g := zg_of (zin5 (List.mem_of_getElem? (i := 109) rfl)) rfl
set_option maxHeartbeats 4000000 in
set_option maxRecDepth 100000 in
theorem lw_turn_0 (Z : zLaw p9 l s m9 cd ar G b0 L xs) (hS : va_S (fun q => s.heap.size ≤ q) s.heap H []) (I : zInv G σ a σ b th m1 m2 o n0 sv H) (hl : lv_has ls 9 [(0, .ref (b0)), (1, .ref (a 0)), (2, .ref (b 0)), (3, .ref (o)), (4, .int (zI (ix)))]) (hix : 0 ≤ ix ∧ ix + 4 < L) (hcs : cells + 1000 ≤ room_1.cells ∧ slots + 10000 ≤ room_1.slots) (kk : zKK p9 l e9 s m9 ar bw me cd Q G b0 o ix (a 0) (b 0) cells slots) (j sp kd : Int) (rj : rg j) (rsp : rg sp) (rkd : rg kd) (x1 : xs (ix + 1).toNat = zI j) (x2 : xs (ix + 2).toNat = zI sp) (x3 : xs (ix + 3).toNat = zI kd) (hj : 0 ≤ j ∧ j < σ.rn) (hsp : 1 ≤ sp ∧ sp ≤ 9) (hkd : 0 ≤ kd ∧ kd ≤ 2) : W p9 l e9 room_1 s m9 ar bw me cd H [] cells slots Q (F0 m9 324 ls []) := by
  obtain ⟨S, hl0, hG, hX, hb, hL, h9⟩ := Z
  have kC : okC σ := I.C.2.2.2.2.2
  have kR : okR σ := I.M.2.2.2.2.2.2.2.2.2
  refine z_aload_n S dL_law_324 hl 1 rfl rfl ?_
  refine z_aload_n S dL_law_325 hl 0 rfl rfl ?_
  refine z_iload S dL_law_326 hl 4 rfl ?_
  refine z_iconst S dL_law_328 ?_
  refine z_iadd S dL_law_329 ?_
  refine z_sld S hX hb hS (i := ix + 1) (by omega) hL x1 dL_law_330 ?_
  refine z_aload_n S dL_law_331 hl 0 rfl rfl ?_
  refine z_iload S dL_law_332 hl 4 rfl ?_
  refine z_iconst S dL_law_334 ?_
  refine z_iadd S dL_law_335 ?_
  refine z_sld S hX hb hS (i := ix + 2) (by omega) hL x2 dL_law_336 ?_
  refine z_aload_n S dL_law_337 hl 0 rfl rfl ?_
  refine z_iload S dL_law_338 hl 4 rfl ?_
  refine z_iconst S dL_law_340 ?_
  refine z_iadd S dL_law_341 ?_
  refine z_sld S hX hb hS (i := ix + 3) (by omega) hL x3 dL_law_342 ?_
  refine z_aload_n S dL_law_343 hl 3 rfl rfl ?_
  refine z_callH S hG hS (w_turn_0 l hl0 G σ a o n0 sv I.iC I.ao j sp kd hj hsp hkd) (zA_co h9 I) okL_turn q3_27 (⟨I.C, I.O⟩) ⟨rfl, rfl, by decide, by decide⟩ ⟨(by have := hcs.1; omega), (by have := hcs.2; omega)⟩ rfl (Nat.le_of_ble_eq_true rfl) hl.1 rfl dL_law_344 (fun H_1 L_1 hB hz oq hS => ?_)
  refine z_fresh hS (fun hS => ?_)
  have I := I.stepO oq hB rfl
  refine z_istore (lv' := [(5, .int (zI (0))), (0, .ref (b0)), (1, .ref (a 0)), (2, .ref (b 0)), (3, .ref (o)), (4, .int (zI (ix)))]) S dL_law_347 hl (by decide) rfl (fun ls hl => ?_)
  refine z_aload_n S dL_law_349 hl 3 rfl rfl ?_
  refine z_aload_n S dL_law_350 hl 1 rfl rfl ?_
  refine z_iload S dL_law_351 hl 5 rfl ?_
  refine z_iconst S dL_law_353 ?_
  refine z_iadd S dL_law_354 ?_
  refine z_sld S hX hb hS (i := ix + 1) (by omega) hL x1 dL_law_355 ?_
  refine z_aload_n S dL_law_356 hl 1 rfl rfl ?_
  refine z_iload S dL_law_357 hl 5 rfl ?_
  refine z_iconst S dL_law_359 ?_
  refine z_iadd S dL_law_360 ?_
  refine z_sld S hX hb hS (i := ix + 2) (by omega) hL x2 dL_law_361 ?_
  refine z_aload_n S dL_law_362 hl 1 rfl rfl ?_
  refine z_iload S dL_law_363 hl 5 rfl ?_
  refine z_iconst S dL_law_365 ?_
  refine z_iadd S dL_law_366 ?_
  refine z_sld S hX hb hS (i := ix + 3) (by omega) hL x3 dL_law_367 ?_
  have ht : (0 : Int) = ec (!(decide (0 ≤ j) && decide (j ≤ σ.rn - 1))) (!((decide (1 ≤ sp) && decide (sp ≤ 9)) && (decide (0 ≤ kd) && decide (kd ≤ 2)))) := (ec_0 (by first | rfl | (simp only [Bool.not_eq_true', Bool.and_eq_true, Bool.or_eq_true, Bool.and_eq_false_iff, Bool.or_eq_false_iff, Bool.not_eq_false', decide_eq_true_eq, decide_eq_false_iff_not]; omega)) (by first | rfl | (simp only [Bool.not_eq_true', Bool.and_eq_true, Bool.or_eq_true, Bool.and_eq_false_iff, Bool.or_eq_false_iff, Bool.not_eq_false', decide_eq_true_eq, decide_eq_false_iff_not]; omega))).symm
  refine z_callM S hG hS (c_X4_turn l G σ b th m1 m2 I.iM kR j sp kd rj rsp rkd kC.1 0 ht) (zA_m h9 I) ok_X4_turn I.M.1 zc_X4 rfl q5_109 (I.M) ⟨rfl, rfl, by decide, by decide⟩ ⟨(by have := hcs.1; omega), (by have := hcs.2; omega)⟩ rfl (Nat.le_of_ble_eq_true rfl) hl.1 rfl dL_law_368 (fun H_2 L_2 hB hz oq hS => ?_)
  refine z_fresh hS (fun hS => ?_)
  have I := I.stepN (τ' := (σ.wR σ.rn σ.F σ.L (up σ.S j sp) (up σ.K j kd))) oq (fun q hq z => z) hB rfl rfl
  refine z_istore (lv' := [(6, .int (_)), (5, .int (zI (0))), (0, .ref (b0)), (1, .ref (a 0)), (2, .ref (b 0)), (3, .ref (o)), (4, .int (zI (ix)))]) S dL_law_371 hl (by decide) rfl (fun ls hl => ?_)
  refine z_goto S 985 dL_law_373 (by decide) ?_
  refine W.widen (k := cells + 1000) (n := slots + 10000) (by omega) (by omega) ?_
  exact kk _ _ _ _ _ _ _ _ _ _ hS I (rfl) (rfl) (lv_sub hl [2, 3, 4, 5, 6] rfl)
set_option maxHeartbeats 4000000 in
set_option maxRecDepth 100000 in
theorem lw_turn_1 (Z : zLaw p9 l s m9 cd ar G b0 L xs) (hS : va_S (fun q => s.heap.size ≤ q) s.heap H []) (I : zInv G σ a σ b th m1 m2 o n0 sv H) (hl : lv_has ls 9 [(0, .ref (b0)), (1, .ref (a 0)), (2, .ref (b 0)), (3, .ref (o)), (4, .int (zI (ix)))]) (hix : 0 ≤ ix ∧ ix + 4 < L) (hcs : cells + 1000 ≤ room_1.cells ∧ slots + 10000 ≤ room_1.slots) (kk : zKK p9 l e9 s m9 ar bw me cd Q G b0 o ix (a 0) (b 0) cells slots) (j sp kd : Int) (rj : rg j) (rsp : rg sp) (rkd : rg kd) (x1 : xs (ix + 1).toNat = zI j) (x2 : xs (ix + 2).toNat = zI sp) (x3 : xs (ix + 3).toNat = zI kd) (h1 : ¬ (0 ≤ j ∧ j < σ.rn)) : W p9 l e9 room_1 s m9 ar bw me cd H [] cells slots Q (F0 m9 324 ls []) := by
  obtain ⟨S, hl0, hG, hX, hb, hL, h9⟩ := Z
  have kC : okC σ := I.C.2.2.2.2.2
  have kR : okR σ := I.M.2.2.2.2.2.2.2.2.2
  refine z_aload_n S dL_law_324 hl 1 rfl rfl ?_
  refine z_aload_n S dL_law_325 hl 0 rfl rfl ?_
  refine z_iload S dL_law_326 hl 4 rfl ?_
  refine z_iconst S dL_law_328 ?_
  refine z_iadd S dL_law_329 ?_
  refine z_sld S hX hb hS (i := ix + 1) (by omega) hL x1 dL_law_330 ?_
  refine z_aload_n S dL_law_331 hl 0 rfl rfl ?_
  refine z_iload S dL_law_332 hl 4 rfl ?_
  refine z_iconst S dL_law_334 ?_
  refine z_iadd S dL_law_335 ?_
  refine z_sld S hX hb hS (i := ix + 2) (by omega) hL x2 dL_law_336 ?_
  refine z_aload_n S dL_law_337 hl 0 rfl rfl ?_
  refine z_iload S dL_law_338 hl 4 rfl ?_
  refine z_iconst S dL_law_340 ?_
  refine z_iadd S dL_law_341 ?_
  refine z_sld S hX hb hS (i := ix + 3) (by omega) hL x3 dL_law_342 ?_
  refine z_aload_n S dL_law_343 hl 3 rfl rfl ?_
  refine z_callH S hG hS (w_turn_1 l hl0 G σ a o n0 sv j sp kd rj rsp rkd h1) (fun _ z => z.elim) okL_turn q3_27 (⟨I.C, I.xp⟩) ⟨rfl, rfl, by decide, by decide⟩ ⟨(by have := hcs.1; omega), (by have := hcs.2; omega)⟩ rfl (Nat.le_of_ble_eq_true rfl) hl.1 rfl dL_law_344 (fun H_1 L_1 hB hz oq hS => ?_)
  refine z_fresh hS (fun hS => ?_)
  have I := I.step0 oq
  refine z_istore (lv' := [(5, .int (zI (1))), (0, .ref (b0)), (1, .ref (a 0)), (2, .ref (b 0)), (3, .ref (o)), (4, .int (zI (ix)))]) S dL_law_347 hl (by decide) rfl (fun ls hl => ?_)
  refine z_aload_n S dL_law_349 hl 3 rfl rfl ?_
  refine z_aload_n S dL_law_350 hl 1 rfl rfl ?_
  refine z_iload S dL_law_351 hl 5 rfl ?_
  refine z_iconst S dL_law_353 ?_
  refine z_iadd S dL_law_354 ?_
  refine z_sld S hX hb hS (i := ix + 1) (by omega) hL x1 dL_law_355 ?_
  refine z_aload_n S dL_law_356 hl 1 rfl rfl ?_
  refine z_iload S dL_law_357 hl 5 rfl ?_
  refine z_iconst S dL_law_359 ?_
  refine z_iadd S dL_law_360 ?_
  refine z_sld S hX hb hS (i := ix + 2) (by omega) hL x2 dL_law_361 ?_
  refine z_aload_n S dL_law_362 hl 1 rfl rfl ?_
  refine z_iload S dL_law_363 hl 5 rfl ?_
  refine z_iconst S dL_law_365 ?_
  refine z_iadd S dL_law_366 ?_
  refine z_sld S hX hb hS (i := ix + 3) (by omega) hL x3 dL_law_367 ?_
  have ht : (1 : Int) = ec (!(decide (0 ≤ j) && decide (j ≤ σ.rn - 1))) (!((decide (1 ≤ sp) && decide (sp ≤ 9)) && (decide (0 ≤ kd) && decide (kd ≤ 2)))) := (ec_1 (by first | rfl | (simp only [Bool.not_eq_true', Bool.and_eq_true, Bool.or_eq_true, Bool.and_eq_false_iff, Bool.or_eq_false_iff, Bool.not_eq_false', decide_eq_true_eq, decide_eq_false_iff_not]; omega))).symm
  refine z_callM S hG hS (c_X4_turn l G σ b th m1 m2 I.iM kR j sp kd rj rsp rkd kC.1 1 ht) (zA_m h9 I) ok_X4_turn I.M.1 zc_X4 rfl q5_109 (I.M) ⟨rfl, rfl, by decide, by decide⟩ ⟨(by have := hcs.1; omega), (by have := hcs.2; omega)⟩ rfl (Nat.le_of_ble_eq_true rfl) hl.1 rfl dL_law_368 (fun H_2 L_2 hB hz oq hS => ?_)
  refine z_fresh hS (fun hS => ?_)
  have I := I.stepN (τ' := σ) oq (fun q hq z => z) hB rfl rfl
  refine z_istore (lv' := [(6, .int (_)), (5, .int (zI (1))), (0, .ref (b0)), (1, .ref (a 0)), (2, .ref (b 0)), (3, .ref (o)), (4, .int (zI (ix)))]) S dL_law_371 hl (by decide) rfl (fun ls hl => ?_)
  refine z_goto S 985 dL_law_373 (by decide) ?_
  refine W.widen (k := cells + 1000) (n := slots + 10000) (by omega) (by omega) ?_
  exact kk _ _ _ _ _ _ _ _ _ _ hS I (rfl) (rfl) (lv_sub hl [2, 3, 4, 5, 6] rfl)
set_option maxHeartbeats 4000000 in
set_option maxRecDepth 100000 in
theorem lw_turn_2 (Z : zLaw p9 l s m9 cd ar G b0 L xs) (hS : va_S (fun q => s.heap.size ≤ q) s.heap H []) (I : zInv G σ a σ b th m1 m2 o n0 sv H) (hl : lv_has ls 9 [(0, .ref (b0)), (1, .ref (a 0)), (2, .ref (b 0)), (3, .ref (o)), (4, .int (zI (ix)))]) (hix : 0 ≤ ix ∧ ix + 4 < L) (hcs : cells + 1000 ≤ room_1.cells ∧ slots + 10000 ≤ room_1.slots) (kk : zKK p9 l e9 s m9 ar bw me cd Q G b0 o ix (a 0) (b 0) cells slots) (j sp kd : Int) (rj : rg j) (rsp : rg sp) (rkd : rg kd) (x1 : xs (ix + 1).toNat = zI j) (x2 : xs (ix + 2).toNat = zI sp) (x3 : xs (ix + 3).toNat = zI kd) (h1 : 0 ≤ j ∧ j < σ.rn) (h2 : ¬ ((1 ≤ sp ∧ sp ≤ 9) ∧ (0 ≤ kd ∧ kd ≤ 2))) : W p9 l e9 room_1 s m9 ar bw me cd H [] cells slots Q (F0 m9 324 ls []) := by
  obtain ⟨S, hl0, hG, hX, hb, hL, h9⟩ := Z
  have kC : okC σ := I.C.2.2.2.2.2
  have kR : okR σ := I.M.2.2.2.2.2.2.2.2.2
  refine z_aload_n S dL_law_324 hl 1 rfl rfl ?_
  refine z_aload_n S dL_law_325 hl 0 rfl rfl ?_
  refine z_iload S dL_law_326 hl 4 rfl ?_
  refine z_iconst S dL_law_328 ?_
  refine z_iadd S dL_law_329 ?_
  refine z_sld S hX hb hS (i := ix + 1) (by omega) hL x1 dL_law_330 ?_
  refine z_aload_n S dL_law_331 hl 0 rfl rfl ?_
  refine z_iload S dL_law_332 hl 4 rfl ?_
  refine z_iconst S dL_law_334 ?_
  refine z_iadd S dL_law_335 ?_
  refine z_sld S hX hb hS (i := ix + 2) (by omega) hL x2 dL_law_336 ?_
  refine z_aload_n S dL_law_337 hl 0 rfl rfl ?_
  refine z_iload S dL_law_338 hl 4 rfl ?_
  refine z_iconst S dL_law_340 ?_
  refine z_iadd S dL_law_341 ?_
  refine z_sld S hX hb hS (i := ix + 3) (by omega) hL x3 dL_law_342 ?_
  refine z_aload_n S dL_law_343 hl 3 rfl rfl ?_
  refine z_callH S hG hS (w_turn_2 l hl0 G σ a o n0 sv j sp kd rj rsp rkd h1 h2) (fun _ z => z.elim) okL_turn q3_27 (⟨I.C, I.xp⟩) ⟨rfl, rfl, by decide, by decide⟩ ⟨(by have := hcs.1; omega), (by have := hcs.2; omega)⟩ rfl (Nat.le_of_ble_eq_true rfl) hl.1 rfl dL_law_344 (fun H_1 L_1 hB hz oq hS => ?_)
  refine z_fresh hS (fun hS => ?_)
  have I := I.step0 oq
  refine z_istore (lv' := [(5, .int (zI (2))), (0, .ref (b0)), (1, .ref (a 0)), (2, .ref (b 0)), (3, .ref (o)), (4, .int (zI (ix)))]) S dL_law_347 hl (by decide) rfl (fun ls hl => ?_)
  refine z_aload_n S dL_law_349 hl 3 rfl rfl ?_
  refine z_aload_n S dL_law_350 hl 1 rfl rfl ?_
  refine z_iload S dL_law_351 hl 5 rfl ?_
  refine z_iconst S dL_law_353 ?_
  refine z_iadd S dL_law_354 ?_
  refine z_sld S hX hb hS (i := ix + 1) (by omega) hL x1 dL_law_355 ?_
  refine z_aload_n S dL_law_356 hl 1 rfl rfl ?_
  refine z_iload S dL_law_357 hl 5 rfl ?_
  refine z_iconst S dL_law_359 ?_
  refine z_iadd S dL_law_360 ?_
  refine z_sld S hX hb hS (i := ix + 2) (by omega) hL x2 dL_law_361 ?_
  refine z_aload_n S dL_law_362 hl 1 rfl rfl ?_
  refine z_iload S dL_law_363 hl 5 rfl ?_
  refine z_iconst S dL_law_365 ?_
  refine z_iadd S dL_law_366 ?_
  refine z_sld S hX hb hS (i := ix + 3) (by omega) hL x3 dL_law_367 ?_
  have ht : (2 : Int) = ec (!(decide (0 ≤ j) && decide (j ≤ σ.rn - 1))) (!((decide (1 ≤ sp) && decide (sp ≤ 9)) && (decide (0 ≤ kd) && decide (kd ≤ 2)))) := (ec_2 (by first | rfl | (simp only [Bool.not_eq_true', Bool.and_eq_true, Bool.or_eq_true, Bool.and_eq_false_iff, Bool.or_eq_false_iff, Bool.not_eq_false', decide_eq_true_eq, decide_eq_false_iff_not]; omega)) (by first | rfl | (simp only [Bool.not_eq_true', Bool.and_eq_true, Bool.or_eq_true, Bool.and_eq_false_iff, Bool.or_eq_false_iff, Bool.not_eq_false', decide_eq_true_eq, decide_eq_false_iff_not]; omega))).symm
  refine z_callM S hG hS (c_X4_turn l G σ b th m1 m2 I.iM kR j sp kd rj rsp rkd kC.1 2 ht) (zA_m h9 I) ok_X4_turn I.M.1 zc_X4 rfl q5_109 (I.M) ⟨rfl, rfl, by decide, by decide⟩ ⟨(by have := hcs.1; omega), (by have := hcs.2; omega)⟩ rfl (Nat.le_of_ble_eq_true rfl) hl.1 rfl dL_law_368 (fun H_2 L_2 hB hz oq hS => ?_)
  refine z_fresh hS (fun hS => ?_)
  have I := I.stepN (τ' := σ) oq (fun q hq z => z) hB rfl rfl
  refine z_istore (lv' := [(6, .int (_)), (5, .int (zI (2))), (0, .ref (b0)), (1, .ref (a 0)), (2, .ref (b 0)), (3, .ref (o)), (4, .int (zI (ix)))]) S dL_law_371 hl (by decide) rfl (fun ls hl => ?_)
  refine z_goto S 985 dL_law_373 (by decide) ?_
  refine W.widen (k := cells + 1000) (n := slots + 10000) (by omega) (by omega) ?_
  exact kk _ _ _ _ _ _ _ _ _ _ hS I (rfl) (rfl) (lv_sub hl [2, 3, 4, 5, 6] rfl)
theorem q3_38 : (Jvm.Cond.methodLink "CyclepaintLaw" (111 : Nat) ({ cls := "CyclepaintLaw", name := "stop", desc := "(LCyclepaint;ILCyclepaintLaw$Out;)I" } : Jvm.MethodName)) ∈ lw_g := zg_of (zin3 (List.mem_of_getElem? (i := 38) rfl)) rfl
theorem q5_120 : (Jvm.Cond.methodLink "CyclepaintLaw" (114 : Nat) ({ cls := "CyclepaintModel", name := "stop", desc := "(I)I" } : Jvm.MethodName)) ∈ lw_g := zg_of (zin5 (List.mem_of_getElem? (i := 120) rfl)) rfl
set_option maxHeartbeats 4000000 in
set_option maxRecDepth 100000 in
theorem lw_stop_0 (Z : zLaw p9 l s m9 cd ar G b0 L xs) (hS : va_S (fun q => s.heap.size ≤ q) s.heap H []) (I : zInv G σ a σ b th m1 m2 o n0 sv H) (hl : lv_has ls 9 [(0, .ref (b0)), (1, .ref (a 0)), (2, .ref (b 0)), (3, .ref (o)), (4, .int (zI (ix)))]) (hix : 0 ≤ ix ∧ ix + 4 < L) (hcs : cells + 1000 ≤ room_1.cells ∧ slots + 10000 ≤ room_1.slots) (kk : zKK p9 l e9 s m9 ar bw me cd Q G b0 o ix (a 0) (b 0) cells slots) (j : Int) (rj : rg j) (x1 : xs (ix + 1).toNat = zI j) (hj : 0 ≤ j ∧ j < σ.rn) : W p9 l e9 room_1 s m9 ar bw me cd H [] cells slots Q (F0 m9 376 ls []) := by
  obtain ⟨S, hl0, hG, hX, hb, hL, h9⟩ := Z
  have kC : okC σ := I.C.2.2.2.2.2
  have kR : okR σ := I.M.2.2.2.2.2.2.2.2.2
  refine z_aload_n S dL_law_376 hl 1 rfl rfl ?_
  refine z_aload_n S dL_law_377 hl 0 rfl rfl ?_
  refine z_iload S dL_law_378 hl 4 rfl ?_
  refine z_iconst S dL_law_380 ?_
  refine z_iadd S dL_law_381 ?_
  refine z_sld S hX hb hS (i := ix + 1) (by omega) hL x1 dL_law_382 ?_
  refine z_aload_n S dL_law_383 hl 3 rfl rfl ?_
  refine z_callH S hG hS (w_stop_0 l hl0 G σ a o n0 sv I.iC I.ao j hj) (zA_co h9 I) okL_stop q3_38 (⟨I.C, I.O⟩) ⟨rfl, rfl, by decide, by decide⟩ ⟨(by have := hcs.1; omega), (by have := hcs.2; omega)⟩ rfl (Nat.le_of_ble_eq_true rfl) hl.1 rfl dL_law_384 (fun H_1 L_1 hB hz oq hS => ?_)
  refine z_fresh hS (fun hS => ?_)
  have I := I.stepCdel hj.1 hj.2 kR.1.2 oq hB
  refine z_istore (lv' := [(5, .int (zI (0))), (0, .ref (b0)), (1, .ref (a 0)), (2, .ref (b 0)), (3, .ref (o)), (4, .int (zI (ix)))]) S dL_law_387 hl (by decide) rfl (fun ls hl => ?_)
  refine z_aload_n S dL_law_389 hl 3 rfl rfl ?_
  refine z_aload_n S dL_law_390 hl 1 rfl rfl ?_
  refine z_iload S dL_law_391 hl 5 rfl ?_
  refine z_iconst S dL_law_393 ?_
  refine z_iadd S dL_law_394 ?_
  refine z_sld S hX hb hS (i := ix + 1) (by omega) hL x1 dL_law_395 ?_
  have ht : (0 : Int) = ec (!(decide (0 ≤ j) && decide (j ≤ σ.rn - 1))) (false) := (ec_0 (by first | rfl | (simp only [Bool.not_eq_true', Bool.and_eq_true, Bool.or_eq_true, Bool.and_eq_false_iff, Bool.or_eq_false_iff, Bool.not_eq_false', decide_eq_true_eq, decide_eq_false_iff_not]; omega)) (by first | rfl | (simp only [Bool.not_eq_true', Bool.and_eq_true, Bool.or_eq_true, Bool.and_eq_false_iff, Bool.or_eq_false_iff, Bool.not_eq_false', decide_eq_true_eq, decide_eq_false_iff_not]; omega))).symm
  refine z_callM S hG hS (c_X4_stop l G σ b th m1 m2 I.iM kR j rj 0 ht) (zA_m h9 I) ok_X4_stop I.M.1 zc_X4 rfl q5_120 (I.M) ⟨rfl, rfl, by decide, by decide⟩ ⟨(by have := hcs.1; omega), (by have := hcs.2; omega)⟩ rfl (Nat.le_of_ble_eq_true rfl) hl.1 rfl dL_law_396 (fun H_2 L_2 hB hz oq hS => ?_)
  refine z_fresh hS (fun hS => ?_)
  have I := I.stepDel hj.1 hj.2 oq hB.1 (hB.2 rfl)
  refine z_istore (lv' := [(6, .int (_)), (5, .int (zI (0))), (0, .ref (b0)), (1, .ref (a 0)), (2, .ref (b 0)), (3, .ref (o)), (4, .int (zI (ix)))]) S dL_law_399 hl (by decide) rfl (fun ls hl => ?_)
  refine z_goto S 985 dL_law_401 (by decide) ?_
  refine W.widen (k := cells + 1000) (n := slots + 10000) (by omega) (by omega) ?_
  exact kk _ _ _ _ _ _ _ _ _ _ hS I (delB_s a j (by decide)) (delB_s b j (by decide)) (lv_sub hl [2, 3, 4, 5, 6] rfl)
set_option maxHeartbeats 4000000 in
set_option maxRecDepth 100000 in
theorem lw_stop_1 (Z : zLaw p9 l s m9 cd ar G b0 L xs) (hS : va_S (fun q => s.heap.size ≤ q) s.heap H []) (I : zInv G σ a σ b th m1 m2 o n0 sv H) (hl : lv_has ls 9 [(0, .ref (b0)), (1, .ref (a 0)), (2, .ref (b 0)), (3, .ref (o)), (4, .int (zI (ix)))]) (hix : 0 ≤ ix ∧ ix + 4 < L) (hcs : cells + 1000 ≤ room_1.cells ∧ slots + 10000 ≤ room_1.slots) (kk : zKK p9 l e9 s m9 ar bw me cd Q G b0 o ix (a 0) (b 0) cells slots) (j : Int) (rj : rg j) (x1 : xs (ix + 1).toNat = zI j) (h1 : ¬ (0 ≤ j ∧ j < σ.rn)) : W p9 l e9 room_1 s m9 ar bw me cd H [] cells slots Q (F0 m9 376 ls []) := by
  obtain ⟨S, hl0, hG, hX, hb, hL, h9⟩ := Z
  have kC : okC σ := I.C.2.2.2.2.2
  have kR : okR σ := I.M.2.2.2.2.2.2.2.2.2
  refine z_aload_n S dL_law_376 hl 1 rfl rfl ?_
  refine z_aload_n S dL_law_377 hl 0 rfl rfl ?_
  refine z_iload S dL_law_378 hl 4 rfl ?_
  refine z_iconst S dL_law_380 ?_
  refine z_iadd S dL_law_381 ?_
  refine z_sld S hX hb hS (i := ix + 1) (by omega) hL x1 dL_law_382 ?_
  refine z_aload_n S dL_law_383 hl 3 rfl rfl ?_
  refine z_callH S hG hS (w_stop_1 l hl0 G σ a o n0 sv j rj h1) (fun _ z => z.elim) okL_stop q3_38 (⟨I.C, I.xp⟩) ⟨rfl, rfl, by decide, by decide⟩ ⟨(by have := hcs.1; omega), (by have := hcs.2; omega)⟩ rfl (Nat.le_of_ble_eq_true rfl) hl.1 rfl dL_law_384 (fun H_1 L_1 hB hz oq hS => ?_)
  refine z_fresh hS (fun hS => ?_)
  have I := I.step0 oq
  refine z_istore (lv' := [(5, .int (zI (1))), (0, .ref (b0)), (1, .ref (a 0)), (2, .ref (b 0)), (3, .ref (o)), (4, .int (zI (ix)))]) S dL_law_387 hl (by decide) rfl (fun ls hl => ?_)
  refine z_aload_n S dL_law_389 hl 3 rfl rfl ?_
  refine z_aload_n S dL_law_390 hl 1 rfl rfl ?_
  refine z_iload S dL_law_391 hl 5 rfl ?_
  refine z_iconst S dL_law_393 ?_
  refine z_iadd S dL_law_394 ?_
  refine z_sld S hX hb hS (i := ix + 1) (by omega) hL x1 dL_law_395 ?_
  have ht : (1 : Int) = ec (!(decide (0 ≤ j) && decide (j ≤ σ.rn - 1))) (false) := (ec_1 (by first | rfl | (simp only [Bool.not_eq_true', Bool.and_eq_true, Bool.or_eq_true, Bool.and_eq_false_iff, Bool.or_eq_false_iff, Bool.not_eq_false', decide_eq_true_eq, decide_eq_false_iff_not]; omega))).symm
  refine z_callM S hG hS (c_X4_stop l G σ b th m1 m2 I.iM kR j rj 1 ht) (zA_m h9 I) ok_X4_stop I.M.1 zc_X4 rfl q5_120 (I.M) ⟨rfl, rfl, by decide, by decide⟩ ⟨(by have := hcs.1; omega), (by have := hcs.2; omega)⟩ rfl (Nat.le_of_ble_eq_true rfl) hl.1 rfl dL_law_396 (fun H_2 L_2 hB hz oq hS => ?_)
  refine z_fresh hS (fun hS => ?_)
  have hB := hB.1
  have I := I.stepN (τ' := σ) oq (fun q hq z => z) hB rfl rfl
  refine z_istore (lv' := [(6, .int (_)), (5, .int (zI (1))), (0, .ref (b0)), (1, .ref (a 0)), (2, .ref (b 0)), (3, .ref (o)), (4, .int (zI (ix)))]) S dL_law_399 hl (by decide) rfl (fun ls hl => ?_)
  refine z_goto S 985 dL_law_401 (by decide) ?_
  refine W.widen (k := cells + 1000) (n := slots + 10000) (by omega) (by omega) ?_
  exact kk _ _ _ _ _ _ _ _ _ _ hS I (rfl) (rfl) (lv_sub hl [2, 3, 4, 5, 6] rfl)
theorem q1_85 : (Jvm.Cond.methodLink "CyclepaintLaw" (115 : Nat) ({ cls := "Cyclepaint", name := "merge", desc := "()I" } : Jvm.MethodName)) ∈ lw_g := zg_of (zin1 (List.mem_of_getElem? (i := 85) rfl)) rfl
theorem q5_133 : (Jvm.Cond.methodLink "CyclepaintLaw" (118 : Nat) ({ cls := "CyclepaintModel", name := "merge", desc := "()I" } : Jvm.MethodName)) ∈ lw_g := zg_of (zin5 (List.mem_of_getElem? (i := 133) rfl)) rfl
set_option maxHeartbeats 4000000 in
set_option maxRecDepth 100000 in
theorem lw_merge_0 (Z : zLaw p9 l s m9 cd ar G b0 L xs) (hS : va_S (fun q => s.heap.size ≤ q) s.heap H []) (I : zInv G σ a σ b th m1 m2 o n0 sv H) (hl : lv_has ls 9 [(0, .ref (b0)), (1, .ref (a 0)), (2, .ref (b 0)), (3, .ref (o)), (4, .int (zI (ix)))]) (hix : 0 ≤ ix ∧ ix + 4 < L) (hcs : cells + 1000 ≤ room_1.cells ∧ slots + 10000 ≤ room_1.slots) (kk : zKK p9 l e9 s m9 ar bw me cd Q G b0 o ix (a 0) (b 0) cells slots)   : W p9 l e9 room_1 s m9 ar bw me cd H [] cells slots Q (F0 m9 404 ls []) := by
  obtain ⟨S, hl0, hG, hX, hb, hL, h9⟩ := Z
  have kC : okC σ := I.C.2.2.2.2.2
  have kR : okR σ := I.M.2.2.2.2.2.2.2.2.2
  refine z_aload_n S dL_law_404 hl 1 rfl rfl ?_
  refine z_callM S hG hS (c_X2_merge l G σ a I.iC) (zA_c h9 I) ok_X2_merge I.C.1 zc_X2 rfl q1_85 I.C ⟨rfl, rfl, by decide, by decide⟩ ⟨(by have := hcs.1; omega), (by have := hcs.2; omega)⟩ rfl (Nat.le_of_ble_eq_true rfl) hl.1 rfl dL_law_405 (fun H_1 L_1 hB hz oq hS => ?_)
  refine z_fresh hS (fun hS => ?_)
  rw [mrg_CM kR kC.2.1] at hB
  have I := I.stepW oq hB rfl
  refine lv_pop S.1 S.2.1 dL_law_408 rfl ?_
  refine z_aload_n S dL_law_409 hl 2 rfl rfl ?_
  refine z_callM S hG hS (c_X4_merge l G σ b th m1 m2 I.iM kR kC.2.1) (zA_m h9 I) ok_X4_merge I.M.1 zc_X4 rfl q5_133 (I.M) ⟨rfl, rfl, by decide, by decide⟩ ⟨(by have := hcs.1; omega), (by have := hcs.2; omega)⟩ rfl (Nat.le_of_ble_eq_true rfl) hl.1 rfl dL_law_410 (fun H_2 L_2 hB hz oq hS => ?_)
  refine z_fresh hS (fun hS => ?_)
  have I := I.stepN (τ' := (σ.wD (mrg (smM σ) σ.Dt 32))) oq (fun q hq z => z) hB rfl rfl
  refine lv_pop S.1 S.2.1 dL_law_413 rfl ?_
  refine z_goto S 985 dL_law_414 (by decide) ?_
  refine W.widen (k := cells + 1000) (n := slots + 10000) (by omega) (by omega) ?_
  exact kk _ _ _ _ _ _ _ _ _ _ hS I (rfl) (rfl) (lv_sub hl [0, 1, 2, 3, 4] rfl)
theorem q3_49 : (Jvm.Cond.methodLink "CyclepaintLaw" (119 : Nat) ({ cls := "CyclepaintLaw", name := "run", desc := "(LCyclepaint;ILCyclepaintLaw$Out;)I" } : Jvm.MethodName)) ∈ lw_g := zg_of (zin3 (List.mem_of_getElem? (i := 49) rfl)) rfl
theorem q5_167 : (Jvm.Cond.methodLink "CyclepaintLaw" (121 : Nat) ({ cls := "CyclepaintModel", name := "run", desc := "(I)I" } : Jvm.MethodName)) ∈ lw_g := zg_of (zin5 (List.mem_of_getElem? (i := 167) rfl)) rfl
set_option maxHeartbeats 4000000 in
set_option maxRecDepth 100000 in
theorem lw_run_0 (Z : zLaw p9 l s m9 cd ar G b0 L xs) (hS : va_S (fun q => s.heap.size ≤ q) s.heap H []) (I : zInv G σ a σ b th m1 m2 o n0 sv H) (hl : lv_has ls 9 [(0, .ref (b0)), (1, .ref (a 0)), (2, .ref (b 0)), (3, .ref (o)), (4, .int (zI (ix)))]) (hix : 0 ≤ ix ∧ ix + 4 < L) (hcs : cells + 1000 ≤ room_1.cells ∧ slots + 10000 ≤ room_1.slots) (kk : zKK p9 l e9 s m9 ar bw me cd Q G b0 o ix (a 0) (b 0) cells slots) (n : Int) (rn : rg n) (x1 : xs (ix + 1).toNat = zI n) (hn : 1 ≤ n ∧ n ≤ 200) (hg : σ.tk + n ≤ 99999) : W p9 l e9 room_1 s m9 ar bw me cd H [] cells slots Q (F0 m9 417 ls []) := by
  obtain ⟨S, hl0, hG, hX, hb, hL, h9⟩ := Z
  have kC : okC σ := I.C.2.2.2.2.2
  have kR : okR σ := I.M.2.2.2.2.2.2.2.2.2
  refine z_aload_n S dL_law_417 hl 1 rfl rfl ?_
  refine z_aload_n S dL_law_418 hl 0 rfl rfl ?_
  refine z_iload S dL_law_419 hl 4 rfl ?_
  refine z_iconst S dL_law_421 ?_
  refine z_iadd S dL_law_422 ?_
  refine z_sld S hX hb hS (i := ix + 1) (by omega) hL x1 dL_law_423 ?_
  refine z_aload_n S dL_law_424 hl 3 rfl rfl ?_
  refine z_callH S hG hS (w_run_0 l hl0 G σ a o n0 sv I.iC I.ao n hn hg) (zA_co h9 I) okL_run q3_49 (⟨I.C, I.O⟩) ⟨rfl, rfl, by decide, by decide⟩ ⟨(by have := hcs.1; omega), (by have := hcs.2; omega)⟩ rfl (Nat.le_of_ble_eq_true rfl) hl.1 rfl dL_law_425 (fun H_1 L_1 hB hz oq hS => ?_)
  refine z_fresh hS (fun hS => ?_)
  have I := I.stepO oq hB rfl
  refine z_istore (lv' := [(5, .int (zI (0))), (0, .ref (b0)), (1, .ref (a 0)), (2, .ref (b 0)), (3, .ref (o)), (4, .int (zI (ix)))]) S dL_law_428 hl (by decide) rfl (fun ls hl => ?_)
  refine z_aload_n S dL_law_430 hl 3 rfl rfl ?_
  refine z_aload_n S dL_law_431 hl 1 rfl rfl ?_
  refine z_iload S dL_law_432 hl 5 rfl ?_
  refine z_iconst S dL_law_434 ?_
  refine z_iadd S dL_law_435 ?_
  refine z_sld S hX hb hS (i := ix + 1) (by omega) hL x1 dL_law_436 ?_
  have ht : (0 : Int) = ec (!(decide (1 ≤ n) && decide (n ≤ 200))) (decide (99999 < σ.tk + n)) := (ec_0 (by first | rfl | (simp only [Bool.not_eq_true', Bool.and_eq_true, Bool.or_eq_true, Bool.and_eq_false_iff, Bool.or_eq_false_iff, Bool.not_eq_false', decide_eq_true_eq, decide_eq_false_iff_not]; omega)) (by first | rfl | (simp only [Bool.not_eq_true', Bool.and_eq_true, Bool.or_eq_true, Bool.and_eq_false_iff, Bool.or_eq_false_iff, Bool.not_eq_false', decide_eq_true_eq, decide_eq_false_iff_not]; omega))).symm
  refine z_callM S hG hS (c_X4_run l G σ b th m1 m2 I.iM kR n rn kC.2.1 kC.1 0 ht) (zA_m h9 I) ok_X4_run I.M.1 zc_X4 rfl q5_167 (I.M) ⟨rfl, rfl, by decide, by decide⟩ ⟨(by have := hcs.1; omega), (by have := hcs.2; omega)⟩ rfl (Nat.le_of_ble_eq_true rfl) hl.1 rfl dL_law_437 (fun H_2 L_2 hB hz oq hS => ?_)
  refine z_fresh hS (fun hS => ?_)
  have I := I.stepN (τ' := (σ.wO (σ.tk + n) σ.lim σ.rf)) oq (fun q hq z => z) hB rfl rfl
  refine z_istore (lv' := [(6, .int (_)), (5, .int (zI (0))), (0, .ref (b0)), (1, .ref (a 0)), (2, .ref (b 0)), (3, .ref (o)), (4, .int (zI (ix)))]) S dL_law_440 hl (by decide) rfl (fun ls hl => ?_)
  refine z_goto S 985 dL_law_442 (by decide) ?_
  refine W.widen (k := cells + 1000) (n := slots + 10000) (by omega) (by omega) ?_
  exact kk _ _ _ _ _ _ _ _ _ _ hS I (rfl) (rfl) (lv_sub hl [2, 3, 4, 5, 6] rfl)
set_option maxHeartbeats 4000000 in
set_option maxRecDepth 100000 in
theorem lw_run_1 (Z : zLaw p9 l s m9 cd ar G b0 L xs) (hS : va_S (fun q => s.heap.size ≤ q) s.heap H []) (I : zInv G σ a σ b th m1 m2 o n0 sv H) (hl : lv_has ls 9 [(0, .ref (b0)), (1, .ref (a 0)), (2, .ref (b 0)), (3, .ref (o)), (4, .int (zI (ix)))]) (hix : 0 ≤ ix ∧ ix + 4 < L) (hcs : cells + 1000 ≤ room_1.cells ∧ slots + 10000 ≤ room_1.slots) (kk : zKK p9 l e9 s m9 ar bw me cd Q G b0 o ix (a 0) (b 0) cells slots) (n : Int) (rn : rg n) (x1 : xs (ix + 1).toNat = zI n) (h1 : ¬ (1 ≤ n ∧ n ≤ 200)) : W p9 l e9 room_1 s m9 ar bw me cd H [] cells slots Q (F0 m9 417 ls []) := by
  obtain ⟨S, hl0, hG, hX, hb, hL, h9⟩ := Z
  have kC : okC σ := I.C.2.2.2.2.2
  have kR : okR σ := I.M.2.2.2.2.2.2.2.2.2
  refine z_aload_n S dL_law_417 hl 1 rfl rfl ?_
  refine z_aload_n S dL_law_418 hl 0 rfl rfl ?_
  refine z_iload S dL_law_419 hl 4 rfl ?_
  refine z_iconst S dL_law_421 ?_
  refine z_iadd S dL_law_422 ?_
  refine z_sld S hX hb hS (i := ix + 1) (by omega) hL x1 dL_law_423 ?_
  refine z_aload_n S dL_law_424 hl 3 rfl rfl ?_
  refine z_callH S hG hS (w_run_1 l hl0 G σ a o n0 sv n rn h1) (fun _ z => z.elim) okL_run q3_49 (⟨I.C, I.xp⟩) ⟨rfl, rfl, by decide, by decide⟩ ⟨(by have := hcs.1; omega), (by have := hcs.2; omega)⟩ rfl (Nat.le_of_ble_eq_true rfl) hl.1 rfl dL_law_425 (fun H_1 L_1 hB hz oq hS => ?_)
  refine z_fresh hS (fun hS => ?_)
  have I := I.step0 oq
  refine z_istore (lv' := [(5, .int (zI (1))), (0, .ref (b0)), (1, .ref (a 0)), (2, .ref (b 0)), (3, .ref (o)), (4, .int (zI (ix)))]) S dL_law_428 hl (by decide) rfl (fun ls hl => ?_)
  refine z_aload_n S dL_law_430 hl 3 rfl rfl ?_
  refine z_aload_n S dL_law_431 hl 1 rfl rfl ?_
  refine z_iload S dL_law_432 hl 5 rfl ?_
  refine z_iconst S dL_law_434 ?_
  refine z_iadd S dL_law_435 ?_
  refine z_sld S hX hb hS (i := ix + 1) (by omega) hL x1 dL_law_436 ?_
  have ht : (1 : Int) = ec (!(decide (1 ≤ n) && decide (n ≤ 200))) (decide (99999 < σ.tk + n)) := (ec_1 (by first | rfl | (simp only [Bool.not_eq_true', Bool.and_eq_true, Bool.or_eq_true, Bool.and_eq_false_iff, Bool.or_eq_false_iff, Bool.not_eq_false', decide_eq_true_eq, decide_eq_false_iff_not]; omega))).symm
  refine z_callM S hG hS (c_X4_run l G σ b th m1 m2 I.iM kR n rn kC.2.1 kC.1 1 ht) (zA_m h9 I) ok_X4_run I.M.1 zc_X4 rfl q5_167 (I.M) ⟨rfl, rfl, by decide, by decide⟩ ⟨(by have := hcs.1; omega), (by have := hcs.2; omega)⟩ rfl (Nat.le_of_ble_eq_true rfl) hl.1 rfl dL_law_437 (fun H_2 L_2 hB hz oq hS => ?_)
  refine z_fresh hS (fun hS => ?_)
  have I := I.stepN (τ' := σ) oq (fun q hq z => z) hB rfl rfl
  refine z_istore (lv' := [(6, .int (_)), (5, .int (zI (1))), (0, .ref (b0)), (1, .ref (a 0)), (2, .ref (b 0)), (3, .ref (o)), (4, .int (zI (ix)))]) S dL_law_440 hl (by decide) rfl (fun ls hl => ?_)
  refine z_goto S 985 dL_law_442 (by decide) ?_
  refine W.widen (k := cells + 1000) (n := slots + 10000) (by omega) (by omega) ?_
  exact kk _ _ _ _ _ _ _ _ _ _ hS I (rfl) (rfl) (lv_sub hl [2, 3, 4, 5, 6] rfl)
set_option maxHeartbeats 4000000 in
set_option maxRecDepth 100000 in
theorem lw_run_2 (Z : zLaw p9 l s m9 cd ar G b0 L xs) (hS : va_S (fun q => s.heap.size ≤ q) s.heap H []) (I : zInv G σ a σ b th m1 m2 o n0 sv H) (hl : lv_has ls 9 [(0, .ref (b0)), (1, .ref (a 0)), (2, .ref (b 0)), (3, .ref (o)), (4, .int (zI (ix)))]) (hix : 0 ≤ ix ∧ ix + 4 < L) (hcs : cells + 1000 ≤ room_1.cells ∧ slots + 10000 ≤ room_1.slots) (kk : zKK p9 l e9 s m9 ar bw me cd Q G b0 o ix (a 0) (b 0) cells slots) (n : Int) (rn : rg n) (x1 : xs (ix + 1).toNat = zI n) (h1 : (1 ≤ n ∧ n ≤ 200)) (h2 : 99999 < σ.tk + n) : W p9 l e9 room_1 s m9 ar bw me cd H [] cells slots Q (F0 m9 417 ls []) := by
  obtain ⟨S, hl0, hG, hX, hb, hL, h9⟩ := Z
  have kC : okC σ := I.C.2.2.2.2.2
  have kR : okR σ := I.M.2.2.2.2.2.2.2.2.2
  refine z_aload_n S dL_law_417 hl 1 rfl rfl ?_
  refine z_aload_n S dL_law_418 hl 0 rfl rfl ?_
  refine z_iload S dL_law_419 hl 4 rfl ?_
  refine z_iconst S dL_law_421 ?_
  refine z_iadd S dL_law_422 ?_
  refine z_sld S hX hb hS (i := ix + 1) (by omega) hL x1 dL_law_423 ?_
  refine z_aload_n S dL_law_424 hl 3 rfl rfl ?_
  refine z_callH S hG hS (w_run_2 l hl0 G σ a o n0 sv n rn h1 h2) (fun _ z => z.elim) okL_run q3_49 (⟨I.C, I.xp⟩) ⟨rfl, rfl, by decide, by decide⟩ ⟨(by have := hcs.1; omega), (by have := hcs.2; omega)⟩ rfl (Nat.le_of_ble_eq_true rfl) hl.1 rfl dL_law_425 (fun H_1 L_1 hB hz oq hS => ?_)
  refine z_fresh hS (fun hS => ?_)
  have I := I.step0 oq
  refine z_istore (lv' := [(5, .int (zI (2))), (0, .ref (b0)), (1, .ref (a 0)), (2, .ref (b 0)), (3, .ref (o)), (4, .int (zI (ix)))]) S dL_law_428 hl (by decide) rfl (fun ls hl => ?_)
  refine z_aload_n S dL_law_430 hl 3 rfl rfl ?_
  refine z_aload_n S dL_law_431 hl 1 rfl rfl ?_
  refine z_iload S dL_law_432 hl 5 rfl ?_
  refine z_iconst S dL_law_434 ?_
  refine z_iadd S dL_law_435 ?_
  refine z_sld S hX hb hS (i := ix + 1) (by omega) hL x1 dL_law_436 ?_
  have ht : (2 : Int) = ec (!(decide (1 ≤ n) && decide (n ≤ 200))) (decide (99999 < σ.tk + n)) := (ec_2 (by first | rfl | (simp only [Bool.not_eq_true', Bool.and_eq_true, Bool.or_eq_true, Bool.and_eq_false_iff, Bool.or_eq_false_iff, Bool.not_eq_false', decide_eq_true_eq, decide_eq_false_iff_not]; omega)) (by first | rfl | (simp only [Bool.not_eq_true', Bool.and_eq_true, Bool.or_eq_true, Bool.and_eq_false_iff, Bool.or_eq_false_iff, Bool.not_eq_false', decide_eq_true_eq, decide_eq_false_iff_not]; omega))).symm
  refine z_callM S hG hS (c_X4_run l G σ b th m1 m2 I.iM kR n rn kC.2.1 kC.1 2 ht) (zA_m h9 I) ok_X4_run I.M.1 zc_X4 rfl q5_167 (I.M) ⟨rfl, rfl, by decide, by decide⟩ ⟨(by have := hcs.1; omega), (by have := hcs.2; omega)⟩ rfl (Nat.le_of_ble_eq_true rfl) hl.1 rfl dL_law_437 (fun H_2 L_2 hB hz oq hS => ?_)
  refine z_fresh hS (fun hS => ?_)
  have I := I.stepN (τ' := σ) oq (fun q hq z => z) hB rfl rfl
  refine z_istore (lv' := [(6, .int (_)), (5, .int (zI (2))), (0, .ref (b0)), (1, .ref (a 0)), (2, .ref (b 0)), (3, .ref (o)), (4, .int (zI (ix)))]) S dL_law_440 hl (by decide) rfl (fun ls hl => ?_)
  refine z_goto S 985 dL_law_442 (by decide) ?_
  refine W.widen (k := cells + 1000) (n := slots + 10000) (by omega) (by omega) ?_
  exact kk _ _ _ _ _ _ _ _ _ _ hS I (rfl) (rfl) (lv_sub hl [2, 3, 4, 5, 6] rfl)
theorem q3_62 : (Jvm.Cond.methodLink "CyclepaintLaw" (122 : Nat) ({ cls := "CyclepaintLaw", name := "jump", desc := "(LCyclepaint;ILCyclepaintLaw$Out;)I" } : Jvm.MethodName)) ∈ lw_g := zg_of (zin3 (List.mem_of_getElem? (i := 62) rfl)) rfl
theorem q5_172 : (Jvm.Cond.methodLink "CyclepaintLaw" (124 : Nat) ({ cls := "CyclepaintModel", name := "jump", desc := "(I)I" } : Jvm.MethodName)) ∈ lw_g := zg_of (zin5 (List.mem_of_getElem? (i := 172) rfl)) rfl
set_option maxHeartbeats 4000000 in
set_option maxRecDepth 100000 in
theorem lw_jump_0 (Z : zLaw p9 l s m9 cd ar G b0 L xs) (hS : va_S (fun q => s.heap.size ≤ q) s.heap H []) (I : zInv G σ a σ b th m1 m2 o n0 sv H) (hl : lv_has ls 9 [(0, .ref (b0)), (1, .ref (a 0)), (2, .ref (b 0)), (3, .ref (o)), (4, .int (zI (ix)))]) (hix : 0 ≤ ix ∧ ix + 4 < L) (hcs : cells + 1000 ≤ room_1.cells ∧ slots + 10000 ≤ room_1.slots) (kk : zKK p9 l e9 s m9 ar bw me cd Q G b0 o ix (a 0) (b 0) cells slots) (x : Int) (rx : rg x) (x1 : xs (ix + 1).toNat = zI x) (hx : 0 ≤ x ∧ x ≤ 99999) : W p9 l e9 room_1 s m9 ar bw me cd H [] cells slots Q (F0 m9 445 ls []) := by
  obtain ⟨S, hl0, hG, hX, hb, hL, h9⟩ := Z
  have kC : okC σ := I.C.2.2.2.2.2
  have kR : okR σ := I.M.2.2.2.2.2.2.2.2.2
  refine z_aload_n S dL_law_445 hl 1 rfl rfl ?_
  refine z_aload_n S dL_law_446 hl 0 rfl rfl ?_
  refine z_iload S dL_law_447 hl 4 rfl ?_
  refine z_iconst S dL_law_449 ?_
  refine z_iadd S dL_law_450 ?_
  refine z_sld S hX hb hS (i := ix + 1) (by omega) hL x1 dL_law_451 ?_
  refine z_aload_n S dL_law_452 hl 3 rfl rfl ?_
  refine z_callH S hG hS (w_jump_0 l hl0 G σ a o n0 sv I.iC I.ao x hx) (zA_co h9 I) okL_jump q3_62 (⟨I.C, I.O⟩) ⟨rfl, rfl, by decide, by decide⟩ ⟨(by have := hcs.1; omega), (by have := hcs.2; omega)⟩ rfl (Nat.le_of_ble_eq_true rfl) hl.1 rfl dL_law_453 (fun H_1 L_1 hB hz oq hS => ?_)
  refine z_fresh hS (fun hS => ?_)
  have I := I.stepO oq hB rfl
  refine z_istore (lv' := [(5, .int (zI (0))), (0, .ref (b0)), (1, .ref (a 0)), (2, .ref (b 0)), (3, .ref (o)), (4, .int (zI (ix)))]) S dL_law_456 hl (by decide) rfl (fun ls hl => ?_)
  refine z_aload_n S dL_law_458 hl 3 rfl rfl ?_
  refine z_aload_n S dL_law_459 hl 1 rfl rfl ?_
  refine z_iload S dL_law_460 hl 5 rfl ?_
  refine z_iconst S dL_law_462 ?_
  refine z_iadd S dL_law_463 ?_
  refine z_sld S hX hb hS (i := ix + 1) (by omega) hL x1 dL_law_464 ?_
  have ht : (0 : Int) = ec (!(decide (0 ≤ x) && decide (x ≤ 99999))) (false) := (ec_0 (by first | rfl | (simp only [Bool.not_eq_true', Bool.and_eq_true, Bool.or_eq_true, Bool.and_eq_false_iff, Bool.or_eq_false_iff, Bool.not_eq_false', decide_eq_true_eq, decide_eq_false_iff_not]; omega)) (by first | rfl | (simp only [Bool.not_eq_true', Bool.and_eq_true, Bool.or_eq_true, Bool.and_eq_false_iff, Bool.or_eq_false_iff, Bool.not_eq_false', decide_eq_true_eq, decide_eq_false_iff_not]; omega))).symm
  refine z_callM S hG hS (c_X4_jump l G σ b th m1 m2 I.iM kR x rx 0 ht) (zA_m h9 I) ok_X4_jump I.M.1 zc_X4 rfl q5_172 (I.M) ⟨rfl, rfl, by decide, by decide⟩ ⟨(by have := hcs.1; omega), (by have := hcs.2; omega)⟩ rfl (Nat.le_of_ble_eq_true rfl) hl.1 rfl dL_law_465 (fun H_2 L_2 hB hz oq hS => ?_)
  refine z_fresh hS (fun hS => ?_)
  have I := I.stepN (τ' := (σ.wO x σ.lim σ.rf)) oq (fun q hq z => z) hB rfl rfl
  refine z_istore (lv' := [(6, .int (_)), (5, .int (zI (0))), (0, .ref (b0)), (1, .ref (a 0)), (2, .ref (b 0)), (3, .ref (o)), (4, .int (zI (ix)))]) S dL_law_468 hl (by decide) rfl (fun ls hl => ?_)
  refine z_goto S 985 dL_law_470 (by decide) ?_
  refine W.widen (k := cells + 1000) (n := slots + 10000) (by omega) (by omega) ?_
  exact kk _ _ _ _ _ _ _ _ _ _ hS I (rfl) (rfl) (lv_sub hl [2, 3, 4, 5, 6] rfl)
set_option maxHeartbeats 4000000 in
set_option maxRecDepth 100000 in
theorem lw_jump_1 (Z : zLaw p9 l s m9 cd ar G b0 L xs) (hS : va_S (fun q => s.heap.size ≤ q) s.heap H []) (I : zInv G σ a σ b th m1 m2 o n0 sv H) (hl : lv_has ls 9 [(0, .ref (b0)), (1, .ref (a 0)), (2, .ref (b 0)), (3, .ref (o)), (4, .int (zI (ix)))]) (hix : 0 ≤ ix ∧ ix + 4 < L) (hcs : cells + 1000 ≤ room_1.cells ∧ slots + 10000 ≤ room_1.slots) (kk : zKK p9 l e9 s m9 ar bw me cd Q G b0 o ix (a 0) (b 0) cells slots) (x : Int) (rx : rg x) (x1 : xs (ix + 1).toNat = zI x) (h1 : ¬ (0 ≤ x ∧ x ≤ 99999)) : W p9 l e9 room_1 s m9 ar bw me cd H [] cells slots Q (F0 m9 445 ls []) := by
  obtain ⟨S, hl0, hG, hX, hb, hL, h9⟩ := Z
  have kC : okC σ := I.C.2.2.2.2.2
  have kR : okR σ := I.M.2.2.2.2.2.2.2.2.2
  refine z_aload_n S dL_law_445 hl 1 rfl rfl ?_
  refine z_aload_n S dL_law_446 hl 0 rfl rfl ?_
  refine z_iload S dL_law_447 hl 4 rfl ?_
  refine z_iconst S dL_law_449 ?_
  refine z_iadd S dL_law_450 ?_
  refine z_sld S hX hb hS (i := ix + 1) (by omega) hL x1 dL_law_451 ?_
  refine z_aload_n S dL_law_452 hl 3 rfl rfl ?_
  refine z_callH S hG hS (w_jump_1 l hl0 G σ a o n0 sv x rx h1) (fun _ z => z.elim) okL_jump q3_62 (⟨I.C, I.xp⟩) ⟨rfl, rfl, by decide, by decide⟩ ⟨(by have := hcs.1; omega), (by have := hcs.2; omega)⟩ rfl (Nat.le_of_ble_eq_true rfl) hl.1 rfl dL_law_453 (fun H_1 L_1 hB hz oq hS => ?_)
  refine z_fresh hS (fun hS => ?_)
  have I := I.step0 oq
  refine z_istore (lv' := [(5, .int (zI (1))), (0, .ref (b0)), (1, .ref (a 0)), (2, .ref (b 0)), (3, .ref (o)), (4, .int (zI (ix)))]) S dL_law_456 hl (by decide) rfl (fun ls hl => ?_)
  refine z_aload_n S dL_law_458 hl 3 rfl rfl ?_
  refine z_aload_n S dL_law_459 hl 1 rfl rfl ?_
  refine z_iload S dL_law_460 hl 5 rfl ?_
  refine z_iconst S dL_law_462 ?_
  refine z_iadd S dL_law_463 ?_
  refine z_sld S hX hb hS (i := ix + 1) (by omega) hL x1 dL_law_464 ?_
  have ht : (1 : Int) = ec (!(decide (0 ≤ x) && decide (x ≤ 99999))) (false) := (ec_1 (by first | rfl | (simp only [Bool.not_eq_true', Bool.and_eq_true, Bool.or_eq_true, Bool.and_eq_false_iff, Bool.or_eq_false_iff, Bool.not_eq_false', decide_eq_true_eq, decide_eq_false_iff_not]; omega))).symm
  refine z_callM S hG hS (c_X4_jump l G σ b th m1 m2 I.iM kR x rx 1 ht) (zA_m h9 I) ok_X4_jump I.M.1 zc_X4 rfl q5_172 (I.M) ⟨rfl, rfl, by decide, by decide⟩ ⟨(by have := hcs.1; omega), (by have := hcs.2; omega)⟩ rfl (Nat.le_of_ble_eq_true rfl) hl.1 rfl dL_law_465 (fun H_2 L_2 hB hz oq hS => ?_)
  refine z_fresh hS (fun hS => ?_)
  have I := I.stepN (τ' := σ) oq (fun q hq z => z) hB rfl rfl
  refine z_istore (lv' := [(6, .int (_)), (5, .int (zI (1))), (0, .ref (b0)), (1, .ref (a 0)), (2, .ref (b 0)), (3, .ref (o)), (4, .int (zI (ix)))]) S dL_law_468 hl (by decide) rfl (fun ls hl => ?_)
  refine z_goto S 985 dL_law_470 (by decide) ?_
  refine W.widen (k := cells + 1000) (n := slots + 10000) (by omega) (by omega) ?_
  exact kk _ _ _ _ _ _ _ _ _ _ hS I (rfl) (rfl) (lv_sub hl [2, 3, 4, 5, 6] rfl)
theorem q3_73 : (Jvm.Cond.methodLink "CyclepaintLaw" (125 : Nat) ({ cls := "CyclepaintLaw", name := "keep", desc := "(LCyclepaint;LCyclepaintLaw$Out;)I" } : Jvm.MethodName)) ∈ lw_g := zg_of (zin3 (List.mem_of_getElem? (i := 73) rfl)) rfl
theorem q5_179 : (Jvm.Cond.methodLink "CyclepaintLaw" (128 : Nat) ({ cls := "CyclepaintModel", name := "keep", desc := "()I" } : Jvm.MethodName)) ∈ lw_g := zg_of (zin5 (List.mem_of_getElem? (i := 179) rfl)) rfl
set_option maxHeartbeats 4000000 in
set_option maxRecDepth 100000 in
theorem lw_keep_0 (Z : zLaw p9 l s m9 cd ar G b0 L xs) (hS : va_S (fun q => s.heap.size ≤ q) s.heap H []) (I : zInv G σ a σ b th m1 m2 o n0 sv H) (hl : lv_has ls 9 [(0, .ref (b0)), (1, .ref (a 0)), (2, .ref (b 0)), (3, .ref (o)), (4, .int (zI (ix)))]) (hix : 0 ≤ ix ∧ ix + 4 < L) (hcs : cells + 1000 ≤ room_1.cells ∧ slots + 10000 ≤ room_1.slots) (kk : zKK p9 l e9 s m9 ar bw me cd Q G b0 o ix (a 0) (b 0) cells slots)  (hk5 : σ.kn < 5) : W p9 l e9 room_1 s m9 ar bw me cd H [] cells slots Q (F0 m9 473 ls []) := by
  obtain ⟨S, hl0, hG, hX, hb, hL, h9⟩ := Z
  have kC : okC σ := I.C.2.2.2.2.2
  have kR : okR σ := I.M.2.2.2.2.2.2.2.2.2
  refine z_aload_n S dL_law_473 hl 1 rfl rfl ?_
  refine z_aload_n S dL_law_474 hl 3 rfl rfl ?_
  refine z_callH S hG hS (w_keep_0 l hl0 G σ a o n0 sv I.iC I.ao hk5) (zA_co h9 I) okL_keep q3_73 (⟨I.C, I.O⟩) ⟨rfl, rfl, by decide, by decide⟩ ⟨(by have := hcs.1; omega), (by have := hcs.2; omega)⟩ rfl (Nat.le_of_ble_eq_true rfl) hl.1 rfl dL_law_475 (fun H_1 L_1 hB hz oq hS => ?_)
  refine z_fresh hS (fun hS => ?_)
  have I := I.stepO oq hB rfl
  refine z_istore (lv' := [(5, .int (zI (0))), (0, .ref (b0)), (1, .ref (a 0)), (2, .ref (b 0)), (3, .ref (o)), (4, .int (zI (ix)))]) S dL_law_478 hl (by decide) rfl (fun ls hl => ?_)
  refine z_aload_n S dL_law_480 hl 3 rfl rfl ?_
  have ht : (0 : Int) = ec (decide (σ.kn = 5)) false := (ec_0 (by first | rfl | (simp only [Bool.not_eq_true', Bool.and_eq_true, Bool.or_eq_true, Bool.and_eq_false_iff, Bool.or_eq_false_iff, Bool.not_eq_false', decide_eq_true_eq, decide_eq_false_iff_not]; omega)) (by first | rfl | (simp only [Bool.not_eq_true', Bool.and_eq_true, Bool.or_eq_true, Bool.and_eq_false_iff, Bool.or_eq_false_iff, Bool.not_eq_false', decide_eq_true_eq, decide_eq_false_iff_not]; omega))).symm
  refine z_callM S hG hS (c_X4_keep l G σ b th m1 m2 _ I.iM (fun y ⟨i, hi, e⟩ => by rw [e]; exact I.sb i hi) kC.2.2.2.1.1 kC.2.2.2.1.2 kC.2.1 kC.1 0 ht) (zA_r h9 I hS 6) ok_X4_keep I.M.1 zc_X4 rfl q5_179 (⟨I.M, rfl, I.hp, I.g6⟩) ⟨rfl, rfl, by decide, by decide⟩ ⟨(by have := hcs.1; omega), (by have := hcs.2; omega)⟩ rfl (Nat.le_of_ble_eq_true rfl) hl.1 rfl dL_law_481 (fun H_2 L_2 hB hz oq hS => ?_)
  refine z_fresh hS (fun hS => ?_)
  obtain ⟨ne, nr, hB1, hB2, hB3, hB4⟩ := hB.1 rfl
  have I := I.stepK oq hB1 hB2 hB3 hB4
  refine z_istore (lv' := [(6, .int (_)), (5, .int (zI (0))), (0, .ref (b0)), (1, .ref (a 0)), (2, .ref (b 0)), (3, .ref (o)), (4, .int (zI (ix)))]) S dL_law_484 hl (by decide) rfl (fun ls hl => ?_)
  refine z_goto S 985 dL_law_486 (by decide) ?_
  refine W.widen (k := cells + 1000) (n := slots + 10000) (by omega) (by omega) ?_
  exact kk _ _ _ _ _ _ _ _ _ _ hS I (rfl) (addKB_o (by decide) (by omega)) (lv_sub hl [2, 3, 4, 5, 6] rfl)
set_option maxHeartbeats 4000000 in
set_option maxRecDepth 100000 in
theorem lw_keep_1 (Z : zLaw p9 l s m9 cd ar G b0 L xs) (hS : va_S (fun q => s.heap.size ≤ q) s.heap H []) (I : zInv G σ a σ b th m1 m2 o n0 sv H) (hl : lv_has ls 9 [(0, .ref (b0)), (1, .ref (a 0)), (2, .ref (b 0)), (3, .ref (o)), (4, .int (zI (ix)))]) (hix : 0 ≤ ix ∧ ix + 4 < L) (hcs : cells + 1000 ≤ room_1.cells ∧ slots + 10000 ≤ room_1.slots) (kk : zKK p9 l e9 s m9 ar bw me cd Q G b0 o ix (a 0) (b 0) cells slots)  (h1 : σ.kn = 5) : W p9 l e9 room_1 s m9 ar bw me cd H [] cells slots Q (F0 m9 473 ls []) := by
  obtain ⟨S, hl0, hG, hX, hb, hL, h9⟩ := Z
  have kC : okC σ := I.C.2.2.2.2.2
  have kR : okR σ := I.M.2.2.2.2.2.2.2.2.2
  refine z_aload_n S dL_law_473 hl 1 rfl rfl ?_
  refine z_aload_n S dL_law_474 hl 3 rfl rfl ?_
  refine z_callH S hG hS (w_keep_1 l hl0 G σ a o n0 sv   h1) (fun _ z => z.elim) okL_keep q3_73 (⟨I.C, I.xp⟩) ⟨rfl, rfl, by decide, by decide⟩ ⟨(by have := hcs.1; omega), (by have := hcs.2; omega)⟩ rfl (Nat.le_of_ble_eq_true rfl) hl.1 rfl dL_law_475 (fun H_1 L_1 hB hz oq hS => ?_)
  refine z_fresh hS (fun hS => ?_)
  have I := I.step0 oq
  refine z_istore (lv' := [(5, .int (zI (1))), (0, .ref (b0)), (1, .ref (a 0)), (2, .ref (b 0)), (3, .ref (o)), (4, .int (zI (ix)))]) S dL_law_478 hl (by decide) rfl (fun ls hl => ?_)
  refine z_aload_n S dL_law_480 hl 3 rfl rfl ?_
  have ht : (1 : Int) = ec (decide (σ.kn = 5)) false := (ec_1 (by first | rfl | (simp only [Bool.not_eq_true', Bool.and_eq_true, Bool.or_eq_true, Bool.and_eq_false_iff, Bool.or_eq_false_iff, Bool.not_eq_false', decide_eq_true_eq, decide_eq_false_iff_not]; omega))).symm
  refine z_callM S hG hS (c_X4_keep l G σ b th m1 m2 _ I.iM (fun y ⟨i, hi, e⟩ => by rw [e]; exact I.sb i hi) kC.2.2.2.1.1 kC.2.2.2.1.2 kC.2.1 kC.1 1 ht) (zA_r h9 I hS 6) ok_X4_keep I.M.1 zc_X4 rfl q5_179 (⟨I.M, rfl, I.hp, I.g6⟩) ⟨rfl, rfl, by decide, by decide⟩ ⟨(by have := hcs.1; omega), (by have := hcs.2; omega)⟩ rfl (Nat.le_of_ble_eq_true rfl) hl.1 rfl dL_law_481 (fun H_2 L_2 hB hz oq hS => ?_)
  refine z_fresh hS (fun hS => ?_)
  have hB := hB.2 (by decide)
  have I := I.stepX6 oq hB
  refine z_istore (lv' := [(6, .int (_)), (5, .int (zI (1))), (0, .ref (b0)), (1, .ref (a 0)), (2, .ref (b 0)), (3, .ref (o)), (4, .int (zI (ix)))]) S dL_law_484 hl (by decide) rfl (fun ls hl => ?_)
  refine z_goto S 985 dL_law_486 (by decide) ?_
  refine W.widen (k := cells + 1000) (n := slots + 10000) (by omega) (by omega) ?_
  exact kk _ _ _ _ _ _ _ _ _ _ hS I (rfl) (rfl) (lv_sub hl [2, 3, 4, 5, 6] rfl)
theorem q3_81 : (Jvm.Cond.methodLink "CyclepaintLaw" (129 : Nat) ({ cls := "CyclepaintLaw", name := "limit", desc := "(LCyclepaint;ILCyclepaintLaw$Out;)I" } : Jvm.MethodName)) ∈ lw_g := zg_of (zin3 (List.mem_of_getElem? (i := 81) rfl)) rfl
theorem q5_183 : (Jvm.Cond.methodLink "CyclepaintLaw" (131 : Nat) ({ cls := "CyclepaintModel", name := "limit", desc := "(I)Z" } : Jvm.MethodName)) ∈ lw_g := zg_of (zin5 (List.mem_of_getElem? (i := 183) rfl)) rfl
set_option maxHeartbeats 4000000 in
set_option maxRecDepth 100000 in
theorem lw_limit_0 (Z : zLaw p9 l s m9 cd ar G b0 L xs) (hS : va_S (fun q => s.heap.size ≤ q) s.heap H []) (I : zInv G σ a σ b th m1 m2 o n0 sv H) (hl : lv_has ls 9 [(0, .ref (b0)), (1, .ref (a 0)), (2, .ref (b 0)), (3, .ref (o)), (4, .int (zI (ix)))]) (hix : 0 ≤ ix ∧ ix + 4 < L) (hcs : cells + 1000 ≤ room_1.cells ∧ slots + 10000 ≤ room_1.slots) (kk : zKK p9 l e9 s m9 ar bw me cd Q G b0 o ix (a 0) (b 0) cells slots) (x : Int) (rx : rg x) (x1 : xs (ix + 1).toNat = zI x) (hx : 0 ≤ x ∧ x ≤ 32) : W p9 l e9 room_1 s m9 ar bw me cd H [] cells slots Q (F0 m9 489 ls []) := by
  obtain ⟨S, hl0, hG, hX, hb, hL, h9⟩ := Z
  have kC : okC σ := I.C.2.2.2.2.2
  have kR : okR σ := I.M.2.2.2.2.2.2.2.2.2
  refine z_aload_n S dL_law_489 hl 1 rfl rfl ?_
  refine z_aload_n S dL_law_490 hl 0 rfl rfl ?_
  refine z_iload S dL_law_491 hl 4 rfl ?_
  refine z_iconst S dL_law_493 ?_
  refine z_iadd S dL_law_494 ?_
  refine z_sld S hX hb hS (i := ix + 1) (by omega) hL x1 dL_law_495 ?_
  refine z_aload_n S dL_law_496 hl 3 rfl rfl ?_
  refine z_callH S hG hS (w_limit_0 l hl0 G σ a o n0 sv I.iC I.ao x hx) (zA_co h9 I) okL_limit q3_81 (⟨I.C, I.O⟩) ⟨rfl, rfl, by decide, by decide⟩ ⟨(by have := hcs.1; omega), (by have := hcs.2; omega)⟩ rfl (Nat.le_of_ble_eq_true rfl) hl.1 rfl dL_law_497 (fun H_1 L_1 hB hz oq hS => ?_)
  refine z_fresh hS (fun hS => ?_)
  have I := I.stepO oq hB rfl
  refine z_istore (lv' := [(5, .int (zI (0))), (0, .ref (b0)), (1, .ref (a 0)), (2, .ref (b 0)), (3, .ref (o)), (4, .int (zI (ix)))]) S dL_law_500 hl (by decide) rfl (fun ls hl => ?_)
  refine z_aload_n S dL_law_502 hl 3 rfl rfl ?_
  refine z_aload_n S dL_law_503 hl 1 rfl rfl ?_
  refine z_iload S dL_law_504 hl 5 rfl ?_
  refine z_iconst S dL_law_506 ?_
  refine z_iadd S dL_law_507 ?_
  refine z_sld S hX hb hS (i := ix + 1) (by omega) hL x1 dL_law_508 ?_
  have ht : (0 : Int) = ec (!(decide (0 ≤ x) && decide (x ≤ 32))) (false) := (ec_0 (by first | rfl | (simp only [Bool.not_eq_true', Bool.and_eq_true, Bool.or_eq_true, Bool.and_eq_false_iff, Bool.or_eq_false_iff, Bool.not_eq_false', decide_eq_true_eq, decide_eq_false_iff_not]; omega)) (by first | rfl | (simp only [Bool.not_eq_true', Bool.and_eq_true, Bool.or_eq_true, Bool.and_eq_false_iff, Bool.or_eq_false_iff, Bool.not_eq_false', decide_eq_true_eq, decide_eq_false_iff_not]; omega))).symm
  refine z_callM S hG hS (c_X4_limit l G σ b th m1 m2 I.iM kR x rx kC.2.1 kC.1 0 ht) (zA_m h9 I) ok_X4_limit I.M.1 zc_X4 rfl q5_183 (I.M) ⟨rfl, rfl, by decide, by decide⟩ ⟨(by have := hcs.1; omega), (by have := hcs.2; omega)⟩ rfl (Nat.le_of_ble_eq_true rfl) hl.1 rfl dL_law_509 (fun H_2 L_2 hB hz oq hS => ?_)
  refine z_fresh hS (fun hS => ?_)
  have I := I.stepN (τ' := (σ.wO σ.tk x σ.rf)) oq (fun q hq z => z) hB rfl rfl
  refine z_istore (lv' := [(6, .int (_)), (5, .int (zI (0))), (0, .ref (b0)), (1, .ref (a 0)), (2, .ref (b 0)), (3, .ref (o)), (4, .int (zI (ix)))]) S dL_law_512 hl (by decide) rfl (fun ls hl => ?_)
  refine z_goto S 985 dL_law_514 (by decide) ?_
  refine W.widen (k := cells + 1000) (n := slots + 10000) (by omega) (by omega) ?_
  exact kk _ _ _ _ _ _ _ _ _ _ hS I (rfl) (rfl) (lv_sub hl [2, 3, 4, 5, 6] rfl)
set_option maxHeartbeats 4000000 in
set_option maxRecDepth 100000 in
theorem lw_limit_1 (Z : zLaw p9 l s m9 cd ar G b0 L xs) (hS : va_S (fun q => s.heap.size ≤ q) s.heap H []) (I : zInv G σ a σ b th m1 m2 o n0 sv H) (hl : lv_has ls 9 [(0, .ref (b0)), (1, .ref (a 0)), (2, .ref (b 0)), (3, .ref (o)), (4, .int (zI (ix)))]) (hix : 0 ≤ ix ∧ ix + 4 < L) (hcs : cells + 1000 ≤ room_1.cells ∧ slots + 10000 ≤ room_1.slots) (kk : zKK p9 l e9 s m9 ar bw me cd Q G b0 o ix (a 0) (b 0) cells slots) (x : Int) (rx : rg x) (x1 : xs (ix + 1).toNat = zI x) (h1 : ¬ (0 ≤ x ∧ x ≤ 32)) : W p9 l e9 room_1 s m9 ar bw me cd H [] cells slots Q (F0 m9 489 ls []) := by
  obtain ⟨S, hl0, hG, hX, hb, hL, h9⟩ := Z
  have kC : okC σ := I.C.2.2.2.2.2
  have kR : okR σ := I.M.2.2.2.2.2.2.2.2.2
  refine z_aload_n S dL_law_489 hl 1 rfl rfl ?_
  refine z_aload_n S dL_law_490 hl 0 rfl rfl ?_
  refine z_iload S dL_law_491 hl 4 rfl ?_
  refine z_iconst S dL_law_493 ?_
  refine z_iadd S dL_law_494 ?_
  refine z_sld S hX hb hS (i := ix + 1) (by omega) hL x1 dL_law_495 ?_
  refine z_aload_n S dL_law_496 hl 3 rfl rfl ?_
  refine z_callH S hG hS (w_limit_1 l hl0 G σ a o n0 sv x rx h1) (fun _ z => z.elim) okL_limit q3_81 (⟨I.C, I.xp⟩) ⟨rfl, rfl, by decide, by decide⟩ ⟨(by have := hcs.1; omega), (by have := hcs.2; omega)⟩ rfl (Nat.le_of_ble_eq_true rfl) hl.1 rfl dL_law_497 (fun H_1 L_1 hB hz oq hS => ?_)
  refine z_fresh hS (fun hS => ?_)
  have I := I.step0 oq
  refine z_istore (lv' := [(5, .int (zI (1))), (0, .ref (b0)), (1, .ref (a 0)), (2, .ref (b 0)), (3, .ref (o)), (4, .int (zI (ix)))]) S dL_law_500 hl (by decide) rfl (fun ls hl => ?_)
  refine z_aload_n S dL_law_502 hl 3 rfl rfl ?_
  refine z_aload_n S dL_law_503 hl 1 rfl rfl ?_
  refine z_iload S dL_law_504 hl 5 rfl ?_
  refine z_iconst S dL_law_506 ?_
  refine z_iadd S dL_law_507 ?_
  refine z_sld S hX hb hS (i := ix + 1) (by omega) hL x1 dL_law_508 ?_
  have ht : (1 : Int) = ec (!(decide (0 ≤ x) && decide (x ≤ 32))) (false) := (ec_1 (by first | rfl | (simp only [Bool.not_eq_true', Bool.and_eq_true, Bool.or_eq_true, Bool.and_eq_false_iff, Bool.or_eq_false_iff, Bool.not_eq_false', decide_eq_true_eq, decide_eq_false_iff_not]; omega))).symm
  refine z_callM S hG hS (c_X4_limit l G σ b th m1 m2 I.iM kR x rx kC.2.1 kC.1 1 ht) (zA_m h9 I) ok_X4_limit I.M.1 zc_X4 rfl q5_183 (I.M) ⟨rfl, rfl, by decide, by decide⟩ ⟨(by have := hcs.1; omega), (by have := hcs.2; omega)⟩ rfl (Nat.le_of_ble_eq_true rfl) hl.1 rfl dL_law_509 (fun H_2 L_2 hB hz oq hS => ?_)
  refine z_fresh hS (fun hS => ?_)
  have I := I.stepN (τ' := σ) oq (fun q hq z => z) hB rfl rfl
  refine z_istore (lv' := [(6, .int (_)), (5, .int (zI (1))), (0, .ref (b0)), (1, .ref (a 0)), (2, .ref (b 0)), (3, .ref (o)), (4, .int (zI (ix)))]) S dL_law_512 hl (by decide) rfl (fun ls hl => ?_)
  refine z_goto S 985 dL_law_514 (by decide) ?_
  refine W.widen (k := cells + 1000) (n := slots + 10000) (by omega) (by omega) ?_
  exact kk _ _ _ _ _ _ _ _ _ _ hS I (rfl) (rfl) (lv_sub hl [2, 3, 4, 5, 6] rfl)
theorem q1_140 : (Jvm.Cond.methodLink "CyclepaintLaw" (132 : Nat) ({ cls := "Cyclepaint", name := "call", desc := "()I" } : Jvm.MethodName)) ∈ lw_g := zg_of (zin1 (List.mem_of_getElem? (i := 140) rfl)) rfl
theorem q5_195 : (Jvm.Cond.methodLink "CyclepaintLaw" (135 : Nat) ({ cls := "CyclepaintModel", name := "call", desc := "()I" } : Jvm.MethodName)) ∈ lw_g := zg_of (zin5 (List.mem_of_getElem? (i := 195) rfl)) rfl
set_option maxHeartbeats 4000000 in
set_option maxRecDepth 100000 in
theorem lw_call_0 (Z : zLaw p9 l s m9 cd ar G b0 L xs) (hS : va_S (fun q => s.heap.size ≤ q) s.heap H []) (I : zInv G σ a σ b th m1 m2 o n0 sv H) (hl : lv_has ls 9 [(0, .ref (b0)), (1, .ref (a 0)), (2, .ref (b 0)), (3, .ref (o)), (4, .int (zI (ix)))]) (hix : 0 ≤ ix ∧ ix + 4 < L) (hcs : cells + 1000 ≤ room_1.cells ∧ slots + 10000 ≤ room_1.slots) (kk : zKK p9 l e9 s m9 ar bw me cd Q G b0 o ix (a 0) (b 0) cells slots)   : W p9 l e9 room_1 s m9 ar bw me cd H [] cells slots Q (F0 m9 517 ls []) := by
  obtain ⟨S, hl0, hG, hX, hb, hL, h9⟩ := Z
  have kC : okC σ := I.C.2.2.2.2.2
  have kR : okR σ := I.M.2.2.2.2.2.2.2.2.2
  refine z_aload_n S dL_law_517 hl 1 rfl rfl ?_
  refine z_callM S hG hS (c_X2_call l G σ a I.iC) (zA_c h9 I) ok_X2_call I.C.1 zc_X2 rfl q1_140 I.C ⟨rfl, rfl, by decide, by decide⟩ ⟨(by have := hcs.1; omega), (by have := hcs.2; omega)⟩ rfl (Nat.le_of_ble_eq_true rfl) hl.1 rfl dL_law_518 (fun H_1 L_1 hB hz oq hS => ?_)
  refine z_fresh hS (fun hS => ?_)
  have I := I.stepW oq hB rfl
  refine lv_pop S.1 S.2.1 dL_law_521 rfl ?_
  refine z_aload_n S dL_law_522 hl 2 rfl rfl ?_
  refine z_callM S hG hS (c_X4_call l G σ b th m1 m2 I.iM kR) (zA_m h9 I) ok_X4_call I.M.1 zc_X4 rfl q5_195 (I.M) ⟨rfl, rfl, by decide, by decide⟩ ⟨(by have := hcs.1; omega), (by have := hcs.2; omega)⟩ rfl (Nat.le_of_ble_eq_true rfl) hl.1 rfl dL_law_523 (fun H_2 L_2 hB hz oq hS => ?_)
  refine z_fresh hS (fun hS => ?_)
  have I := I.stepN (τ' := (σ.wO σ.tk σ.lim (σ.rf + zI 1))) oq (fun q hq z => z) hB rfl rfl
  refine lv_pop S.1 S.2.1 dL_law_526 rfl ?_
  refine z_goto S 985 dL_law_527 (by decide) ?_
  refine W.widen (k := cells + 1000) (n := slots + 10000) (by omega) (by omega) ?_
  exact kk _ _ _ _ _ _ _ _ _ _ hS I (rfl) (rfl) (lv_sub hl [0, 1, 2, 3, 4] rfl)
theorem q3_89 : (Jvm.Cond.methodLink "CyclepaintLaw" (136 : Nat) ({ cls := "CyclepaintLaw", name := "dot", desc := "(LCyclepaint;IIILCyclepaintLaw$Out;)I" } : Jvm.MethodName)) ∈ lw_g := zg_of (zin3 (List.mem_of_getElem? (i := 89) rfl)) rfl
theorem q5_199 : (Jvm.Cond.methodLink "CyclepaintLaw" (138 : Nat) ({ cls := "CyclepaintModel", name := "dot", desc := "(III)I" } : Jvm.MethodName)) ∈ lw_g := zg_of (zin5 (List.mem_of_getElem? (i := 199) rfl)) rfl
set_option maxHeartbeats 4000000 in
set_option maxRecDepth 100000 in
theorem lw_dot_0 (Z : zLaw p9 l s m9 cd ar G b0 L xs) (hS : va_S (fun q => s.heap.size ≤ q) s.heap H []) (I : zInv G σ a σ b th m1 m2 o n0 sv H) (hl : lv_has ls 9 [(0, .ref (b0)), (1, .ref (a 0)), (2, .ref (b 0)), (3, .ref (o)), (4, .int (zI (ix)))]) (hix : 0 ≤ ix ∧ ix + 4 < L) (hcs : cells + 1000 ≤ room_1.cells ∧ slots + 10000 ≤ room_1.slots) (kk : zKK p9 l e9 s m9 ar bw me cd Q G b0 o ix (a 0) (b 0) cells slots) (v i x : Int) (rv : rg v) (ri : rg i) (rx : rg x) (x1 : xs (ix + 1).toNat = zI v) (x2 : xs (ix + 2).toNat = zI i) (x3 : xs (ix + 3).toNat = zI x) (hv : 0 ≤ v ∧ v ≤ 3) (hi : 0 ≤ i ∧ i ≤ 7) (hx : 0 ≤ x ∧ x ≤ 3) : W p9 l e9 room_1 s m9 ar bw me cd H [] cells slots Q (F0 m9 530 ls []) := by
  obtain ⟨S, hl0, hG, hX, hb, hL, h9⟩ := Z
  have kC : okC σ := I.C.2.2.2.2.2
  have kR : okR σ := I.M.2.2.2.2.2.2.2.2.2
  refine z_aload_n S dL_law_530 hl 1 rfl rfl ?_
  refine z_aload_n S dL_law_531 hl 0 rfl rfl ?_
  refine z_iload S dL_law_532 hl 4 rfl ?_
  refine z_iconst S dL_law_534 ?_
  refine z_iadd S dL_law_535 ?_
  refine z_sld S hX hb hS (i := ix + 1) (by omega) hL x1 dL_law_536 ?_
  refine z_aload_n S dL_law_537 hl 0 rfl rfl ?_
  refine z_iload S dL_law_538 hl 4 rfl ?_
  refine z_iconst S dL_law_540 ?_
  refine z_iadd S dL_law_541 ?_
  refine z_sld S hX hb hS (i := ix + 2) (by omega) hL x2 dL_law_542 ?_
  refine z_aload_n S dL_law_543 hl 0 rfl rfl ?_
  refine z_iload S dL_law_544 hl 4 rfl ?_
  refine z_iconst S dL_law_546 ?_
  refine z_iadd S dL_law_547 ?_
  refine z_sld S hX hb hS (i := ix + 3) (by omega) hL x3 dL_law_548 ?_
  refine z_aload_n S dL_law_549 hl 3 rfl rfl ?_
  refine z_callH S hG hS (w_dot_0 l hl0 G σ a o n0 sv I.iC I.ao v i x hv hi hx) (zA_co h9 I) okL_dot q3_89 (⟨I.C, I.O⟩) ⟨rfl, rfl, by decide, by decide⟩ ⟨(by have := hcs.1; omega), (by have := hcs.2; omega)⟩ rfl (Nat.le_of_ble_eq_true rfl) hl.1 rfl dL_law_550 (fun H_1 L_1 hB hz oq hS => ?_)
  refine z_fresh hS (fun hS => ?_)
  have I := I.stepO oq hB rfl
  refine z_istore (lv' := [(5, .int (zI (0))), (0, .ref (b0)), (1, .ref (a 0)), (2, .ref (b 0)), (3, .ref (o)), (4, .int (zI (ix)))]) S dL_law_553 hl (by decide) rfl (fun ls hl => ?_)
  refine z_aload_n S dL_law_555 hl 3 rfl rfl ?_
  refine z_aload_n S dL_law_556 hl 1 rfl rfl ?_
  refine z_iload S dL_law_557 hl 5 rfl ?_
  refine z_iconst S dL_law_559 ?_
  refine z_iadd S dL_law_560 ?_
  refine z_sld S hX hb hS (i := ix + 1) (by omega) hL x1 dL_law_561 ?_
  refine z_aload_n S dL_law_562 hl 1 rfl rfl ?_
  refine z_iload S dL_law_563 hl 5 rfl ?_
  refine z_iconst S dL_law_565 ?_
  refine z_iadd S dL_law_566 ?_
  refine z_sld S hX hb hS (i := ix + 2) (by omega) hL x2 dL_law_567 ?_
  refine z_aload_n S dL_law_568 hl 1 rfl rfl ?_
  refine z_iload S dL_law_569 hl 5 rfl ?_
  refine z_iconst S dL_law_571 ?_
  refine z_iadd S dL_law_572 ?_
  refine z_sld S hX hb hS (i := ix + 3) (by omega) hL x3 dL_law_573 ?_
  have ht : (0 : Int) = ec (!((decide (0 ≤ v) && decide (v ≤ 3)) && (decide (0 ≤ i) && decide (i ≤ 7)))) (!(decide (0 ≤ x) && decide (x ≤ 3))) := (ec_0 (by first | rfl | (simp only [Bool.not_eq_true', Bool.and_eq_true, Bool.or_eq_true, Bool.and_eq_false_iff, Bool.or_eq_false_iff, Bool.not_eq_false', decide_eq_true_eq, decide_eq_false_iff_not]; omega)) (by first | rfl | (simp only [Bool.not_eq_true', Bool.and_eq_true, Bool.or_eq_true, Bool.and_eq_false_iff, Bool.or_eq_false_iff, Bool.not_eq_false', decide_eq_true_eq, decide_eq_false_iff_not]; omega))).symm
  refine z_callM S hG hS (c_X4_dot l G σ b th m1 m2 I.iM kR v i x rv ri rx kC.2.1 kC.1 0 ht) (zA_m h9 I) ok_X4_dot I.M.1 zc_X4 rfl q5_199 (I.M) ⟨rfl, rfl, by decide, by decide⟩ ⟨(by have := hcs.1; omega), (by have := hcs.2; omega)⟩ rfl (Nat.le_of_ble_eq_true rfl) hl.1 rfl dL_law_574 (fun H_2 L_2 hB hz oq hS => ?_)
  refine z_fresh hS (fun hS => ?_)
  have I := I.stepN (τ' := σ) oq (fun q hq z => z) hB rfl rfl
  refine z_istore (lv' := [(6, .int (_)), (5, .int (zI (0))), (0, .ref (b0)), (1, .ref (a 0)), (2, .ref (b 0)), (3, .ref (o)), (4, .int (zI (ix)))]) S dL_law_577 hl (by decide) rfl (fun ls hl => ?_)
  refine z_goto S 985 dL_law_579 (by decide) ?_
  refine W.widen (k := cells + 1000) (n := slots + 10000) (by omega) (by omega) ?_
  exact kk _ _ _ _ _ _ _ _ _ _ hS I (rfl) (rfl) (lv_sub hl [2, 3, 4, 5, 6] rfl)
set_option maxHeartbeats 4000000 in
set_option maxRecDepth 100000 in
theorem lw_dot_1 (Z : zLaw p9 l s m9 cd ar G b0 L xs) (hS : va_S (fun q => s.heap.size ≤ q) s.heap H []) (I : zInv G σ a σ b th m1 m2 o n0 sv H) (hl : lv_has ls 9 [(0, .ref (b0)), (1, .ref (a 0)), (2, .ref (b 0)), (3, .ref (o)), (4, .int (zI (ix)))]) (hix : 0 ≤ ix ∧ ix + 4 < L) (hcs : cells + 1000 ≤ room_1.cells ∧ slots + 10000 ≤ room_1.slots) (kk : zKK p9 l e9 s m9 ar bw me cd Q G b0 o ix (a 0) (b 0) cells slots) (v i x : Int) (rv : rg v) (ri : rg i) (rx : rg x) (x1 : xs (ix + 1).toNat = zI v) (x2 : xs (ix + 2).toNat = zI i) (x3 : xs (ix + 3).toNat = zI x) (h1 : ¬ ((0 ≤ v ∧ v ≤ 3) ∧ (0 ≤ i ∧ i ≤ 7))) : W p9 l e9 room_1 s m9 ar bw me cd H [] cells slots Q (F0 m9 530 ls []) := by
  obtain ⟨S, hl0, hG, hX, hb, hL, h9⟩ := Z
  have kC : okC σ := I.C.2.2.2.2.2
  have kR : okR σ := I.M.2.2.2.2.2.2.2.2.2
  refine z_aload_n S dL_law_530 hl 1 rfl rfl ?_
  refine z_aload_n S dL_law_531 hl 0 rfl rfl ?_
  refine z_iload S dL_law_532 hl 4 rfl ?_
  refine z_iconst S dL_law_534 ?_
  refine z_iadd S dL_law_535 ?_
  refine z_sld S hX hb hS (i := ix + 1) (by omega) hL x1 dL_law_536 ?_
  refine z_aload_n S dL_law_537 hl 0 rfl rfl ?_
  refine z_iload S dL_law_538 hl 4 rfl ?_
  refine z_iconst S dL_law_540 ?_
  refine z_iadd S dL_law_541 ?_
  refine z_sld S hX hb hS (i := ix + 2) (by omega) hL x2 dL_law_542 ?_
  refine z_aload_n S dL_law_543 hl 0 rfl rfl ?_
  refine z_iload S dL_law_544 hl 4 rfl ?_
  refine z_iconst S dL_law_546 ?_
  refine z_iadd S dL_law_547 ?_
  refine z_sld S hX hb hS (i := ix + 3) (by omega) hL x3 dL_law_548 ?_
  refine z_aload_n S dL_law_549 hl 3 rfl rfl ?_
  refine z_callH S hG hS (w_dot_1 l hl0 G σ a o n0 sv v i x rv ri rx h1) (fun _ z => z.elim) okL_dot q3_89 (⟨I.C, I.xp⟩) ⟨rfl, rfl, by decide, by decide⟩ ⟨(by have := hcs.1; omega), (by have := hcs.2; omega)⟩ rfl (Nat.le_of_ble_eq_true rfl) hl.1 rfl dL_law_550 (fun H_1 L_1 hB hz oq hS => ?_)
  refine z_fresh hS (fun hS => ?_)
  have I := I.step0 oq
  refine z_istore (lv' := [(5, .int (zI (1))), (0, .ref (b0)), (1, .ref (a 0)), (2, .ref (b 0)), (3, .ref (o)), (4, .int (zI (ix)))]) S dL_law_553 hl (by decide) rfl (fun ls hl => ?_)
  refine z_aload_n S dL_law_555 hl 3 rfl rfl ?_
  refine z_aload_n S dL_law_556 hl 1 rfl rfl ?_
  refine z_iload S dL_law_557 hl 5 rfl ?_
  refine z_iconst S dL_law_559 ?_
  refine z_iadd S dL_law_560 ?_
  refine z_sld S hX hb hS (i := ix + 1) (by omega) hL x1 dL_law_561 ?_
  refine z_aload_n S dL_law_562 hl 1 rfl rfl ?_
  refine z_iload S dL_law_563 hl 5 rfl ?_
  refine z_iconst S dL_law_565 ?_
  refine z_iadd S dL_law_566 ?_
  refine z_sld S hX hb hS (i := ix + 2) (by omega) hL x2 dL_law_567 ?_
  refine z_aload_n S dL_law_568 hl 1 rfl rfl ?_
  refine z_iload S dL_law_569 hl 5 rfl ?_
  refine z_iconst S dL_law_571 ?_
  refine z_iadd S dL_law_572 ?_
  refine z_sld S hX hb hS (i := ix + 3) (by omega) hL x3 dL_law_573 ?_
  have ht : (1 : Int) = ec (!((decide (0 ≤ v) && decide (v ≤ 3)) && (decide (0 ≤ i) && decide (i ≤ 7)))) (!(decide (0 ≤ x) && decide (x ≤ 3))) := (ec_1 (by first | rfl | (simp only [Bool.not_eq_true', Bool.and_eq_true, Bool.or_eq_true, Bool.and_eq_false_iff, Bool.or_eq_false_iff, Bool.not_eq_false', decide_eq_true_eq, decide_eq_false_iff_not]; omega))).symm
  refine z_callM S hG hS (c_X4_dot l G σ b th m1 m2 I.iM kR v i x rv ri rx kC.2.1 kC.1 1 ht) (zA_m h9 I) ok_X4_dot I.M.1 zc_X4 rfl q5_199 (I.M) ⟨rfl, rfl, by decide, by decide⟩ ⟨(by have := hcs.1; omega), (by have := hcs.2; omega)⟩ rfl (Nat.le_of_ble_eq_true rfl) hl.1 rfl dL_law_574 (fun H_2 L_2 hB hz oq hS => ?_)
  refine z_fresh hS (fun hS => ?_)
  have I := I.stepN (τ' := σ) oq (fun q hq z => z) hB rfl rfl
  refine z_istore (lv' := [(6, .int (_)), (5, .int (zI (1))), (0, .ref (b0)), (1, .ref (a 0)), (2, .ref (b 0)), (3, .ref (o)), (4, .int (zI (ix)))]) S dL_law_577 hl (by decide) rfl (fun ls hl => ?_)
  refine z_goto S 985 dL_law_579 (by decide) ?_
  refine W.widen (k := cells + 1000) (n := slots + 10000) (by omega) (by omega) ?_
  exact kk _ _ _ _ _ _ _ _ _ _ hS I (rfl) (rfl) (lv_sub hl [2, 3, 4, 5, 6] rfl)
set_option maxHeartbeats 4000000 in
set_option maxRecDepth 100000 in
theorem lw_dot_2 (Z : zLaw p9 l s m9 cd ar G b0 L xs) (hS : va_S (fun q => s.heap.size ≤ q) s.heap H []) (I : zInv G σ a σ b th m1 m2 o n0 sv H) (hl : lv_has ls 9 [(0, .ref (b0)), (1, .ref (a 0)), (2, .ref (b 0)), (3, .ref (o)), (4, .int (zI (ix)))]) (hix : 0 ≤ ix ∧ ix + 4 < L) (hcs : cells + 1000 ≤ room_1.cells ∧ slots + 10000 ≤ room_1.slots) (kk : zKK p9 l e9 s m9 ar bw me cd Q G b0 o ix (a 0) (b 0) cells slots) (v i x : Int) (rv : rg v) (ri : rg i) (rx : rg x) (x1 : xs (ix + 1).toNat = zI v) (x2 : xs (ix + 2).toNat = zI i) (x3 : xs (ix + 3).toNat = zI x) (h1 : (0 ≤ v ∧ v ≤ 3) ∧ (0 ≤ i ∧ i ≤ 7)) (h2 : ¬ (0 ≤ x ∧ x ≤ 3)) : W p9 l e9 room_1 s m9 ar bw me cd H [] cells slots Q (F0 m9 530 ls []) := by
  obtain ⟨S, hl0, hG, hX, hb, hL, h9⟩ := Z
  have kC : okC σ := I.C.2.2.2.2.2
  have kR : okR σ := I.M.2.2.2.2.2.2.2.2.2
  refine z_aload_n S dL_law_530 hl 1 rfl rfl ?_
  refine z_aload_n S dL_law_531 hl 0 rfl rfl ?_
  refine z_iload S dL_law_532 hl 4 rfl ?_
  refine z_iconst S dL_law_534 ?_
  refine z_iadd S dL_law_535 ?_
  refine z_sld S hX hb hS (i := ix + 1) (by omega) hL x1 dL_law_536 ?_
  refine z_aload_n S dL_law_537 hl 0 rfl rfl ?_
  refine z_iload S dL_law_538 hl 4 rfl ?_
  refine z_iconst S dL_law_540 ?_
  refine z_iadd S dL_law_541 ?_
  refine z_sld S hX hb hS (i := ix + 2) (by omega) hL x2 dL_law_542 ?_
  refine z_aload_n S dL_law_543 hl 0 rfl rfl ?_
  refine z_iload S dL_law_544 hl 4 rfl ?_
  refine z_iconst S dL_law_546 ?_
  refine z_iadd S dL_law_547 ?_
  refine z_sld S hX hb hS (i := ix + 3) (by omega) hL x3 dL_law_548 ?_
  refine z_aload_n S dL_law_549 hl 3 rfl rfl ?_
  refine z_callH S hG hS (w_dot_2 l hl0 G σ a o n0 sv v i x rv ri rx h1 h2) (fun _ z => z.elim) okL_dot q3_89 (⟨I.C, I.xp⟩) ⟨rfl, rfl, by decide, by decide⟩ ⟨(by have := hcs.1; omega), (by have := hcs.2; omega)⟩ rfl (Nat.le_of_ble_eq_true rfl) hl.1 rfl dL_law_550 (fun H_1 L_1 hB hz oq hS => ?_)
  refine z_fresh hS (fun hS => ?_)
  have I := I.step0 oq
  refine z_istore (lv' := [(5, .int (zI (2))), (0, .ref (b0)), (1, .ref (a 0)), (2, .ref (b 0)), (3, .ref (o)), (4, .int (zI (ix)))]) S dL_law_553 hl (by decide) rfl (fun ls hl => ?_)
  refine z_aload_n S dL_law_555 hl 3 rfl rfl ?_
  refine z_aload_n S dL_law_556 hl 1 rfl rfl ?_
  refine z_iload S dL_law_557 hl 5 rfl ?_
  refine z_iconst S dL_law_559 ?_
  refine z_iadd S dL_law_560 ?_
  refine z_sld S hX hb hS (i := ix + 1) (by omega) hL x1 dL_law_561 ?_
  refine z_aload_n S dL_law_562 hl 1 rfl rfl ?_
  refine z_iload S dL_law_563 hl 5 rfl ?_
  refine z_iconst S dL_law_565 ?_
  refine z_iadd S dL_law_566 ?_
  refine z_sld S hX hb hS (i := ix + 2) (by omega) hL x2 dL_law_567 ?_
  refine z_aload_n S dL_law_568 hl 1 rfl rfl ?_
  refine z_iload S dL_law_569 hl 5 rfl ?_
  refine z_iconst S dL_law_571 ?_
  refine z_iadd S dL_law_572 ?_
  refine z_sld S hX hb hS (i := ix + 3) (by omega) hL x3 dL_law_573 ?_
  have ht : (2 : Int) = ec (!((decide (0 ≤ v) && decide (v ≤ 3)) && (decide (0 ≤ i) && decide (i ≤ 7)))) (!(decide (0 ≤ x) && decide (x ≤ 3))) := (ec_2 (by first | rfl | (simp only [Bool.not_eq_true', Bool.and_eq_true, Bool.or_eq_true, Bool.and_eq_false_iff, Bool.or_eq_false_iff, Bool.not_eq_false', decide_eq_true_eq, decide_eq_false_iff_not]; omega)) (by first | rfl | (simp only [Bool.not_eq_true', Bool.and_eq_true, Bool.or_eq_true, Bool.and_eq_false_iff, Bool.or_eq_false_iff, Bool.not_eq_false', decide_eq_true_eq, decide_eq_false_iff_not]; omega))).symm
  refine z_callM S hG hS (c_X4_dot l G σ b th m1 m2 I.iM kR v i x rv ri rx kC.2.1 kC.1 2 ht) (zA_m h9 I) ok_X4_dot I.M.1 zc_X4 rfl q5_199 (I.M) ⟨rfl, rfl, by decide, by decide⟩ ⟨(by have := hcs.1; omega), (by have := hcs.2; omega)⟩ rfl (Nat.le_of_ble_eq_true rfl) hl.1 rfl dL_law_574 (fun H_2 L_2 hB hz oq hS => ?_)
  refine z_fresh hS (fun hS => ?_)
  have I := I.stepN (τ' := σ) oq (fun q hq z => z) hB rfl rfl
  refine z_istore (lv' := [(6, .int (_)), (5, .int (zI (2))), (0, .ref (b0)), (1, .ref (a 0)), (2, .ref (b 0)), (3, .ref (o)), (4, .int (zI (ix)))]) S dL_law_577 hl (by decide) rfl (fun ls hl => ?_)
  refine z_goto S 985 dL_law_579 (by decide) ?_
  refine W.widen (k := cells + 1000) (n := slots + 10000) (by omega) (by omega) ?_
  exact kk _ _ _ _ _ _ _ _ _ _ hS I (rfl) (rfl) (lv_sub hl [2, 3, 4, 5, 6] rfl)
theorem q3_100 : (Jvm.Cond.methodLink "CyclepaintLaw" (139 : Nat) ({ cls := "CyclepaintLaw", name := "ofEntry", desc := "(LCyclepaint;IILCyclepaintLaw$Out;)I" } : Jvm.MethodName)) ∈ lw_g := zg_of (zin3 (List.mem_of_getElem? (i := 100) rfl)) rfl
theorem q5_210 : (Jvm.Cond.methodLink "CyclepaintLaw" (141 : Nat) ({ cls := "CyclepaintModel", name := "ofEntry", desc := "(II)I" } : Jvm.MethodName)) ∈ lw_g := zg_of (zin5 (List.mem_of_getElem? (i := 210) rfl)) rfl
set_option maxHeartbeats 4000000 in
set_option maxRecDepth 100000 in
theorem lw_ofEntry_0 (Z : zLaw p9 l s m9 cd ar G b0 L xs) (hS : va_S (fun q => s.heap.size ≤ q) s.heap H []) (I : zInv G σ a σ b th m1 m2 o n0 sv H) (hl : lv_has ls 9 [(0, .ref (b0)), (1, .ref (a 0)), (2, .ref (b 0)), (3, .ref (o)), (4, .int (zI (ix)))]) (hix : 0 ≤ ix ∧ ix + 4 < L) (hcs : cells + 1000 ≤ room_1.cells ∧ slots + 10000 ≤ room_1.slots) (kk : zKK p9 l e9 s m9 ar bw me cd Q G b0 o ix (a 0) (b 0) cells slots) (e x : Int) (re : rg e) (rx : rg x) (x1 : xs (ix + 1).toNat = zI e) (x2 : xs (ix + 2).toNat = zI x) (he : 0 ≤ e ∧ e ≤ 15) (hx : 0 ≤ x ∧ x ≤ 5) : W p9 l e9 room_1 s m9 ar bw me cd H [] cells slots Q (F0 m9 582 ls []) := by
  obtain ⟨S, hl0, hG, hX, hb, hL, h9⟩ := Z
  have kC : okC σ := I.C.2.2.2.2.2
  have kR : okR σ := I.M.2.2.2.2.2.2.2.2.2
  refine z_aload_n S dL_law_582 hl 1 rfl rfl ?_
  refine z_aload_n S dL_law_583 hl 0 rfl rfl ?_
  refine z_iload S dL_law_584 hl 4 rfl ?_
  refine z_iconst S dL_law_586 ?_
  refine z_iadd S dL_law_587 ?_
  refine z_sld S hX hb hS (i := ix + 1) (by omega) hL x1 dL_law_588 ?_
  refine z_aload_n S dL_law_589 hl 0 rfl rfl ?_
  refine z_iload S dL_law_590 hl 4 rfl ?_
  refine z_iconst S dL_law_592 ?_
  refine z_iadd S dL_law_593 ?_
  refine z_sld S hX hb hS (i := ix + 2) (by omega) hL x2 dL_law_594 ?_
  refine z_aload_n S dL_law_595 hl 3 rfl rfl ?_
  refine z_callH S hG hS (w_ofEntry_0 l hl0 G σ a o n0 sv I.iC I.ao e x he hx) (zA_co h9 I) okL_ofEntry q3_100 (⟨I.C, I.O⟩) ⟨rfl, rfl, by decide, by decide⟩ ⟨(by have := hcs.1; omega), (by have := hcs.2; omega)⟩ rfl (Nat.le_of_ble_eq_true rfl) hl.1 rfl dL_law_596 (fun H_1 L_1 hB hz oq hS => ?_)
  refine z_fresh hS (fun hS => ?_)
  have I := I.stepO oq hB rfl
  refine z_istore (lv' := [(5, .int (zI (0))), (0, .ref (b0)), (1, .ref (a 0)), (2, .ref (b 0)), (3, .ref (o)), (4, .int (zI (ix)))]) S dL_law_599 hl (by decide) rfl (fun ls hl => ?_)
  refine z_aload_n S dL_law_601 hl 3 rfl rfl ?_
  refine z_aload_n S dL_law_602 hl 1 rfl rfl ?_
  refine z_iload S dL_law_603 hl 5 rfl ?_
  refine z_iconst S dL_law_605 ?_
  refine z_iadd S dL_law_606 ?_
  refine z_sld S hX hb hS (i := ix + 1) (by omega) hL x1 dL_law_607 ?_
  refine z_aload_n S dL_law_608 hl 1 rfl rfl ?_
  refine z_iload S dL_law_609 hl 5 rfl ?_
  refine z_iconst S dL_law_611 ?_
  refine z_iadd S dL_law_612 ?_
  refine z_sld S hX hb hS (i := ix + 2) (by omega) hL x2 dL_law_613 ?_
  have ht : (0 : Int) = ec (!(decide (0 ≤ e) && decide (e ≤ 15))) (!(decide (0 ≤ x) && decide (x ≤ 5))) := (ec_0 (by first | rfl | (simp only [Bool.not_eq_true', Bool.and_eq_true, Bool.or_eq_true, Bool.and_eq_false_iff, Bool.or_eq_false_iff, Bool.not_eq_false', decide_eq_true_eq, decide_eq_false_iff_not]; omega)) (by first | rfl | (simp only [Bool.not_eq_true', Bool.and_eq_true, Bool.or_eq_true, Bool.and_eq_false_iff, Bool.or_eq_false_iff, Bool.not_eq_false', decide_eq_true_eq, decide_eq_false_iff_not]; omega))).symm
  refine z_callM S hG hS (c_X4_ofEntry l G σ b th m1 m2 I.iM kR e x re rx kC.2.1 kC.1 0 ht) (zA_m h9 I) ok_X4_ofEntry I.M.1 zc_X4 rfl q5_210 (I.M) ⟨rfl, rfl, by decide, by decide⟩ ⟨(by have := hcs.1; omega), (by have := hcs.2; omega)⟩ rfl (Nat.le_of_ble_eq_true rfl) hl.1 rfl dL_law_614 (fun H_2 L_2 hB hz oq hS => ?_)
  refine z_fresh hS (fun hS => ?_)
  have I := I.stepN (τ' := σ) oq (fun q hq z => z) hB rfl rfl
  refine z_istore (lv' := [(6, .int (_)), (5, .int (zI (0))), (0, .ref (b0)), (1, .ref (a 0)), (2, .ref (b 0)), (3, .ref (o)), (4, .int (zI (ix)))]) S dL_law_617 hl (by decide) rfl (fun ls hl => ?_)
  refine z_goto S 985 dL_law_619 (by decide) ?_
  refine W.widen (k := cells + 1000) (n := slots + 10000) (by omega) (by omega) ?_
  exact kk _ _ _ _ _ _ _ _ _ _ hS I (rfl) (rfl) (lv_sub hl [2, 3, 4, 5, 6] rfl)
set_option maxHeartbeats 4000000 in
set_option maxRecDepth 100000 in
theorem lw_ofEntry_1 (Z : zLaw p9 l s m9 cd ar G b0 L xs) (hS : va_S (fun q => s.heap.size ≤ q) s.heap H []) (I : zInv G σ a σ b th m1 m2 o n0 sv H) (hl : lv_has ls 9 [(0, .ref (b0)), (1, .ref (a 0)), (2, .ref (b 0)), (3, .ref (o)), (4, .int (zI (ix)))]) (hix : 0 ≤ ix ∧ ix + 4 < L) (hcs : cells + 1000 ≤ room_1.cells ∧ slots + 10000 ≤ room_1.slots) (kk : zKK p9 l e9 s m9 ar bw me cd Q G b0 o ix (a 0) (b 0) cells slots) (e x : Int) (re : rg e) (rx : rg x) (x1 : xs (ix + 1).toNat = zI e) (x2 : xs (ix + 2).toNat = zI x) (h1 : ¬ (0 ≤ e ∧ e ≤ 15)) : W p9 l e9 room_1 s m9 ar bw me cd H [] cells slots Q (F0 m9 582 ls []) := by
  obtain ⟨S, hl0, hG, hX, hb, hL, h9⟩ := Z
  have kC : okC σ := I.C.2.2.2.2.2
  have kR : okR σ := I.M.2.2.2.2.2.2.2.2.2
  refine z_aload_n S dL_law_582 hl 1 rfl rfl ?_
  refine z_aload_n S dL_law_583 hl 0 rfl rfl ?_
  refine z_iload S dL_law_584 hl 4 rfl ?_
  refine z_iconst S dL_law_586 ?_
  refine z_iadd S dL_law_587 ?_
  refine z_sld S hX hb hS (i := ix + 1) (by omega) hL x1 dL_law_588 ?_
  refine z_aload_n S dL_law_589 hl 0 rfl rfl ?_
  refine z_iload S dL_law_590 hl 4 rfl ?_
  refine z_iconst S dL_law_592 ?_
  refine z_iadd S dL_law_593 ?_
  refine z_sld S hX hb hS (i := ix + 2) (by omega) hL x2 dL_law_594 ?_
  refine z_aload_n S dL_law_595 hl 3 rfl rfl ?_
  refine z_callH S hG hS (w_ofEntry_1 l hl0 G σ a o n0 sv e x re rx h1) (fun _ z => z.elim) okL_ofEntry q3_100 (⟨I.C, I.xp⟩) ⟨rfl, rfl, by decide, by decide⟩ ⟨(by have := hcs.1; omega), (by have := hcs.2; omega)⟩ rfl (Nat.le_of_ble_eq_true rfl) hl.1 rfl dL_law_596 (fun H_1 L_1 hB hz oq hS => ?_)
  refine z_fresh hS (fun hS => ?_)
  have I := I.step0 oq
  refine z_istore (lv' := [(5, .int (zI (1))), (0, .ref (b0)), (1, .ref (a 0)), (2, .ref (b 0)), (3, .ref (o)), (4, .int (zI (ix)))]) S dL_law_599 hl (by decide) rfl (fun ls hl => ?_)
  refine z_aload_n S dL_law_601 hl 3 rfl rfl ?_
  refine z_aload_n S dL_law_602 hl 1 rfl rfl ?_
  refine z_iload S dL_law_603 hl 5 rfl ?_
  refine z_iconst S dL_law_605 ?_
  refine z_iadd S dL_law_606 ?_
  refine z_sld S hX hb hS (i := ix + 1) (by omega) hL x1 dL_law_607 ?_
  refine z_aload_n S dL_law_608 hl 1 rfl rfl ?_
  refine z_iload S dL_law_609 hl 5 rfl ?_
  refine z_iconst S dL_law_611 ?_
  refine z_iadd S dL_law_612 ?_
  refine z_sld S hX hb hS (i := ix + 2) (by omega) hL x2 dL_law_613 ?_
  have ht : (1 : Int) = ec (!(decide (0 ≤ e) && decide (e ≤ 15))) (!(decide (0 ≤ x) && decide (x ≤ 5))) := (ec_1 (by first | rfl | (simp only [Bool.not_eq_true', Bool.and_eq_true, Bool.or_eq_true, Bool.and_eq_false_iff, Bool.or_eq_false_iff, Bool.not_eq_false', decide_eq_true_eq, decide_eq_false_iff_not]; omega))).symm
  refine z_callM S hG hS (c_X4_ofEntry l G σ b th m1 m2 I.iM kR e x re rx kC.2.1 kC.1 1 ht) (zA_m h9 I) ok_X4_ofEntry I.M.1 zc_X4 rfl q5_210 (I.M) ⟨rfl, rfl, by decide, by decide⟩ ⟨(by have := hcs.1; omega), (by have := hcs.2; omega)⟩ rfl (Nat.le_of_ble_eq_true rfl) hl.1 rfl dL_law_614 (fun H_2 L_2 hB hz oq hS => ?_)
  refine z_fresh hS (fun hS => ?_)
  have I := I.stepN (τ' := σ) oq (fun q hq z => z) hB rfl rfl
  refine z_istore (lv' := [(6, .int (_)), (5, .int (zI (1))), (0, .ref (b0)), (1, .ref (a 0)), (2, .ref (b 0)), (3, .ref (o)), (4, .int (zI (ix)))]) S dL_law_617 hl (by decide) rfl (fun ls hl => ?_)
  refine z_goto S 985 dL_law_619 (by decide) ?_
  refine W.widen (k := cells + 1000) (n := slots + 10000) (by omega) (by omega) ?_
  exact kk _ _ _ _ _ _ _ _ _ _ hS I (rfl) (rfl) (lv_sub hl [2, 3, 4, 5, 6] rfl)
set_option maxHeartbeats 4000000 in
set_option maxRecDepth 100000 in
theorem lw_ofEntry_2 (Z : zLaw p9 l s m9 cd ar G b0 L xs) (hS : va_S (fun q => s.heap.size ≤ q) s.heap H []) (I : zInv G σ a σ b th m1 m2 o n0 sv H) (hl : lv_has ls 9 [(0, .ref (b0)), (1, .ref (a 0)), (2, .ref (b 0)), (3, .ref (o)), (4, .int (zI (ix)))]) (hix : 0 ≤ ix ∧ ix + 4 < L) (hcs : cells + 1000 ≤ room_1.cells ∧ slots + 10000 ≤ room_1.slots) (kk : zKK p9 l e9 s m9 ar bw me cd Q G b0 o ix (a 0) (b 0) cells slots) (e x : Int) (re : rg e) (rx : rg x) (x1 : xs (ix + 1).toNat = zI e) (x2 : xs (ix + 2).toNat = zI x) (h1 : (0 ≤ e ∧ e ≤ 15)) (h2 : ¬ (0 ≤ x ∧ x ≤ 5)) : W p9 l e9 room_1 s m9 ar bw me cd H [] cells slots Q (F0 m9 582 ls []) := by
  obtain ⟨S, hl0, hG, hX, hb, hL, h9⟩ := Z
  have kC : okC σ := I.C.2.2.2.2.2
  have kR : okR σ := I.M.2.2.2.2.2.2.2.2.2
  refine z_aload_n S dL_law_582 hl 1 rfl rfl ?_
  refine z_aload_n S dL_law_583 hl 0 rfl rfl ?_
  refine z_iload S dL_law_584 hl 4 rfl ?_
  refine z_iconst S dL_law_586 ?_
  refine z_iadd S dL_law_587 ?_
  refine z_sld S hX hb hS (i := ix + 1) (by omega) hL x1 dL_law_588 ?_
  refine z_aload_n S dL_law_589 hl 0 rfl rfl ?_
  refine z_iload S dL_law_590 hl 4 rfl ?_
  refine z_iconst S dL_law_592 ?_
  refine z_iadd S dL_law_593 ?_
  refine z_sld S hX hb hS (i := ix + 2) (by omega) hL x2 dL_law_594 ?_
  refine z_aload_n S dL_law_595 hl 3 rfl rfl ?_
  refine z_callH S hG hS (w_ofEntry_2 l hl0 G σ a o n0 sv e x re rx h1 h2) (fun _ z => z.elim) okL_ofEntry q3_100 (⟨I.C, I.xp⟩) ⟨rfl, rfl, by decide, by decide⟩ ⟨(by have := hcs.1; omega), (by have := hcs.2; omega)⟩ rfl (Nat.le_of_ble_eq_true rfl) hl.1 rfl dL_law_596 (fun H_1 L_1 hB hz oq hS => ?_)
  refine z_fresh hS (fun hS => ?_)
  have I := I.step0 oq
  refine z_istore (lv' := [(5, .int (zI (2))), (0, .ref (b0)), (1, .ref (a 0)), (2, .ref (b 0)), (3, .ref (o)), (4, .int (zI (ix)))]) S dL_law_599 hl (by decide) rfl (fun ls hl => ?_)
  refine z_aload_n S dL_law_601 hl 3 rfl rfl ?_
  refine z_aload_n S dL_law_602 hl 1 rfl rfl ?_
  refine z_iload S dL_law_603 hl 5 rfl ?_
  refine z_iconst S dL_law_605 ?_
  refine z_iadd S dL_law_606 ?_
  refine z_sld S hX hb hS (i := ix + 1) (by omega) hL x1 dL_law_607 ?_
  refine z_aload_n S dL_law_608 hl 1 rfl rfl ?_
  refine z_iload S dL_law_609 hl 5 rfl ?_
  refine z_iconst S dL_law_611 ?_
  refine z_iadd S dL_law_612 ?_
  refine z_sld S hX hb hS (i := ix + 2) (by omega) hL x2 dL_law_613 ?_
  have ht : (2 : Int) = ec (!(decide (0 ≤ e) && decide (e ≤ 15))) (!(decide (0 ≤ x) && decide (x ≤ 5))) := (ec_2 (by first | rfl | (simp only [Bool.not_eq_true', Bool.and_eq_true, Bool.or_eq_true, Bool.and_eq_false_iff, Bool.or_eq_false_iff, Bool.not_eq_false', decide_eq_true_eq, decide_eq_false_iff_not]; omega)) (by first | rfl | (simp only [Bool.not_eq_true', Bool.and_eq_true, Bool.or_eq_true, Bool.and_eq_false_iff, Bool.or_eq_false_iff, Bool.not_eq_false', decide_eq_true_eq, decide_eq_false_iff_not]; omega))).symm
  refine z_callM S hG hS (c_X4_ofEntry l G σ b th m1 m2 I.iM kR e x re rx kC.2.1 kC.1 2 ht) (zA_m h9 I) ok_X4_ofEntry I.M.1 zc_X4 rfl q5_210 (I.M) ⟨rfl, rfl, by decide, by decide⟩ ⟨(by have := hcs.1; omega), (by have := hcs.2; omega)⟩ rfl (Nat.le_of_ble_eq_true rfl) hl.1 rfl dL_law_614 (fun H_2 L_2 hB hz oq hS => ?_)
  refine z_fresh hS (fun hS => ?_)
  have I := I.stepN (τ' := σ) oq (fun q hq z => z) hB rfl rfl
  refine z_istore (lv' := [(6, .int (_)), (5, .int (zI (2))), (0, .ref (b0)), (1, .ref (a 0)), (2, .ref (b 0)), (3, .ref (o)), (4, .int (zI (ix)))]) S dL_law_617 hl (by decide) rfl (fun ls hl => ?_)
  refine z_goto S 985 dL_law_619 (by decide) ?_
  refine W.widen (k := cells + 1000) (n := slots + 10000) (by omega) (by omega) ?_
  exact kk _ _ _ _ _ _ _ _ _ _ hS I (rfl) (rfl) (lv_sub hl [2, 3, 4, 5, 6] rfl)
theorem q3_108 : (Jvm.Cond.methodLink "CyclepaintLaw" (142 : Nat) ({ cls := "CyclepaintLaw", name := "ofRange", desc := "(LCyclepaint;IILCyclepaintLaw$Out;)I" } : Jvm.MethodName)) ∈ lw_g := zg_of (zin3 (List.mem_of_getElem? (i := 108) rfl)) rfl
theorem q5_222 : (Jvm.Cond.methodLink "CyclepaintLaw" (144 : Nat) ({ cls := "CyclepaintModel", name := "ofRange", desc := "(II)I" } : Jvm.MethodName)) ∈ lw_g := zg_of (zin5 (List.mem_of_getElem? (i := 222) rfl)) rfl
set_option maxHeartbeats 4000000 in
set_option maxRecDepth 100000 in
theorem lw_ofRange_0 (Z : zLaw p9 l s m9 cd ar G b0 L xs) (hS : va_S (fun q => s.heap.size ≤ q) s.heap H []) (I : zInv G σ a σ b th m1 m2 o n0 sv H) (hl : lv_has ls 9 [(0, .ref (b0)), (1, .ref (a 0)), (2, .ref (b 0)), (3, .ref (o)), (4, .int (zI (ix)))]) (hix : 0 ≤ ix ∧ ix + 4 < L) (hcs : cells + 1000 ≤ room_1.cells ∧ slots + 10000 ≤ room_1.slots) (kk : zKK p9 l e9 s m9 ar bw me cd Q G b0 o ix (a 0) (b 0) cells slots) (j x : Int) (rj : rg j) (rx : rg x) (x1 : xs (ix + 1).toNat = zI j) (x2 : xs (ix + 2).toNat = zI x) (hj : 0 ≤ j ∧ j < σ.rn) (hx : 0 ≤ x ∧ x ≤ 5) : W p9 l e9 room_1 s m9 ar bw me cd H [] cells slots Q (F0 m9 622 ls []) := by
  obtain ⟨S, hl0, hG, hX, hb, hL, h9⟩ := Z
  have kC : okC σ := I.C.2.2.2.2.2
  have kR : okR σ := I.M.2.2.2.2.2.2.2.2.2
  refine z_aload_n S dL_law_622 hl 1 rfl rfl ?_
  refine z_aload_n S dL_law_623 hl 0 rfl rfl ?_
  refine z_iload S dL_law_624 hl 4 rfl ?_
  refine z_iconst S dL_law_626 ?_
  refine z_iadd S dL_law_627 ?_
  refine z_sld S hX hb hS (i := ix + 1) (by omega) hL x1 dL_law_628 ?_
  refine z_aload_n S dL_law_629 hl 0 rfl rfl ?_
  refine z_iload S dL_law_630 hl 4 rfl ?_
  refine z_iconst S dL_law_632 ?_
  refine z_iadd S dL_law_633 ?_
  refine z_sld S hX hb hS (i := ix + 2) (by omega) hL x2 dL_law_634 ?_
  refine z_aload_n S dL_law_635 hl 3 rfl rfl ?_
  refine z_callH S hG hS (w_ofRange_0 l hl0 G σ a o n0 sv I.iC I.ao j x hj hx) (zA_co h9 I) okL_ofRange q3_108 (⟨I.C, I.O⟩) ⟨rfl, rfl, by decide, by decide⟩ ⟨(by have := hcs.1; omega), (by have := hcs.2; omega)⟩ rfl (Nat.le_of_ble_eq_true rfl) hl.1 rfl dL_law_636 (fun H_1 L_1 hB hz oq hS => ?_)
  refine z_fresh hS (fun hS => ?_)
  have I := I.stepO oq hB rfl
  refine z_istore (lv' := [(5, .int (zI (0))), (0, .ref (b0)), (1, .ref (a 0)), (2, .ref (b 0)), (3, .ref (o)), (4, .int (zI (ix)))]) S dL_law_639 hl (by decide) rfl (fun ls hl => ?_)
  refine z_aload_n S dL_law_641 hl 3 rfl rfl ?_
  refine z_aload_n S dL_law_642 hl 1 rfl rfl ?_
  refine z_iload S dL_law_643 hl 5 rfl ?_
  refine z_iconst S dL_law_645 ?_
  refine z_iadd S dL_law_646 ?_
  refine z_sld S hX hb hS (i := ix + 1) (by omega) hL x1 dL_law_647 ?_
  refine z_aload_n S dL_law_648 hl 1 rfl rfl ?_
  refine z_iload S dL_law_649 hl 5 rfl ?_
  refine z_iconst S dL_law_651 ?_
  refine z_iadd S dL_law_652 ?_
  refine z_sld S hX hb hS (i := ix + 2) (by omega) hL x2 dL_law_653 ?_
  have ht : (0 : Int) = ec (!(decide (0 ≤ j) && decide (j ≤ σ.rn - 1))) (!(decide (0 ≤ x) && decide (x ≤ 5))) := (ec_0 (by first | rfl | (simp only [Bool.not_eq_true', Bool.and_eq_true, Bool.or_eq_true, Bool.and_eq_false_iff, Bool.or_eq_false_iff, Bool.not_eq_false', decide_eq_true_eq, decide_eq_false_iff_not]; omega)) (by first | rfl | (simp only [Bool.not_eq_true', Bool.and_eq_true, Bool.or_eq_true, Bool.and_eq_false_iff, Bool.or_eq_false_iff, Bool.not_eq_false', decide_eq_true_eq, decide_eq_false_iff_not]; omega))).symm
  refine z_callM S hG hS (c_X4_ofRange l G σ b th m1 m2 _ I.iM j x rj rx kC.1 0 ht) (zA_n h9 I hS) ok_X4_ofRange I.M.1 zc_X4 rfl q5_222 (⟨I.M, rfl⟩) ⟨rfl, rfl, by decide, by decide⟩ ⟨(by have := hcs.1; omega), (by have := hcs.2; omega)⟩ rfl (Nat.le_of_ble_eq_true rfl) hl.1 rfl dL_law_654 (fun H_2 L_2 hB hz oq hS => ?_)
  refine z_fresh hS (fun hS => ?_)
  have I := I.stepN (τ' := σ) oq (fun q hq z => z.elim id (fun z => absurd hq (by omega))) hB rfl rfl
  refine z_istore (lv' := [(6, .int (_)), (5, .int (zI (0))), (0, .ref (b0)), (1, .ref (a 0)), (2, .ref (b 0)), (3, .ref (o)), (4, .int (zI (ix)))]) S dL_law_657 hl (by decide) rfl (fun ls hl => ?_)
  refine z_goto S 985 dL_law_659 (by decide) ?_
  refine W.widen (k := cells + 1000) (n := slots + 10000) (by omega) (by omega) ?_
  exact kk _ _ _ _ _ _ _ _ _ _ hS I (rfl) (rfl) (lv_sub hl [2, 3, 4, 5, 6] rfl)
set_option maxHeartbeats 4000000 in
set_option maxRecDepth 100000 in
theorem lw_ofRange_1 (Z : zLaw p9 l s m9 cd ar G b0 L xs) (hS : va_S (fun q => s.heap.size ≤ q) s.heap H []) (I : zInv G σ a σ b th m1 m2 o n0 sv H) (hl : lv_has ls 9 [(0, .ref (b0)), (1, .ref (a 0)), (2, .ref (b 0)), (3, .ref (o)), (4, .int (zI (ix)))]) (hix : 0 ≤ ix ∧ ix + 4 < L) (hcs : cells + 1000 ≤ room_1.cells ∧ slots + 10000 ≤ room_1.slots) (kk : zKK p9 l e9 s m9 ar bw me cd Q G b0 o ix (a 0) (b 0) cells slots) (j x : Int) (rj : rg j) (rx : rg x) (x1 : xs (ix + 1).toNat = zI j) (x2 : xs (ix + 2).toNat = zI x) (h1 : ¬ (0 ≤ j ∧ j < σ.rn)) : W p9 l e9 room_1 s m9 ar bw me cd H [] cells slots Q (F0 m9 622 ls []) := by
  obtain ⟨S, hl0, hG, hX, hb, hL, h9⟩ := Z
  have kC : okC σ := I.C.2.2.2.2.2
  have kR : okR σ := I.M.2.2.2.2.2.2.2.2.2
  refine z_aload_n S dL_law_622 hl 1 rfl rfl ?_
  refine z_aload_n S dL_law_623 hl 0 rfl rfl ?_
  refine z_iload S dL_law_624 hl 4 rfl ?_
  refine z_iconst S dL_law_626 ?_
  refine z_iadd S dL_law_627 ?_
  refine z_sld S hX hb hS (i := ix + 1) (by omega) hL x1 dL_law_628 ?_
  refine z_aload_n S dL_law_629 hl 0 rfl rfl ?_
  refine z_iload S dL_law_630 hl 4 rfl ?_
  refine z_iconst S dL_law_632 ?_
  refine z_iadd S dL_law_633 ?_
  refine z_sld S hX hb hS (i := ix + 2) (by omega) hL x2 dL_law_634 ?_
  refine z_aload_n S dL_law_635 hl 3 rfl rfl ?_
  refine z_callH S hG hS (w_ofRange_1 l hl0 G σ a o n0 sv j x rj rx h1) (fun _ z => z.elim) okL_ofRange q3_108 (⟨I.C, I.xp⟩) ⟨rfl, rfl, by decide, by decide⟩ ⟨(by have := hcs.1; omega), (by have := hcs.2; omega)⟩ rfl (Nat.le_of_ble_eq_true rfl) hl.1 rfl dL_law_636 (fun H_1 L_1 hB hz oq hS => ?_)
  refine z_fresh hS (fun hS => ?_)
  have I := I.step0 oq
  refine z_istore (lv' := [(5, .int (zI (1))), (0, .ref (b0)), (1, .ref (a 0)), (2, .ref (b 0)), (3, .ref (o)), (4, .int (zI (ix)))]) S dL_law_639 hl (by decide) rfl (fun ls hl => ?_)
  refine z_aload_n S dL_law_641 hl 3 rfl rfl ?_
  refine z_aload_n S dL_law_642 hl 1 rfl rfl ?_
  refine z_iload S dL_law_643 hl 5 rfl ?_
  refine z_iconst S dL_law_645 ?_
  refine z_iadd S dL_law_646 ?_
  refine z_sld S hX hb hS (i := ix + 1) (by omega) hL x1 dL_law_647 ?_
  refine z_aload_n S dL_law_648 hl 1 rfl rfl ?_
  refine z_iload S dL_law_649 hl 5 rfl ?_
  refine z_iconst S dL_law_651 ?_
  refine z_iadd S dL_law_652 ?_
  refine z_sld S hX hb hS (i := ix + 2) (by omega) hL x2 dL_law_653 ?_
  have ht : (1 : Int) = ec (!(decide (0 ≤ j) && decide (j ≤ σ.rn - 1))) (!(decide (0 ≤ x) && decide (x ≤ 5))) := (ec_1 (by first | rfl | (simp only [Bool.not_eq_true', Bool.and_eq_true, Bool.or_eq_true, Bool.and_eq_false_iff, Bool.or_eq_false_iff, Bool.not_eq_false', decide_eq_true_eq, decide_eq_false_iff_not]; omega))).symm
  refine z_callM S hG hS (c_X4_ofRange l G σ b th m1 m2 _ I.iM j x rj rx kC.1 1 ht) (zA_n h9 I hS) ok_X4_ofRange I.M.1 zc_X4 rfl q5_222 (⟨I.M, rfl⟩) ⟨rfl, rfl, by decide, by decide⟩ ⟨(by have := hcs.1; omega), (by have := hcs.2; omega)⟩ rfl (Nat.le_of_ble_eq_true rfl) hl.1 rfl dL_law_654 (fun H_2 L_2 hB hz oq hS => ?_)
  refine z_fresh hS (fun hS => ?_)
  have I := I.stepN (τ' := σ) oq (fun q hq z => z.elim id (fun z => absurd hq (by omega))) hB rfl rfl
  refine z_istore (lv' := [(6, .int (_)), (5, .int (zI (1))), (0, .ref (b0)), (1, .ref (a 0)), (2, .ref (b 0)), (3, .ref (o)), (4, .int (zI (ix)))]) S dL_law_657 hl (by decide) rfl (fun ls hl => ?_)
  refine z_goto S 985 dL_law_659 (by decide) ?_
  refine W.widen (k := cells + 1000) (n := slots + 10000) (by omega) (by omega) ?_
  exact kk _ _ _ _ _ _ _ _ _ _ hS I (rfl) (rfl) (lv_sub hl [2, 3, 4, 5, 6] rfl)
set_option maxHeartbeats 4000000 in
set_option maxRecDepth 100000 in
theorem lw_ofRange_2 (Z : zLaw p9 l s m9 cd ar G b0 L xs) (hS : va_S (fun q => s.heap.size ≤ q) s.heap H []) (I : zInv G σ a σ b th m1 m2 o n0 sv H) (hl : lv_has ls 9 [(0, .ref (b0)), (1, .ref (a 0)), (2, .ref (b 0)), (3, .ref (o)), (4, .int (zI (ix)))]) (hix : 0 ≤ ix ∧ ix + 4 < L) (hcs : cells + 1000 ≤ room_1.cells ∧ slots + 10000 ≤ room_1.slots) (kk : zKK p9 l e9 s m9 ar bw me cd Q G b0 o ix (a 0) (b 0) cells slots) (j x : Int) (rj : rg j) (rx : rg x) (x1 : xs (ix + 1).toNat = zI j) (x2 : xs (ix + 2).toNat = zI x) (h1 : 0 ≤ j ∧ j < σ.rn) (h2 : ¬ (0 ≤ x ∧ x ≤ 5)) : W p9 l e9 room_1 s m9 ar bw me cd H [] cells slots Q (F0 m9 622 ls []) := by
  obtain ⟨S, hl0, hG, hX, hb, hL, h9⟩ := Z
  have kC : okC σ := I.C.2.2.2.2.2
  have kR : okR σ := I.M.2.2.2.2.2.2.2.2.2
  refine z_aload_n S dL_law_622 hl 1 rfl rfl ?_
  refine z_aload_n S dL_law_623 hl 0 rfl rfl ?_
  refine z_iload S dL_law_624 hl 4 rfl ?_
  refine z_iconst S dL_law_626 ?_
  refine z_iadd S dL_law_627 ?_
  refine z_sld S hX hb hS (i := ix + 1) (by omega) hL x1 dL_law_628 ?_
  refine z_aload_n S dL_law_629 hl 0 rfl rfl ?_
  refine z_iload S dL_law_630 hl 4 rfl ?_
  refine z_iconst S dL_law_632 ?_
  refine z_iadd S dL_law_633 ?_
  refine z_sld S hX hb hS (i := ix + 2) (by omega) hL x2 dL_law_634 ?_
  refine z_aload_n S dL_law_635 hl 3 rfl rfl ?_
  refine z_callH S hG hS (w_ofRange_2 l hl0 G σ a o n0 sv j x rj rx h1 h2) (fun _ z => z.elim) okL_ofRange q3_108 (⟨I.C, I.xp⟩) ⟨rfl, rfl, by decide, by decide⟩ ⟨(by have := hcs.1; omega), (by have := hcs.2; omega)⟩ rfl (Nat.le_of_ble_eq_true rfl) hl.1 rfl dL_law_636 (fun H_1 L_1 hB hz oq hS => ?_)
  refine z_fresh hS (fun hS => ?_)
  have I := I.step0 oq
  refine z_istore (lv' := [(5, .int (zI (2))), (0, .ref (b0)), (1, .ref (a 0)), (2, .ref (b 0)), (3, .ref (o)), (4, .int (zI (ix)))]) S dL_law_639 hl (by decide) rfl (fun ls hl => ?_)
  refine z_aload_n S dL_law_641 hl 3 rfl rfl ?_
  refine z_aload_n S dL_law_642 hl 1 rfl rfl ?_
  refine z_iload S dL_law_643 hl 5 rfl ?_
  refine z_iconst S dL_law_645 ?_
  refine z_iadd S dL_law_646 ?_
  refine z_sld S hX hb hS (i := ix + 1) (by omega) hL x1 dL_law_647 ?_
  refine z_aload_n S dL_law_648 hl 1 rfl rfl ?_
  refine z_iload S dL_law_649 hl 5 rfl ?_
  refine z_iconst S dL_law_651 ?_
  refine z_iadd S dL_law_652 ?_
  refine z_sld S hX hb hS (i := ix + 2) (by omega) hL x2 dL_law_653 ?_
  have ht : (2 : Int) = ec (!(decide (0 ≤ j) && decide (j ≤ σ.rn - 1))) (!(decide (0 ≤ x) && decide (x ≤ 5))) := (ec_2 (by first | rfl | (simp only [Bool.not_eq_true', Bool.and_eq_true, Bool.or_eq_true, Bool.and_eq_false_iff, Bool.or_eq_false_iff, Bool.not_eq_false', decide_eq_true_eq, decide_eq_false_iff_not]; omega)) (by first | rfl | (simp only [Bool.not_eq_true', Bool.and_eq_true, Bool.or_eq_true, Bool.and_eq_false_iff, Bool.or_eq_false_iff, Bool.not_eq_false', decide_eq_true_eq, decide_eq_false_iff_not]; omega))).symm
  refine z_callM S hG hS (c_X4_ofRange l G σ b th m1 m2 _ I.iM j x rj rx kC.1 2 ht) (zA_n h9 I hS) ok_X4_ofRange I.M.1 zc_X4 rfl q5_222 (⟨I.M, rfl⟩) ⟨rfl, rfl, by decide, by decide⟩ ⟨(by have := hcs.1; omega), (by have := hcs.2; omega)⟩ rfl (Nat.le_of_ble_eq_true rfl) hl.1 rfl dL_law_654 (fun H_2 L_2 hB hz oq hS => ?_)
  refine z_fresh hS (fun hS => ?_)
  have I := I.stepN (τ' := σ) oq (fun q hq z => z.elim id (fun z => absurd hq (by omega))) hB rfl rfl
  refine z_istore (lv' := [(6, .int (_)), (5, .int (zI (2))), (0, .ref (b0)), (1, .ref (a 0)), (2, .ref (b 0)), (3, .ref (o)), (4, .int (zI (ix)))]) S dL_law_657 hl (by decide) rfl (fun ls hl => ?_)
  refine z_goto S 985 dL_law_659 (by decide) ?_
  refine W.widen (k := cells + 1000) (n := slots + 10000) (by omega) (by omega) ?_
  exact kk _ _ _ _ _ _ _ _ _ _ hS I (rfl) (rfl) (lv_sub hl [2, 3, 4, 5, 6] rfl)
theorem q3_115 : (Jvm.Cond.methodLink "CyclepaintLaw" (145 : Nat) ({ cls := "CyclepaintLaw", name := "picture", desc := "(LCyclepaint;ILCyclepaintLaw$Out;)I" } : Jvm.MethodName)) ∈ lw_g := zg_of (zin3 (List.mem_of_getElem? (i := 115) rfl)) rfl
theorem q5_230 : (Jvm.Cond.methodLink "CyclepaintLaw" (147 : Nat) ({ cls := "CyclepaintModel", name := "picture", desc := "(I)I" } : Jvm.MethodName)) ∈ lw_g := zg_of (zin5 (List.mem_of_getElem? (i := 230) rfl)) rfl
set_option maxHeartbeats 4000000 in
set_option maxRecDepth 100000 in
theorem lw_picture_0 (Z : zLaw p9 l s m9 cd ar G b0 L xs) (hS : va_S (fun q => s.heap.size ≤ q) s.heap H []) (I : zInv G σ a σ b th m1 m2 o n0 sv H) (hl : lv_has ls 9 [(0, .ref (b0)), (1, .ref (a 0)), (2, .ref (b 0)), (3, .ref (o)), (4, .int (zI (ix)))]) (hix : 0 ≤ ix ∧ ix + 4 < L) (hcs : cells + 1000 ≤ room_1.cells ∧ slots + 10000 ≤ room_1.slots) (kk : zKK p9 l e9 s m9 ar bw me cd Q G b0 o ix (a 0) (b 0) cells slots) (x : Int) (rx : rg x) (x1 : xs (ix + 1).toNat = zI x) (hx : 0 ≤ x ∧ x ≤ 11) : W p9 l e9 room_1 s m9 ar bw me cd H [] cells slots Q (F0 m9 662 ls []) := by
  obtain ⟨S, hl0, hG, hX, hb, hL, h9⟩ := Z
  have kC : okC σ := I.C.2.2.2.2.2
  have kR : okR σ := I.M.2.2.2.2.2.2.2.2.2
  refine z_aload_n S dL_law_662 hl 1 rfl rfl ?_
  refine z_aload_n S dL_law_663 hl 0 rfl rfl ?_
  refine z_iload S dL_law_664 hl 4 rfl ?_
  refine z_iconst S dL_law_666 ?_
  refine z_iadd S dL_law_667 ?_
  refine z_sld S hX hb hS (i := ix + 1) (by omega) hL x1 dL_law_668 ?_
  refine z_aload_n S dL_law_669 hl 3 rfl rfl ?_
  refine z_callH S hG hS (w_picture_0 l hl0 G σ a o n0 sv I.iC I.ao x hx) (zA_co h9 I) okL_picture q3_115 (⟨I.C, I.O⟩) ⟨rfl, rfl, by decide, by decide⟩ ⟨(by have := hcs.1; omega), (by have := hcs.2; omega)⟩ rfl (Nat.le_of_ble_eq_true rfl) hl.1 rfl dL_law_670 (fun H_1 L_1 hB hz oq hS => ?_)
  refine z_fresh hS (fun hS => ?_)
  have I := I.stepO oq hB rfl
  refine z_istore (lv' := [(5, .int (zI (0))), (0, .ref (b0)), (1, .ref (a 0)), (2, .ref (b 0)), (3, .ref (o)), (4, .int (zI (ix)))]) S dL_law_673 hl (by decide) rfl (fun ls hl => ?_)
  refine z_aload_n S dL_law_675 hl 3 rfl rfl ?_
  refine z_aload_n S dL_law_676 hl 1 rfl rfl ?_
  refine z_iload S dL_law_677 hl 5 rfl ?_
  refine z_iconst S dL_law_679 ?_
  refine z_iadd S dL_law_680 ?_
  refine z_sld S hX hb hS (i := ix + 1) (by omega) hL x1 dL_law_681 ?_
  have ht : (0 : Int) = ec (!(decide (0 ≤ x) && decide (x ≤ 11))) (false) := (ec_0 (by first | rfl | (simp only [Bool.not_eq_true', Bool.and_eq_true, Bool.or_eq_true, Bool.and_eq_false_iff, Bool.or_eq_false_iff, Bool.not_eq_false', decide_eq_true_eq, decide_eq_false_iff_not]; omega)) (by first | rfl | (simp only [Bool.not_eq_true', Bool.and_eq_true, Bool.or_eq_true, Bool.and_eq_false_iff, Bool.or_eq_false_iff, Bool.not_eq_false', decide_eq_true_eq, decide_eq_false_iff_not]; omega))).symm
  refine z_callM S hG hS (c_X4_picture l G σ b th m1 m2 I.iM kR x rx kC.2.1 kC.1 kC.2.2.1 0 ht) (zA_m h9 I) ok_X4_picture I.M.1 zc_X4 rfl q5_230 (I.M) ⟨rfl, rfl, by decide, by decide⟩ ⟨(by have := hcs.1; omega), (by have := hcs.2; omega)⟩ rfl (Nat.le_of_ble_eq_true rfl) hl.1 rfl dL_law_682 (fun H_2 L_2 hB hz oq hS => ?_)
  refine z_fresh hS (fun hS => ?_)
  have I := I.stepN (τ' := σ) oq (fun q hq z => z) hB rfl rfl
  refine z_istore (lv' := [(6, .int (_)), (5, .int (zI (0))), (0, .ref (b0)), (1, .ref (a 0)), (2, .ref (b 0)), (3, .ref (o)), (4, .int (zI (ix)))]) S dL_law_685 hl (by decide) rfl (fun ls hl => ?_)
  refine z_goto S 985 dL_law_687 (by decide) ?_
  refine W.widen (k := cells + 1000) (n := slots + 10000) (by omega) (by omega) ?_
  exact kk _ _ _ _ _ _ _ _ _ _ hS I (rfl) (rfl) (lv_sub hl [2, 3, 4, 5, 6] rfl)
set_option maxHeartbeats 4000000 in
set_option maxRecDepth 100000 in
theorem lw_picture_1 (Z : zLaw p9 l s m9 cd ar G b0 L xs) (hS : va_S (fun q => s.heap.size ≤ q) s.heap H []) (I : zInv G σ a σ b th m1 m2 o n0 sv H) (hl : lv_has ls 9 [(0, .ref (b0)), (1, .ref (a 0)), (2, .ref (b 0)), (3, .ref (o)), (4, .int (zI (ix)))]) (hix : 0 ≤ ix ∧ ix + 4 < L) (hcs : cells + 1000 ≤ room_1.cells ∧ slots + 10000 ≤ room_1.slots) (kk : zKK p9 l e9 s m9 ar bw me cd Q G b0 o ix (a 0) (b 0) cells slots) (x : Int) (rx : rg x) (x1 : xs (ix + 1).toNat = zI x) (h1 : ¬ (0 ≤ x ∧ x ≤ 11)) : W p9 l e9 room_1 s m9 ar bw me cd H [] cells slots Q (F0 m9 662 ls []) := by
  obtain ⟨S, hl0, hG, hX, hb, hL, h9⟩ := Z
  have kC : okC σ := I.C.2.2.2.2.2
  have kR : okR σ := I.M.2.2.2.2.2.2.2.2.2
  refine z_aload_n S dL_law_662 hl 1 rfl rfl ?_
  refine z_aload_n S dL_law_663 hl 0 rfl rfl ?_
  refine z_iload S dL_law_664 hl 4 rfl ?_
  refine z_iconst S dL_law_666 ?_
  refine z_iadd S dL_law_667 ?_
  refine z_sld S hX hb hS (i := ix + 1) (by omega) hL x1 dL_law_668 ?_
  refine z_aload_n S dL_law_669 hl 3 rfl rfl ?_
  refine z_callH S hG hS (w_picture_1 l hl0 G σ a o n0 sv x rx h1) (fun _ z => z.elim) okL_picture q3_115 (⟨I.C, I.xp⟩) ⟨rfl, rfl, by decide, by decide⟩ ⟨(by have := hcs.1; omega), (by have := hcs.2; omega)⟩ rfl (Nat.le_of_ble_eq_true rfl) hl.1 rfl dL_law_670 (fun H_1 L_1 hB hz oq hS => ?_)
  refine z_fresh hS (fun hS => ?_)
  have I := I.step0 oq
  refine z_istore (lv' := [(5, .int (zI (1))), (0, .ref (b0)), (1, .ref (a 0)), (2, .ref (b 0)), (3, .ref (o)), (4, .int (zI (ix)))]) S dL_law_673 hl (by decide) rfl (fun ls hl => ?_)
  refine z_aload_n S dL_law_675 hl 3 rfl rfl ?_
  refine z_aload_n S dL_law_676 hl 1 rfl rfl ?_
  refine z_iload S dL_law_677 hl 5 rfl ?_
  refine z_iconst S dL_law_679 ?_
  refine z_iadd S dL_law_680 ?_
  refine z_sld S hX hb hS (i := ix + 1) (by omega) hL x1 dL_law_681 ?_
  have ht : (1 : Int) = ec (!(decide (0 ≤ x) && decide (x ≤ 11))) (false) := (ec_1 (by first | rfl | (simp only [Bool.not_eq_true', Bool.and_eq_true, Bool.or_eq_true, Bool.and_eq_false_iff, Bool.or_eq_false_iff, Bool.not_eq_false', decide_eq_true_eq, decide_eq_false_iff_not]; omega))).symm
  refine z_callM S hG hS (c_X4_picture l G σ b th m1 m2 I.iM kR x rx kC.2.1 kC.1 kC.2.2.1 1 ht) (zA_m h9 I) ok_X4_picture I.M.1 zc_X4 rfl q5_230 (I.M) ⟨rfl, rfl, by decide, by decide⟩ ⟨(by have := hcs.1; omega), (by have := hcs.2; omega)⟩ rfl (Nat.le_of_ble_eq_true rfl) hl.1 rfl dL_law_682 (fun H_2 L_2 hB hz oq hS => ?_)
  refine z_fresh hS (fun hS => ?_)
  have I := I.stepN (τ' := σ) oq (fun q hq z => z) hB rfl rfl
  refine z_istore (lv' := [(6, .int (_)), (5, .int (zI (1))), (0, .ref (b0)), (1, .ref (a 0)), (2, .ref (b 0)), (3, .ref (o)), (4, .int (zI (ix)))]) S dL_law_685 hl (by decide) rfl (fun ls hl => ?_)
  refine z_goto S 985 dL_law_687 (by decide) ?_
  refine W.widen (k := cells + 1000) (n := slots + 10000) (by omega) (by omega) ?_
  exact kk _ _ _ _ _ _ _ _ _ _ hS I (rfl) (rfl) (lv_sub hl [2, 3, 4, 5, 6] rfl)
theorem q1_144 : (Jvm.Cond.methodLink "CyclepaintLaw" (148 : Nat) ({ cls := "Cyclepaint", name := "period", desc := "()I" } : Jvm.MethodName)) ∈ lw_g := zg_of (zin1 (List.mem_of_getElem? (i := 144) rfl)) rfl
theorem q6_21 : (Jvm.Cond.methodLink "CyclepaintLaw" (151 : Nat) ({ cls := "CyclepaintModel", name := "period", desc := "()I" } : Jvm.MethodName)) ∈ lw_g := zg_of (zin6 (List.mem_of_getElem? (i := 21) rfl)) rfl
set_option maxHeartbeats 4000000 in
set_option maxRecDepth 100000 in
theorem lw_period_0 (Z : zLaw p9 l s m9 cd ar G b0 L xs) (hS : va_S (fun q => s.heap.size ≤ q) s.heap H []) (I : zInv G σ a σ b th m1 m2 o n0 sv H) (hl : lv_has ls 9 [(0, .ref (b0)), (1, .ref (a 0)), (2, .ref (b 0)), (3, .ref (o)), (4, .int (zI (ix)))]) (hix : 0 ≤ ix ∧ ix + 4 < L) (hcs : cells + 1000 ≤ room_1.cells ∧ slots + 10000 ≤ room_1.slots) (kk : zKK p9 l e9 s m9 ar bw me cd Q G b0 o ix (a 0) (b 0) cells slots)   : W p9 l e9 room_1 s m9 ar bw me cd H [] cells slots Q (F0 m9 690 ls []) := by
  obtain ⟨S, hl0, hG, hX, hb, hL, h9⟩ := Z
  have kC : okC σ := I.C.2.2.2.2.2
  have kR : okR σ := I.M.2.2.2.2.2.2.2.2.2
  refine z_aload_n S dL_law_690 hl 1 rfl rfl ?_
  refine z_callVs S hG (c_X2_period l G σ a) ok_X2_period I.C.1 zc_X2 rfl q1_144 I.C ⟨rfl, rfl, by decide, by decide⟩ ⟨(by have := hcs.1; omega), (by have := hcs.2; omega)⟩ rfl (Nat.le_of_ble_eq_true rfl) hl.1 rfl dL_law_691 ?_
  refine lv_pop S.1 S.2.1 dL_law_694 rfl ?_
  refine z_aload_n S dL_law_695 hl 2 rfl rfl ?_
  refine z_callM S hG hS (c_X4_period l G σ b th m1 m2 _ I.iM kC.2.2.2.2.1) (zA_n h9 I hS) ok_X4_period I.M.1 zc_X4 rfl q6_21 (⟨I.M, rfl⟩) ⟨rfl, rfl, by decide, by decide⟩ ⟨(by have := hcs.1; omega), (by have := hcs.2; omega)⟩ rfl (Nat.le_of_ble_eq_true rfl) hl.1 rfl dL_law_696 (fun H_1 L_1 hB hz oq hS => ?_)
  refine z_fresh hS (fun hS => ?_)
  have I := I.stepN (τ' := σ) oq (fun q hq z => z.elim id (fun z => absurd hq (by omega))) hB rfl rfl
  refine lv_pop S.1 S.2.1 dL_law_699 rfl ?_
  refine z_goto S 985 dL_law_700 (by decide) ?_
  refine W.widen (k := cells + 1000) (n := slots + 10000) (by omega) (by omega) ?_
  exact kk _ _ _ _ _ _ _ _ _ _ hS I (rfl) (rfl) (lv_sub hl [0, 1, 2, 3, 4] rfl)
theorem q1_158 : (Jvm.Cond.methodLink "CyclepaintLaw" (155 : Nat) ({ cls := "Cyclepaint", name := "mean", desc := "()D" } : Jvm.MethodName)) ∈ lw_g := zg_of (zin1 (List.mem_of_getElem? (i := 158) rfl)) rfl
theorem q6_86 : (Jvm.Cond.methodLink "CyclepaintLaw" (159 : Nat) ({ cls := "CyclepaintModel", name := "mean", desc := "()D" } : Jvm.MethodName)) ∈ lw_g := zg_of (zin6 (List.mem_of_getElem? (i := 86) rfl)) rfl
set_option maxHeartbeats 4000000 in
set_option maxRecDepth 100000 in
theorem lw_mean_0 (Z : zLaw p9 l s m9 cd ar G b0 L xs) (hS : va_S (fun q => s.heap.size ≤ q) s.heap H []) (I : zInv G σ a σ b th m1 m2 o n0 sv H) (hl : lv_has ls 9 [(0, .ref (b0)), (1, .ref (a 0)), (2, .ref (b 0)), (3, .ref (o)), (4, .int (zI (ix)))]) (hix : 0 ≤ ix ∧ ix + 4 < L) (hcs : cells + 1000 ≤ room_1.cells ∧ slots + 10000 ≤ room_1.slots) (kk : zKK p9 l e9 s m9 ar bw me cd Q G b0 o ix (a 0) (b 0) cells slots)   : W p9 l e9 room_1 s m9 ar bw me cd H [] cells slots Q (F0 m9 731 ls []) := by
  obtain ⟨S, hl0, hG, hX, hb, hL, h9⟩ := Z
  have kC : okC σ := I.C.2.2.2.2.2
  have kR : okR σ := I.M.2.2.2.2.2.2.2.2.2
  refine z_aload_n S dL_law_731 hl 1 rfl rfl ?_
  refine z_callVs S hG (c_X2_mean l G σ a) ok_X2_mean I.C.1 zc_X2 rfl q1_158 I.C ⟨rfl, rfl, by decide, by decide⟩ ⟨(by have := hcs.1; omega), (by have := hcs.2; omega)⟩ rfl (Nat.le_of_ble_eq_true rfl) hl.1 rfl dL_law_732 ?_
  refine lv_dstore (lv' := [(5, .double (_)), (0, .ref (b0)), (1, .ref (a 0)), (2, .ref (b 0)), (3, .ref (o)), (4, .int (zI (ix)))]) S.1 S.2.1 dL_law_735 hl (by decide) rfl (fun ls hl => ?_)
  refine z_aload_n S dL_law_737 hl 3 rfl rfl ?_
  refine z_callM S hG hS (c_X4_mean l G σ b th m1 m2 _ I.iM kC.2.2.2.2.2 kC.2.1 kC.1) (zA_n h9 I hS) ok_X4_mean I.M.1 zc_X4 rfl q6_86 (⟨I.M, rfl⟩) ⟨rfl, rfl, by decide, by decide⟩ ⟨(by have := hcs.1; omega), (by have := hcs.2; omega)⟩ rfl (Nat.le_of_ble_eq_true rfl) hl.1 rfl dL_law_738 (fun H_1 L_1 hB hz oq hS => ?_)
  refine z_fresh hS (fun hS => ?_)
  have I := I.stepN (τ' := σ) oq (fun q hq z => z.elim id (fun z => absurd hq (by omega))) hB rfl rfl
  refine lv_dstore (lv' := [(7, .double (_)), (5, .double (_)), (0, .ref (b0)), (1, .ref (a 0)), (2, .ref (b 0)), (3, .ref (o)), (4, .int (zI (ix)))]) S.1 S.2.1 dL_law_741 hl (by decide) rfl (fun ls hl => ?_)
  refine z_goto S 985 dL_law_743 (by decide) ?_
  refine W.widen (k := cells + 1000) (n := slots + 10000) (by omega) (by omega) ?_
  exact kk _ _ _ _ _ _ _ _ _ _ hS I (rfl) (rfl) (lv_sub hl [2, 3, 4, 5, 6] rfl)
theorem q4_154 : (Jvm.Cond.methodLink "CyclepaintLaw" (160 : Nat) ({ cls := "CyclepaintLaw", name := "at", desc := "(LCyclepaint;IILCyclepaintLaw$Out;)I" } : Jvm.MethodName)) ∈ lw_g := zg_of (zin4 (List.mem_of_getElem? (i := 154) rfl)) rfl
theorem q6_90 : (Jvm.Cond.methodLink "CyclepaintLaw" (162 : Nat) ({ cls := "CyclepaintModel", name := "at", desc := "(II)I" } : Jvm.MethodName)) ∈ lw_g := zg_of (zin6 (List.mem_of_getElem? (i := 90) rfl)) rfl
set_option maxHeartbeats 4000000 in
set_option maxRecDepth 100000 in
theorem lw_at_0 (Z : zLaw p9 l s m9 cd ar G b0 L xs) (hS : va_S (fun q => s.heap.size ≤ q) s.heap H []) (I : zInv G σ a σ b th m1 m2 o n0 sv H) (hl : lv_has ls 9 [(0, .ref (b0)), (1, .ref (a 0)), (2, .ref (b 0)), (3, .ref (o)), (4, .int (zI (ix)))]) (hix : 0 ≤ ix ∧ ix + 4 < L) (hcs : cells + 1000 ≤ room_1.cells ∧ slots + 10000 ≤ room_1.slots) (kk : zKK p9 l e9 s m9 ar bw me cd Q G b0 o ix (a 0) (b 0) cells slots) (e x : Int) (re : rg e) (rx : rg x) (x1 : xs (ix + 1).toNat = zI e) (x2 : xs (ix + 2).toNat = zI x) (he : 0 ≤ e ∧ e ≤ 15) (hx : 0 ≤ x ∧ x ≤ 99999) : W p9 l e9 room_1 s m9 ar bw me cd H [] cells slots Q (F0 m9 746 ls []) := by
  obtain ⟨S, hl0, hG, hX, hb, hL, h9⟩ := Z
  have kC : okC σ := I.C.2.2.2.2.2
  have kR : okR σ := I.M.2.2.2.2.2.2.2.2.2
  refine z_aload_n S dL_law_746 hl 1 rfl rfl ?_
  refine z_aload_n S dL_law_747 hl 0 rfl rfl ?_
  refine z_iload S dL_law_748 hl 4 rfl ?_
  refine z_iconst S dL_law_750 ?_
  refine z_iadd S dL_law_751 ?_
  refine z_sld S hX hb hS (i := ix + 1) (by omega) hL x1 dL_law_752 ?_
  refine z_aload_n S dL_law_753 hl 0 rfl rfl ?_
  refine z_iload S dL_law_754 hl 4 rfl ?_
  refine z_iconst S dL_law_756 ?_
  refine z_iadd S dL_law_757 ?_
  refine z_sld S hX hb hS (i := ix + 2) (by omega) hL x2 dL_law_758 ?_
  refine z_aload_n S dL_law_759 hl 3 rfl rfl ?_
  refine z_callH S hG hS (w_at_0 l hl0 G σ a o n0 sv I.iC I.ao e x he hx) (zA_co h9 I) okL_at q4_154 (⟨I.C, I.O⟩) ⟨rfl, rfl, by decide, by decide⟩ ⟨(by have := hcs.1; omega), (by have := hcs.2; omega)⟩ rfl (Nat.le_of_ble_eq_true rfl) hl.1 rfl dL_law_760 (fun H_1 L_1 hB hz oq hS => ?_)
  refine z_fresh hS (fun hS => ?_)
  have I := I.stepO oq hB rfl
  refine z_istore (lv' := [(5, .int (zI (0))), (0, .ref (b0)), (1, .ref (a 0)), (2, .ref (b 0)), (3, .ref (o)), (4, .int (zI (ix)))]) S dL_law_763 hl (by decide) rfl (fun ls hl => ?_)
  refine z_aload_n S dL_law_765 hl 3 rfl rfl ?_
  refine z_aload_n S dL_law_766 hl 1 rfl rfl ?_
  refine z_iload S dL_law_767 hl 5 rfl ?_
  refine z_iconst S dL_law_769 ?_
  refine z_iadd S dL_law_770 ?_
  refine z_sld S hX hb hS (i := ix + 1) (by omega) hL x1 dL_law_771 ?_
  refine z_aload_n S dL_law_772 hl 1 rfl rfl ?_
  refine z_iload S dL_law_773 hl 5 rfl ?_
  refine z_iconst S dL_law_775 ?_
  refine z_iadd S dL_law_776 ?_
  refine z_sld S hX hb hS (i := ix + 2) (by omega) hL x2 dL_law_777 ?_
  have ht : (0 : Int) = ec (!(decide (0 ≤ e) && decide (e ≤ 15))) (!(decide (0 ≤ x) && decide (x ≤ 99999))) := (ec_0 (by first | rfl | (simp only [Bool.not_eq_true', Bool.and_eq_true, Bool.or_eq_true, Bool.and_eq_false_iff, Bool.or_eq_false_iff, Bool.not_eq_false', decide_eq_true_eq, decide_eq_false_iff_not]; omega)) (by first | rfl | (simp only [Bool.not_eq_true', Bool.and_eq_true, Bool.or_eq_true, Bool.and_eq_false_iff, Bool.or_eq_false_iff, Bool.not_eq_false', decide_eq_true_eq, decide_eq_false_iff_not]; omega))).symm
  refine z_callM S hG hS (c_X4_at l G σ b th m1 m2 I.iM kR e x re rx 0 ht) (zA_m h9 I) ok_X4_at I.M.1 zc_X4 rfl q6_90 (I.M) ⟨rfl, rfl, by decide, by decide⟩ ⟨(by have := hcs.1; omega), (by have := hcs.2; omega)⟩ rfl (Nat.le_of_ble_eq_true rfl) hl.1 rfl dL_law_778 (fun H_2 L_2 hB hz oq hS => ?_)
  refine z_fresh hS (fun hS => ?_)
  have I := I.stepN (τ' := σ) oq (fun q hq z => z) hB rfl rfl
  refine z_istore (lv' := [(6, .int (_)), (5, .int (zI (0))), (0, .ref (b0)), (1, .ref (a 0)), (2, .ref (b 0)), (3, .ref (o)), (4, .int (zI (ix)))]) S dL_law_781 hl (by decide) rfl (fun ls hl => ?_)
  refine z_goto S 985 dL_law_783 (by decide) ?_
  refine W.widen (k := cells + 1000) (n := slots + 10000) (by omega) (by omega) ?_
  exact kk _ _ _ _ _ _ _ _ _ _ hS I (rfl) (rfl) (lv_sub hl [2, 3, 4, 5, 6] rfl)
set_option maxHeartbeats 4000000 in
set_option maxRecDepth 100000 in
theorem lw_at_1 (Z : zLaw p9 l s m9 cd ar G b0 L xs) (hS : va_S (fun q => s.heap.size ≤ q) s.heap H []) (I : zInv G σ a σ b th m1 m2 o n0 sv H) (hl : lv_has ls 9 [(0, .ref (b0)), (1, .ref (a 0)), (2, .ref (b 0)), (3, .ref (o)), (4, .int (zI (ix)))]) (hix : 0 ≤ ix ∧ ix + 4 < L) (hcs : cells + 1000 ≤ room_1.cells ∧ slots + 10000 ≤ room_1.slots) (kk : zKK p9 l e9 s m9 ar bw me cd Q G b0 o ix (a 0) (b 0) cells slots) (e x : Int) (re : rg e) (rx : rg x) (x1 : xs (ix + 1).toNat = zI e) (x2 : xs (ix + 2).toNat = zI x) (h1 : ¬ (0 ≤ e ∧ e ≤ 15)) : W p9 l e9 room_1 s m9 ar bw me cd H [] cells slots Q (F0 m9 746 ls []) := by
  obtain ⟨S, hl0, hG, hX, hb, hL, h9⟩ := Z
  have kC : okC σ := I.C.2.2.2.2.2
  have kR : okR σ := I.M.2.2.2.2.2.2.2.2.2
  refine z_aload_n S dL_law_746 hl 1 rfl rfl ?_
  refine z_aload_n S dL_law_747 hl 0 rfl rfl ?_
  refine z_iload S dL_law_748 hl 4 rfl ?_
  refine z_iconst S dL_law_750 ?_
  refine z_iadd S dL_law_751 ?_
  refine z_sld S hX hb hS (i := ix + 1) (by omega) hL x1 dL_law_752 ?_
  refine z_aload_n S dL_law_753 hl 0 rfl rfl ?_
  refine z_iload S dL_law_754 hl 4 rfl ?_
  refine z_iconst S dL_law_756 ?_
  refine z_iadd S dL_law_757 ?_
  refine z_sld S hX hb hS (i := ix + 2) (by omega) hL x2 dL_law_758 ?_
  refine z_aload_n S dL_law_759 hl 3 rfl rfl ?_
  refine z_callH S hG hS (w_at_1 l hl0 G σ a o n0 sv e x re rx h1) (fun _ z => z.elim) okL_at q4_154 (⟨I.C, I.xp⟩) ⟨rfl, rfl, by decide, by decide⟩ ⟨(by have := hcs.1; omega), (by have := hcs.2; omega)⟩ rfl (Nat.le_of_ble_eq_true rfl) hl.1 rfl dL_law_760 (fun H_1 L_1 hB hz oq hS => ?_)
  refine z_fresh hS (fun hS => ?_)
  have I := I.step0 oq
  refine z_istore (lv' := [(5, .int (zI (1))), (0, .ref (b0)), (1, .ref (a 0)), (2, .ref (b 0)), (3, .ref (o)), (4, .int (zI (ix)))]) S dL_law_763 hl (by decide) rfl (fun ls hl => ?_)
  refine z_aload_n S dL_law_765 hl 3 rfl rfl ?_
  refine z_aload_n S dL_law_766 hl 1 rfl rfl ?_
  refine z_iload S dL_law_767 hl 5 rfl ?_
  refine z_iconst S dL_law_769 ?_
  refine z_iadd S dL_law_770 ?_
  refine z_sld S hX hb hS (i := ix + 1) (by omega) hL x1 dL_law_771 ?_
  refine z_aload_n S dL_law_772 hl 1 rfl rfl ?_
  refine z_iload S dL_law_773 hl 5 rfl ?_
  refine z_iconst S dL_law_775 ?_
  refine z_iadd S dL_law_776 ?_
  refine z_sld S hX hb hS (i := ix + 2) (by omega) hL x2 dL_law_777 ?_
  have ht : (1 : Int) = ec (!(decide (0 ≤ e) && decide (e ≤ 15))) (!(decide (0 ≤ x) && decide (x ≤ 99999))) := (ec_1 (by first | rfl | (simp only [Bool.not_eq_true', Bool.and_eq_true, Bool.or_eq_true, Bool.and_eq_false_iff, Bool.or_eq_false_iff, Bool.not_eq_false', decide_eq_true_eq, decide_eq_false_iff_not]; omega))).symm
  refine z_callM S hG hS (c_X4_at l G σ b th m1 m2 I.iM kR e x re rx 1 ht) (zA_m h9 I) ok_X4_at I.M.1 zc_X4 rfl q6_90 (I.M) ⟨rfl, rfl, by decide, by decide⟩ ⟨(by have := hcs.1; omega), (by have := hcs.2; omega)⟩ rfl (Nat.le_of_ble_eq_true rfl) hl.1 rfl dL_law_778 (fun H_2 L_2 hB hz oq hS => ?_)
  refine z_fresh hS (fun hS => ?_)
  have I := I.stepN (τ' := σ) oq (fun q hq z => z) hB rfl rfl
  refine z_istore (lv' := [(6, .int (_)), (5, .int (zI (1))), (0, .ref (b0)), (1, .ref (a 0)), (2, .ref (b 0)), (3, .ref (o)), (4, .int (zI (ix)))]) S dL_law_781 hl (by decide) rfl (fun ls hl => ?_)
  refine z_goto S 985 dL_law_783 (by decide) ?_
  refine W.widen (k := cells + 1000) (n := slots + 10000) (by omega) (by omega) ?_
  exact kk _ _ _ _ _ _ _ _ _ _ hS I (rfl) (rfl) (lv_sub hl [2, 3, 4, 5, 6] rfl)
set_option maxHeartbeats 4000000 in
set_option maxRecDepth 100000 in
theorem lw_at_2 (Z : zLaw p9 l s m9 cd ar G b0 L xs) (hS : va_S (fun q => s.heap.size ≤ q) s.heap H []) (I : zInv G σ a σ b th m1 m2 o n0 sv H) (hl : lv_has ls 9 [(0, .ref (b0)), (1, .ref (a 0)), (2, .ref (b 0)), (3, .ref (o)), (4, .int (zI (ix)))]) (hix : 0 ≤ ix ∧ ix + 4 < L) (hcs : cells + 1000 ≤ room_1.cells ∧ slots + 10000 ≤ room_1.slots) (kk : zKK p9 l e9 s m9 ar bw me cd Q G b0 o ix (a 0) (b 0) cells slots) (e x : Int) (re : rg e) (rx : rg x) (x1 : xs (ix + 1).toNat = zI e) (x2 : xs (ix + 2).toNat = zI x) (h1 : (0 ≤ e ∧ e ≤ 15)) (h2 : ¬ (0 ≤ x ∧ x ≤ 99999)) : W p9 l e9 room_1 s m9 ar bw me cd H [] cells slots Q (F0 m9 746 ls []) := by
  obtain ⟨S, hl0, hG, hX, hb, hL, h9⟩ := Z
  have kC : okC σ := I.C.2.2.2.2.2
  have kR : okR σ := I.M.2.2.2.2.2.2.2.2.2
  refine z_aload_n S dL_law_746 hl 1 rfl rfl ?_
  refine z_aload_n S dL_law_747 hl 0 rfl rfl ?_
  refine z_iload S dL_law_748 hl 4 rfl ?_
  refine z_iconst S dL_law_750 ?_
  refine z_iadd S dL_law_751 ?_
  refine z_sld S hX hb hS (i := ix + 1) (by omega) hL x1 dL_law_752 ?_
  refine z_aload_n S dL_law_753 hl 0 rfl rfl ?_
  refine z_iload S dL_law_754 hl 4 rfl ?_
  refine z_iconst S dL_law_756 ?_
  refine z_iadd S dL_law_757 ?_
  refine z_sld S hX hb hS (i := ix + 2) (by omega) hL x2 dL_law_758 ?_
  refine z_aload_n S dL_law_759 hl 3 rfl rfl ?_
  refine z_callH S hG hS (w_at_2 l hl0 G σ a o n0 sv e x re rx h1 h2) (fun _ z => z.elim) okL_at q4_154 (⟨I.C, I.xp⟩) ⟨rfl, rfl, by decide, by decide⟩ ⟨(by have := hcs.1; omega), (by have := hcs.2; omega)⟩ rfl (Nat.le_of_ble_eq_true rfl) hl.1 rfl dL_law_760 (fun H_1 L_1 hB hz oq hS => ?_)
  refine z_fresh hS (fun hS => ?_)
  have I := I.step0 oq
  refine z_istore (lv' := [(5, .int (zI (2))), (0, .ref (b0)), (1, .ref (a 0)), (2, .ref (b 0)), (3, .ref (o)), (4, .int (zI (ix)))]) S dL_law_763 hl (by decide) rfl (fun ls hl => ?_)
  refine z_aload_n S dL_law_765 hl 3 rfl rfl ?_
  refine z_aload_n S dL_law_766 hl 1 rfl rfl ?_
  refine z_iload S dL_law_767 hl 5 rfl ?_
  refine z_iconst S dL_law_769 ?_
  refine z_iadd S dL_law_770 ?_
  refine z_sld S hX hb hS (i := ix + 1) (by omega) hL x1 dL_law_771 ?_
  refine z_aload_n S dL_law_772 hl 1 rfl rfl ?_
  refine z_iload S dL_law_773 hl 5 rfl ?_
  refine z_iconst S dL_law_775 ?_
  refine z_iadd S dL_law_776 ?_
  refine z_sld S hX hb hS (i := ix + 2) (by omega) hL x2 dL_law_777 ?_
  have ht : (2 : Int) = ec (!(decide (0 ≤ e) && decide (e ≤ 15))) (!(decide (0 ≤ x) && decide (x ≤ 99999))) := (ec_2 (by first | rfl | (simp only [Bool.not_eq_true', Bool.and_eq_true, Bool.or_eq_true, Bool.and_eq_false_iff, Bool.or_eq_false_iff, Bool.not_eq_false', decide_eq_true_eq, decide_eq_false_iff_not]; omega)) (by first | rfl | (simp only [Bool.not_eq_true', Bool.and_eq_true, Bool.or_eq_true, Bool.and_eq_false_iff, Bool.or_eq_false_iff, Bool.not_eq_false', decide_eq_true_eq, decide_eq_false_iff_not]; omega))).symm
  refine z_callM S hG hS (c_X4_at l G σ b th m1 m2 I.iM kR e x re rx 2 ht) (zA_m h9 I) ok_X4_at I.M.1 zc_X4 rfl q6_90 (I.M) ⟨rfl, rfl, by decide, by decide⟩ ⟨(by have := hcs.1; omega), (by have := hcs.2; omega)⟩ rfl (Nat.le_of_ble_eq_true rfl) hl.1 rfl dL_law_778 (fun H_2 L_2 hB hz oq hS => ?_)
  refine z_fresh hS (fun hS => ?_)
  have I := I.stepN (τ' := σ) oq (fun q hq z => z) hB rfl rfl
  refine z_istore (lv' := [(6, .int (_)), (5, .int (zI (2))), (0, .ref (b0)), (1, .ref (a 0)), (2, .ref (b 0)), (3, .ref (o)), (4, .int (zI (ix)))]) S dL_law_781 hl (by decide) rfl (fun ls hl => ?_)
  refine z_goto S 985 dL_law_783 (by decide) ?_
  refine W.widen (k := cells + 1000) (n := slots + 10000) (by omega) (by omega) ?_
  exact kk _ _ _ _ _ _ _ _ _ _ hS I (rfl) (rfl) (lv_sub hl [2, 3, 4, 5, 6] rfl)
theorem q4_161 : (Jvm.Cond.methodLink "CyclepaintLaw" (163 : Nat) ({ cls := "CyclepaintLaw", name := "find", desc := "(LCyclepaint;IIILCyclepaintLaw$Out;)I" } : Jvm.MethodName)) ∈ lw_g := zg_of (zin4 (List.mem_of_getElem? (i := 161) rfl)) rfl
theorem q6_94 : (Jvm.Cond.methodLink "CyclepaintLaw" (165 : Nat) ({ cls := "CyclepaintModel", name := "find", desc := "(III)I" } : Jvm.MethodName)) ∈ lw_g := zg_of (zin6 (List.mem_of_getElem? (i := 94) rfl)) rfl
set_option maxHeartbeats 4000000 in
set_option maxRecDepth 100000 in
theorem lw_find_0 (Z : zLaw p9 l s m9 cd ar G b0 L xs) (hS : va_S (fun q => s.heap.size ≤ q) s.heap H []) (I : zInv G σ a σ b th m1 m2 o n0 sv H) (hl : lv_has ls 9 [(0, .ref (b0)), (1, .ref (a 0)), (2, .ref (b 0)), (3, .ref (o)), (4, .int (zI (ix)))]) (hix : 0 ≤ ix ∧ ix + 4 < L) (hcs : cells + 1000 ≤ room_1.cells ∧ slots + 10000 ≤ room_1.slots) (kk : zKK p9 l e9 s m9 ar bw me cd Q G b0 o ix (a 0) (b 0) cells slots) (e x f : Int) (re : rg e) (rx : rg x) (rf : rg f) (x1 : xs (ix + 1).toNat = zI e) (x2 : xs (ix + 2).toNat = zI x) (x3 : xs (ix + 3).toNat = zI f) (he : 0 ≤ e ∧ e ≤ 15) (hx : 0 ≤ x ∧ x ≤ 63) (hf : 0 ≤ f ∧ f ≤ 99999) : W p9 l e9 room_1 s m9 ar bw me cd H [] cells slots Q (F0 m9 786 ls []) := by
  obtain ⟨S, hl0, hG, hX, hb, hL, h9⟩ := Z
  have kC : okC σ := I.C.2.2.2.2.2
  have kR : okR σ := I.M.2.2.2.2.2.2.2.2.2
  refine z_aload_n S dL_law_786 hl 1 rfl rfl ?_
  refine z_aload_n S dL_law_787 hl 0 rfl rfl ?_
  refine z_iload S dL_law_788 hl 4 rfl ?_
  refine z_iconst S dL_law_790 ?_
  refine z_iadd S dL_law_791 ?_
  refine z_sld S hX hb hS (i := ix + 1) (by omega) hL x1 dL_law_792 ?_
  refine z_aload_n S dL_law_793 hl 0 rfl rfl ?_
  refine z_iload S dL_law_794 hl 4 rfl ?_
  refine z_iconst S dL_law_796 ?_
  refine z_iadd S dL_law_797 ?_
  refine z_sld S hX hb hS (i := ix + 2) (by omega) hL x2 dL_law_798 ?_
  refine z_aload_n S dL_law_799 hl 0 rfl rfl ?_
  refine z_iload S dL_law_800 hl 4 rfl ?_
  refine z_iconst S dL_law_802 ?_
  refine z_iadd S dL_law_803 ?_
  refine z_sld S hX hb hS (i := ix + 3) (by omega) hL x3 dL_law_804 ?_
  refine z_aload_n S dL_law_805 hl 3 rfl rfl ?_
  refine z_callH S hG hS (w_find_0 l hl0 G σ a o n0 sv I.iC I.ao e x f he hx hf) (zA_co h9 I) okL_find q4_161 (⟨I.C, I.O⟩) ⟨rfl, rfl, by decide, by decide⟩ ⟨(by have := hcs.1; omega), (by have := hcs.2; omega)⟩ rfl (Nat.le_of_ble_eq_true rfl) hl.1 rfl dL_law_806 (fun H_1 L_1 hB hz oq hS => ?_)
  refine z_fresh hS (fun hS => ?_)
  have I := I.stepO oq hB rfl
  refine z_istore (lv' := [(5, .int (zI (0))), (0, .ref (b0)), (1, .ref (a 0)), (2, .ref (b 0)), (3, .ref (o)), (4, .int (zI (ix)))]) S dL_law_809 hl (by decide) rfl (fun ls hl => ?_)
  refine z_aload_n S dL_law_811 hl 3 rfl rfl ?_
  refine z_aload_n S dL_law_812 hl 1 rfl rfl ?_
  refine z_iload S dL_law_813 hl 5 rfl ?_
  refine z_iconst S dL_law_815 ?_
  refine z_iadd S dL_law_816 ?_
  refine z_sld S hX hb hS (i := ix + 1) (by omega) hL x1 dL_law_817 ?_
  refine z_aload_n S dL_law_818 hl 1 rfl rfl ?_
  refine z_iload S dL_law_819 hl 5 rfl ?_
  refine z_iconst S dL_law_821 ?_
  refine z_iadd S dL_law_822 ?_
  refine z_sld S hX hb hS (i := ix + 2) (by omega) hL x2 dL_law_823 ?_
  refine z_aload_n S dL_law_824 hl 1 rfl rfl ?_
  refine z_iload S dL_law_825 hl 5 rfl ?_
  refine z_iconst S dL_law_827 ?_
  refine z_iadd S dL_law_828 ?_
  refine z_sld S hX hb hS (i := ix + 3) (by omega) hL x3 dL_law_829 ?_
  have ht : (0 : Int) = ec (!(decide (0 ≤ e) && decide (e ≤ 15))) (!(decide (0 ≤ x) && decide (x ≤ 63)) || !(decide (0 ≤ f) && decide (f ≤ 99999))) := (ec_0 (by first | rfl | (simp only [Bool.not_eq_true', Bool.and_eq_true, Bool.or_eq_true, Bool.and_eq_false_iff, Bool.or_eq_false_iff, Bool.not_eq_false', decide_eq_true_eq, decide_eq_false_iff_not]; omega)) (by first | rfl | (simp only [Bool.not_eq_true', Bool.and_eq_true, Bool.or_eq_true, Bool.and_eq_false_iff, Bool.or_eq_false_iff, Bool.not_eq_false', decide_eq_true_eq, decide_eq_false_iff_not]; omega))).symm
  refine z_callM S hG hS (c_X4_find l G σ b th m1 m2 I.iM kR e x f re rx rf 0 ht) (zA_m h9 I) ok_X4_find I.M.1 zc_X4 rfl q6_94 (I.M) ⟨rfl, rfl, by decide, by decide⟩ ⟨(by have := hcs.1; omega), (by have := hcs.2; omega)⟩ rfl (Nat.le_of_ble_eq_true rfl) hl.1 rfl dL_law_830 (fun H_2 L_2 hB hz oq hS => ?_)
  refine z_fresh hS (fun hS => ?_)
  have I := I.stepN (τ' := σ) oq (fun q hq z => z) hB rfl rfl
  refine z_istore (lv' := [(6, .int (_)), (5, .int (zI (0))), (0, .ref (b0)), (1, .ref (a 0)), (2, .ref (b 0)), (3, .ref (o)), (4, .int (zI (ix)))]) S dL_law_833 hl (by decide) rfl (fun ls hl => ?_)
  refine z_goto S 985 dL_law_835 (by decide) ?_
  refine W.widen (k := cells + 1000) (n := slots + 10000) (by omega) (by omega) ?_
  exact kk _ _ _ _ _ _ _ _ _ _ hS I (rfl) (rfl) (lv_sub hl [2, 3, 4, 5, 6] rfl)
set_option maxHeartbeats 4000000 in
set_option maxRecDepth 100000 in
theorem lw_find_1 (Z : zLaw p9 l s m9 cd ar G b0 L xs) (hS : va_S (fun q => s.heap.size ≤ q) s.heap H []) (I : zInv G σ a σ b th m1 m2 o n0 sv H) (hl : lv_has ls 9 [(0, .ref (b0)), (1, .ref (a 0)), (2, .ref (b 0)), (3, .ref (o)), (4, .int (zI (ix)))]) (hix : 0 ≤ ix ∧ ix + 4 < L) (hcs : cells + 1000 ≤ room_1.cells ∧ slots + 10000 ≤ room_1.slots) (kk : zKK p9 l e9 s m9 ar bw me cd Q G b0 o ix (a 0) (b 0) cells slots) (e x f : Int) (re : rg e) (rx : rg x) (rf : rg f) (x1 : xs (ix + 1).toNat = zI e) (x2 : xs (ix + 2).toNat = zI x) (x3 : xs (ix + 3).toNat = zI f) (h1 : ¬ (0 ≤ e ∧ e ≤ 15)) : W p9 l e9 room_1 s m9 ar bw me cd H [] cells slots Q (F0 m9 786 ls []) := by
  obtain ⟨S, hl0, hG, hX, hb, hL, h9⟩ := Z
  have kC : okC σ := I.C.2.2.2.2.2
  have kR : okR σ := I.M.2.2.2.2.2.2.2.2.2
  refine z_aload_n S dL_law_786 hl 1 rfl rfl ?_
  refine z_aload_n S dL_law_787 hl 0 rfl rfl ?_
  refine z_iload S dL_law_788 hl 4 rfl ?_
  refine z_iconst S dL_law_790 ?_
  refine z_iadd S dL_law_791 ?_
  refine z_sld S hX hb hS (i := ix + 1) (by omega) hL x1 dL_law_792 ?_
  refine z_aload_n S dL_law_793 hl 0 rfl rfl ?_
  refine z_iload S dL_law_794 hl 4 rfl ?_
  refine z_iconst S dL_law_796 ?_
  refine z_iadd S dL_law_797 ?_
  refine z_sld S hX hb hS (i := ix + 2) (by omega) hL x2 dL_law_798 ?_
  refine z_aload_n S dL_law_799 hl 0 rfl rfl ?_
  refine z_iload S dL_law_800 hl 4 rfl ?_
  refine z_iconst S dL_law_802 ?_
  refine z_iadd S dL_law_803 ?_
  refine z_sld S hX hb hS (i := ix + 3) (by omega) hL x3 dL_law_804 ?_
  refine z_aload_n S dL_law_805 hl 3 rfl rfl ?_
  refine z_callH S hG hS (w_find_1 l hl0 G σ a o n0 sv e x f re rx rf h1) (fun _ z => z.elim) okL_find q4_161 (⟨I.C, I.xp⟩) ⟨rfl, rfl, by decide, by decide⟩ ⟨(by have := hcs.1; omega), (by have := hcs.2; omega)⟩ rfl (Nat.le_of_ble_eq_true rfl) hl.1 rfl dL_law_806 (fun H_1 L_1 hB hz oq hS => ?_)
  refine z_fresh hS (fun hS => ?_)
  have I := I.step0 oq
  refine z_istore (lv' := [(5, .int (zI (1))), (0, .ref (b0)), (1, .ref (a 0)), (2, .ref (b 0)), (3, .ref (o)), (4, .int (zI (ix)))]) S dL_law_809 hl (by decide) rfl (fun ls hl => ?_)
  refine z_aload_n S dL_law_811 hl 3 rfl rfl ?_
  refine z_aload_n S dL_law_812 hl 1 rfl rfl ?_
  refine z_iload S dL_law_813 hl 5 rfl ?_
  refine z_iconst S dL_law_815 ?_
  refine z_iadd S dL_law_816 ?_
  refine z_sld S hX hb hS (i := ix + 1) (by omega) hL x1 dL_law_817 ?_
  refine z_aload_n S dL_law_818 hl 1 rfl rfl ?_
  refine z_iload S dL_law_819 hl 5 rfl ?_
  refine z_iconst S dL_law_821 ?_
  refine z_iadd S dL_law_822 ?_
  refine z_sld S hX hb hS (i := ix + 2) (by omega) hL x2 dL_law_823 ?_
  refine z_aload_n S dL_law_824 hl 1 rfl rfl ?_
  refine z_iload S dL_law_825 hl 5 rfl ?_
  refine z_iconst S dL_law_827 ?_
  refine z_iadd S dL_law_828 ?_
  refine z_sld S hX hb hS (i := ix + 3) (by omega) hL x3 dL_law_829 ?_
  have ht : (1 : Int) = ec (!(decide (0 ≤ e) && decide (e ≤ 15))) (!(decide (0 ≤ x) && decide (x ≤ 63)) || !(decide (0 ≤ f) && decide (f ≤ 99999))) := (ec_1 (by first | rfl | (simp only [Bool.not_eq_true', Bool.and_eq_true, Bool.or_eq_true, Bool.and_eq_false_iff, Bool.or_eq_false_iff, Bool.not_eq_false', decide_eq_true_eq, decide_eq_false_iff_not]; omega))).symm
  refine z_callM S hG hS (c_X4_find l G σ b th m1 m2 I.iM kR e x f re rx rf 1 ht) (zA_m h9 I) ok_X4_find I.M.1 zc_X4 rfl q6_94 (I.M) ⟨rfl, rfl, by decide, by decide⟩ ⟨(by have := hcs.1; omega), (by have := hcs.2; omega)⟩ rfl (Nat.le_of_ble_eq_true rfl) hl.1 rfl dL_law_830 (fun H_2 L_2 hB hz oq hS => ?_)
  refine z_fresh hS (fun hS => ?_)
  have I := I.stepN (τ' := σ) oq (fun q hq z => z) hB rfl rfl
  refine z_istore (lv' := [(6, .int (_)), (5, .int (zI (1))), (0, .ref (b0)), (1, .ref (a 0)), (2, .ref (b 0)), (3, .ref (o)), (4, .int (zI (ix)))]) S dL_law_833 hl (by decide) rfl (fun ls hl => ?_)
  refine z_goto S 985 dL_law_835 (by decide) ?_
  refine W.widen (k := cells + 1000) (n := slots + 10000) (by omega) (by omega) ?_
  exact kk _ _ _ _ _ _ _ _ _ _ hS I (rfl) (rfl) (lv_sub hl [2, 3, 4, 5, 6] rfl)
set_option maxHeartbeats 4000000 in
set_option maxRecDepth 100000 in
theorem lw_find_2 (Z : zLaw p9 l s m9 cd ar G b0 L xs) (hS : va_S (fun q => s.heap.size ≤ q) s.heap H []) (I : zInv G σ a σ b th m1 m2 o n0 sv H) (hl : lv_has ls 9 [(0, .ref (b0)), (1, .ref (a 0)), (2, .ref (b 0)), (3, .ref (o)), (4, .int (zI (ix)))]) (hix : 0 ≤ ix ∧ ix + 4 < L) (hcs : cells + 1000 ≤ room_1.cells ∧ slots + 10000 ≤ room_1.slots) (kk : zKK p9 l e9 s m9 ar bw me cd Q G b0 o ix (a 0) (b 0) cells slots) (e x f : Int) (re : rg e) (rx : rg x) (rf : rg f) (x1 : xs (ix + 1).toNat = zI e) (x2 : xs (ix + 2).toNat = zI x) (x3 : xs (ix + 3).toNat = zI f) (h1 : (0 ≤ e ∧ e ≤ 15)) (h2 : ¬ ((0 ≤ x ∧ x ≤ 63) ∧ (0 ≤ f ∧ f ≤ 99999))) : W p9 l e9 room_1 s m9 ar bw me cd H [] cells slots Q (F0 m9 786 ls []) := by
  obtain ⟨S, hl0, hG, hX, hb, hL, h9⟩ := Z
  have kC : okC σ := I.C.2.2.2.2.2
  have kR : okR σ := I.M.2.2.2.2.2.2.2.2.2
  refine z_aload_n S dL_law_786 hl 1 rfl rfl ?_
  refine z_aload_n S dL_law_787 hl 0 rfl rfl ?_
  refine z_iload S dL_law_788 hl 4 rfl ?_
  refine z_iconst S dL_law_790 ?_
  refine z_iadd S dL_law_791 ?_
  refine z_sld S hX hb hS (i := ix + 1) (by omega) hL x1 dL_law_792 ?_
  refine z_aload_n S dL_law_793 hl 0 rfl rfl ?_
  refine z_iload S dL_law_794 hl 4 rfl ?_
  refine z_iconst S dL_law_796 ?_
  refine z_iadd S dL_law_797 ?_
  refine z_sld S hX hb hS (i := ix + 2) (by omega) hL x2 dL_law_798 ?_
  refine z_aload_n S dL_law_799 hl 0 rfl rfl ?_
  refine z_iload S dL_law_800 hl 4 rfl ?_
  refine z_iconst S dL_law_802 ?_
  refine z_iadd S dL_law_803 ?_
  refine z_sld S hX hb hS (i := ix + 3) (by omega) hL x3 dL_law_804 ?_
  refine z_aload_n S dL_law_805 hl 3 rfl rfl ?_
  refine z_callH S hG hS (w_find_2 l hl0 G σ a o n0 sv e x f re rx rf h1 h2) (fun _ z => z.elim) okL_find q4_161 (⟨I.C, I.xp⟩) ⟨rfl, rfl, by decide, by decide⟩ ⟨(by have := hcs.1; omega), (by have := hcs.2; omega)⟩ rfl (Nat.le_of_ble_eq_true rfl) hl.1 rfl dL_law_806 (fun H_1 L_1 hB hz oq hS => ?_)
  refine z_fresh hS (fun hS => ?_)
  have I := I.step0 oq
  refine z_istore (lv' := [(5, .int (zI (2))), (0, .ref (b0)), (1, .ref (a 0)), (2, .ref (b 0)), (3, .ref (o)), (4, .int (zI (ix)))]) S dL_law_809 hl (by decide) rfl (fun ls hl => ?_)
  refine z_aload_n S dL_law_811 hl 3 rfl rfl ?_
  refine z_aload_n S dL_law_812 hl 1 rfl rfl ?_
  refine z_iload S dL_law_813 hl 5 rfl ?_
  refine z_iconst S dL_law_815 ?_
  refine z_iadd S dL_law_816 ?_
  refine z_sld S hX hb hS (i := ix + 1) (by omega) hL x1 dL_law_817 ?_
  refine z_aload_n S dL_law_818 hl 1 rfl rfl ?_
  refine z_iload S dL_law_819 hl 5 rfl ?_
  refine z_iconst S dL_law_821 ?_
  refine z_iadd S dL_law_822 ?_
  refine z_sld S hX hb hS (i := ix + 2) (by omega) hL x2 dL_law_823 ?_
  refine z_aload_n S dL_law_824 hl 1 rfl rfl ?_
  refine z_iload S dL_law_825 hl 5 rfl ?_
  refine z_iconst S dL_law_827 ?_
  refine z_iadd S dL_law_828 ?_
  refine z_sld S hX hb hS (i := ix + 3) (by omega) hL x3 dL_law_829 ?_
  have ht : (2 : Int) = ec (!(decide (0 ≤ e) && decide (e ≤ 15))) (!(decide (0 ≤ x) && decide (x ≤ 63)) || !(decide (0 ≤ f) && decide (f ≤ 99999))) := (ec_2 (by first | rfl | (simp only [Bool.not_eq_true', Bool.and_eq_true, Bool.or_eq_true, Bool.and_eq_false_iff, Bool.or_eq_false_iff, Bool.not_eq_false', decide_eq_true_eq, decide_eq_false_iff_not]; omega)) (by first | rfl | (simp only [Bool.not_eq_true', Bool.and_eq_true, Bool.or_eq_true, Bool.and_eq_false_iff, Bool.or_eq_false_iff, Bool.not_eq_false', decide_eq_true_eq, decide_eq_false_iff_not]; omega))).symm
  refine z_callM S hG hS (c_X4_find l G σ b th m1 m2 I.iM kR e x f re rx rf 2 ht) (zA_m h9 I) ok_X4_find I.M.1 zc_X4 rfl q6_94 (I.M) ⟨rfl, rfl, by decide, by decide⟩ ⟨(by have := hcs.1; omega), (by have := hcs.2; omega)⟩ rfl (Nat.le_of_ble_eq_true rfl) hl.1 rfl dL_law_830 (fun H_2 L_2 hB hz oq hS => ?_)
  refine z_fresh hS (fun hS => ?_)
  have I := I.stepN (τ' := σ) oq (fun q hq z => z) hB rfl rfl
  refine z_istore (lv' := [(6, .int (_)), (5, .int (zI (2))), (0, .ref (b0)), (1, .ref (a 0)), (2, .ref (b 0)), (3, .ref (o)), (4, .int (zI (ix)))]) S dL_law_833 hl (by decide) rfl (fun ls hl => ?_)
  refine z_goto S 985 dL_law_835 (by decide) ?_
  refine W.widen (k := cells + 1000) (n := slots + 10000) (by omega) (by omega) ?_
  exact kk _ _ _ _ _ _ _ _ _ _ hS I (rfl) (rfl) (lv_sub hl [2, 3, 4, 5, 6] rfl)
theorem q4_169 : (Jvm.Cond.methodLink "CyclepaintLaw" (166 : Nat) ({ cls := "CyclepaintLaw", name := "meet", desc := "(LCyclepaint;IIIILCyclepaintLaw$Out;)I" } : Jvm.MethodName)) ∈ lw_g := zg_of (zin4 (List.mem_of_getElem? (i := 169) rfl)) rfl
theorem q6_102 : (Jvm.Cond.methodLink "CyclepaintLaw" (168 : Nat) ({ cls := "CyclepaintModel", name := "meet", desc := "(IIII)I" } : Jvm.MethodName)) ∈ lw_g := zg_of (zin6 (List.mem_of_getElem? (i := 102) rfl)) rfl
set_option maxHeartbeats 4000000 in
set_option maxRecDepth 100000 in
theorem lw_meet_0 (Z : zLaw p9 l s m9 cd ar G b0 L xs) (hS : va_S (fun q => s.heap.size ≤ q) s.heap H []) (I : zInv G σ a σ b th m1 m2 o n0 sv H) (hl : lv_has ls 9 [(0, .ref (b0)), (1, .ref (a 0)), (2, .ref (b 0)), (3, .ref (o)), (4, .int (zI (ix)))]) (hix : 0 ≤ ix ∧ ix + 4 < L) (hcs : cells + 1000 ≤ room_1.cells ∧ slots + 10000 ≤ room_1.slots) (kk : zKK p9 l e9 s m9 ar bw me cd Q G b0 o ix (a 0) (b 0) cells slots) (e x f y : Int) (re : rg e) (rx : rg x) (rf : rg f) (ry : rg y) (x1 : xs (ix + 1).toNat = zI e) (x2 : xs (ix + 2).toNat = zI x) (x3 : xs (ix + 3).toNat = zI f) (x4 : xs (ix + 4).toNat = zI y) (he : 0 ≤ e ∧ e ≤ 15) (hx : 0 ≤ x ∧ x ≤ 63) (hf : 0 ≤ f ∧ f ≤ 15) (hy : 0 ≤ y ∧ y ≤ 63) : W p9 l e9 room_1 s m9 ar bw me cd H [] cells slots Q (F0 m9 838 ls []) := by
  obtain ⟨S, hl0, hG, hX, hb, hL, h9⟩ := Z
  have kC : okC σ := I.C.2.2.2.2.2
  have kR : okR σ := I.M.2.2.2.2.2.2.2.2.2
  refine z_aload_n S dL_law_838 hl 1 rfl rfl ?_
  refine z_aload_n S dL_law_839 hl 0 rfl rfl ?_
  refine z_iload S dL_law_840 hl 4 rfl ?_
  refine z_iconst S dL_law_842 ?_
  refine z_iadd S dL_law_843 ?_
  refine z_sld S hX hb hS (i := ix + 1) (by omega) hL x1 dL_law_844 ?_
  refine z_aload_n S dL_law_845 hl 0 rfl rfl ?_
  refine z_iload S dL_law_846 hl 4 rfl ?_
  refine z_iconst S dL_law_848 ?_
  refine z_iadd S dL_law_849 ?_
  refine z_sld S hX hb hS (i := ix + 2) (by omega) hL x2 dL_law_850 ?_
  refine z_aload_n S dL_law_851 hl 0 rfl rfl ?_
  refine z_iload S dL_law_852 hl 4 rfl ?_
  refine z_iconst S dL_law_854 ?_
  refine z_iadd S dL_law_855 ?_
  refine z_sld S hX hb hS (i := ix + 3) (by omega) hL x3 dL_law_856 ?_
  refine z_aload_n S dL_law_857 hl 0 rfl rfl ?_
  refine z_iload S dL_law_858 hl 4 rfl ?_
  refine z_iconst S dL_law_860 ?_
  refine z_iadd S dL_law_861 ?_
  refine z_sld S hX hb hS (i := ix + 4) (by omega) hL x4 dL_law_862 ?_
  refine z_aload_n S dL_law_863 hl 3 rfl rfl ?_
  refine z_callH S hG hS (w_meet_0 l hl0 G σ a o n0 sv I.iC I.ao e x f y he hx hf hy) (zA_co h9 I) okL_meet q4_169 (⟨I.C, I.O⟩) ⟨rfl, rfl, by decide, by decide⟩ ⟨(by have := hcs.1; omega), (by have := hcs.2; omega)⟩ rfl (Nat.le_of_ble_eq_true rfl) hl.1 rfl dL_law_864 (fun H_1 L_1 hB hz oq hS => ?_)
  refine z_fresh hS (fun hS => ?_)
  have I := I.stepO oq hB rfl
  refine z_istore (lv' := [(5, .int (zI (0))), (0, .ref (b0)), (1, .ref (a 0)), (2, .ref (b 0)), (3, .ref (o)), (4, .int (zI (ix)))]) S dL_law_867 hl (by decide) rfl (fun ls hl => ?_)
  refine z_aload_n S dL_law_869 hl 3 rfl rfl ?_
  refine z_aload_n S dL_law_870 hl 1 rfl rfl ?_
  refine z_iload S dL_law_871 hl 5 rfl ?_
  refine z_iconst S dL_law_873 ?_
  refine z_iadd S dL_law_874 ?_
  refine z_sld S hX hb hS (i := ix + 1) (by omega) hL x1 dL_law_875 ?_
  refine z_aload_n S dL_law_876 hl 1 rfl rfl ?_
  refine z_iload S dL_law_877 hl 5 rfl ?_
  refine z_iconst S dL_law_879 ?_
  refine z_iadd S dL_law_880 ?_
  refine z_sld S hX hb hS (i := ix + 2) (by omega) hL x2 dL_law_881 ?_
  refine z_aload_n S dL_law_882 hl 1 rfl rfl ?_
  refine z_iload S dL_law_883 hl 5 rfl ?_
  refine z_iconst S dL_law_885 ?_
  refine z_iadd S dL_law_886 ?_
  refine z_sld S hX hb hS (i := ix + 3) (by omega) hL x3 dL_law_887 ?_
  refine z_aload_n S dL_law_888 hl 1 rfl rfl ?_
  refine z_iload S dL_law_889 hl 5 rfl ?_
  refine z_iconst S dL_law_891 ?_
  refine z_iadd S dL_law_892 ?_
  refine z_sld S hX hb hS (i := ix + 4) (by omega) hL x4 dL_law_893 ?_
  have ht : (0 : Int) = ec (!(decide (0 ≤ e) && decide (e ≤ 15)) || !(decide (0 ≤ f) && decide (f ≤ 15))) (!(decide (0 ≤ x) && decide (x ≤ 63)) || !(decide (0 ≤ y) && decide (y ≤ 63))) := (ec_0 (by first | rfl | (simp only [Bool.not_eq_true', Bool.and_eq_true, Bool.or_eq_true, Bool.and_eq_false_iff, Bool.or_eq_false_iff, Bool.not_eq_false', decide_eq_true_eq, decide_eq_false_iff_not]; omega)) (by first | rfl | (simp only [Bool.not_eq_true', Bool.and_eq_true, Bool.or_eq_true, Bool.and_eq_false_iff, Bool.or_eq_false_iff, Bool.not_eq_false', decide_eq_true_eq, decide_eq_false_iff_not]; omega))).symm
  refine z_callM S hG hS (c_X4_meet l G σ b th m1 m2 I.iM kR e x f y re rx rf ry kC.1 0 ht) (zA_m h9 I) ok_X4_meet I.M.1 zc_X4 rfl q6_102 (I.M) ⟨rfl, rfl, by decide, by decide⟩ ⟨(by have := hcs.1; omega), (by have := hcs.2; omega)⟩ rfl (Nat.le_of_ble_eq_true rfl) hl.1 rfl dL_law_894 (fun H_2 L_2 hB hz oq hS => ?_)
  refine z_fresh hS (fun hS => ?_)
  have I := I.stepN (τ' := σ) oq (fun q hq z => z) hB rfl rfl
  refine z_istore (lv' := [(6, .int (_)), (5, .int (zI (0))), (0, .ref (b0)), (1, .ref (a 0)), (2, .ref (b 0)), (3, .ref (o)), (4, .int (zI (ix)))]) S dL_law_897 hl (by decide) rfl (fun ls hl => ?_)
  refine z_goto S 985 dL_law_899 (by decide) ?_
  refine W.widen (k := cells + 1000) (n := slots + 10000) (by omega) (by omega) ?_
  exact kk _ _ _ _ _ _ _ _ _ _ hS I (rfl) (rfl) (lv_sub hl [2, 3, 4, 5, 6] rfl)
set_option maxHeartbeats 4000000 in
set_option maxRecDepth 100000 in
theorem lw_meet_1 (Z : zLaw p9 l s m9 cd ar G b0 L xs) (hS : va_S (fun q => s.heap.size ≤ q) s.heap H []) (I : zInv G σ a σ b th m1 m2 o n0 sv H) (hl : lv_has ls 9 [(0, .ref (b0)), (1, .ref (a 0)), (2, .ref (b 0)), (3, .ref (o)), (4, .int (zI (ix)))]) (hix : 0 ≤ ix ∧ ix + 4 < L) (hcs : cells + 1000 ≤ room_1.cells ∧ slots + 10000 ≤ room_1.slots) (kk : zKK p9 l e9 s m9 ar bw me cd Q G b0 o ix (a 0) (b 0) cells slots) (e x f y : Int) (re : rg e) (rx : rg x) (rf : rg f) (ry : rg y) (x1 : xs (ix + 1).toNat = zI e) (x2 : xs (ix + 2).toNat = zI x) (x3 : xs (ix + 3).toNat = zI f) (x4 : xs (ix + 4).toNat = zI y) (h1 : ¬ ((0 ≤ e ∧ e ≤ 15) ∧ (0 ≤ f ∧ f ≤ 15))) : W p9 l e9 room_1 s m9 ar bw me cd H [] cells slots Q (F0 m9 838 ls []) := by
  obtain ⟨S, hl0, hG, hX, hb, hL, h9⟩ := Z
  have kC : okC σ := I.C.2.2.2.2.2
  have kR : okR σ := I.M.2.2.2.2.2.2.2.2.2
  refine z_aload_n S dL_law_838 hl 1 rfl rfl ?_
  refine z_aload_n S dL_law_839 hl 0 rfl rfl ?_
  refine z_iload S dL_law_840 hl 4 rfl ?_
  refine z_iconst S dL_law_842 ?_
  refine z_iadd S dL_law_843 ?_
  refine z_sld S hX hb hS (i := ix + 1) (by omega) hL x1 dL_law_844 ?_
  refine z_aload_n S dL_law_845 hl 0 rfl rfl ?_
  refine z_iload S dL_law_846 hl 4 rfl ?_
  refine z_iconst S dL_law_848 ?_
  refine z_iadd S dL_law_849 ?_
  refine z_sld S hX hb hS (i := ix + 2) (by omega) hL x2 dL_law_850 ?_
  refine z_aload_n S dL_law_851 hl 0 rfl rfl ?_
  refine z_iload S dL_law_852 hl 4 rfl ?_
  refine z_iconst S dL_law_854 ?_
  refine z_iadd S dL_law_855 ?_
  refine z_sld S hX hb hS (i := ix + 3) (by omega) hL x3 dL_law_856 ?_
  refine z_aload_n S dL_law_857 hl 0 rfl rfl ?_
  refine z_iload S dL_law_858 hl 4 rfl ?_
  refine z_iconst S dL_law_860 ?_
  refine z_iadd S dL_law_861 ?_
  refine z_sld S hX hb hS (i := ix + 4) (by omega) hL x4 dL_law_862 ?_
  refine z_aload_n S dL_law_863 hl 3 rfl rfl ?_
  refine z_callH S hG hS (w_meet_1 l hl0 G σ a o n0 sv e x f y re rx rf ry h1) (fun _ z => z.elim) okL_meet q4_169 (⟨I.C, I.xp⟩) ⟨rfl, rfl, by decide, by decide⟩ ⟨(by have := hcs.1; omega), (by have := hcs.2; omega)⟩ rfl (Nat.le_of_ble_eq_true rfl) hl.1 rfl dL_law_864 (fun H_1 L_1 hB hz oq hS => ?_)
  refine z_fresh hS (fun hS => ?_)
  have I := I.step0 oq
  refine z_istore (lv' := [(5, .int (zI (1))), (0, .ref (b0)), (1, .ref (a 0)), (2, .ref (b 0)), (3, .ref (o)), (4, .int (zI (ix)))]) S dL_law_867 hl (by decide) rfl (fun ls hl => ?_)
  refine z_aload_n S dL_law_869 hl 3 rfl rfl ?_
  refine z_aload_n S dL_law_870 hl 1 rfl rfl ?_
  refine z_iload S dL_law_871 hl 5 rfl ?_
  refine z_iconst S dL_law_873 ?_
  refine z_iadd S dL_law_874 ?_
  refine z_sld S hX hb hS (i := ix + 1) (by omega) hL x1 dL_law_875 ?_
  refine z_aload_n S dL_law_876 hl 1 rfl rfl ?_
  refine z_iload S dL_law_877 hl 5 rfl ?_
  refine z_iconst S dL_law_879 ?_
  refine z_iadd S dL_law_880 ?_
  refine z_sld S hX hb hS (i := ix + 2) (by omega) hL x2 dL_law_881 ?_
  refine z_aload_n S dL_law_882 hl 1 rfl rfl ?_
  refine z_iload S dL_law_883 hl 5 rfl ?_
  refine z_iconst S dL_law_885 ?_
  refine z_iadd S dL_law_886 ?_
  refine z_sld S hX hb hS (i := ix + 3) (by omega) hL x3 dL_law_887 ?_
  refine z_aload_n S dL_law_888 hl 1 rfl rfl ?_
  refine z_iload S dL_law_889 hl 5 rfl ?_
  refine z_iconst S dL_law_891 ?_
  refine z_iadd S dL_law_892 ?_
  refine z_sld S hX hb hS (i := ix + 4) (by omega) hL x4 dL_law_893 ?_
  have ht : (1 : Int) = ec (!(decide (0 ≤ e) && decide (e ≤ 15)) || !(decide (0 ≤ f) && decide (f ≤ 15))) (!(decide (0 ≤ x) && decide (x ≤ 63)) || !(decide (0 ≤ y) && decide (y ≤ 63))) := (ec_1 (by first | rfl | (simp only [Bool.not_eq_true', Bool.and_eq_true, Bool.or_eq_true, Bool.and_eq_false_iff, Bool.or_eq_false_iff, Bool.not_eq_false', decide_eq_true_eq, decide_eq_false_iff_not]; omega))).symm
  refine z_callM S hG hS (c_X4_meet l G σ b th m1 m2 I.iM kR e x f y re rx rf ry kC.1 1 ht) (zA_m h9 I) ok_X4_meet I.M.1 zc_X4 rfl q6_102 (I.M) ⟨rfl, rfl, by decide, by decide⟩ ⟨(by have := hcs.1; omega), (by have := hcs.2; omega)⟩ rfl (Nat.le_of_ble_eq_true rfl) hl.1 rfl dL_law_894 (fun H_2 L_2 hB hz oq hS => ?_)
  refine z_fresh hS (fun hS => ?_)
  have I := I.stepN (τ' := σ) oq (fun q hq z => z) hB rfl rfl
  refine z_istore (lv' := [(6, .int (_)), (5, .int (zI (1))), (0, .ref (b0)), (1, .ref (a 0)), (2, .ref (b 0)), (3, .ref (o)), (4, .int (zI (ix)))]) S dL_law_897 hl (by decide) rfl (fun ls hl => ?_)
  refine z_goto S 985 dL_law_899 (by decide) ?_
  refine W.widen (k := cells + 1000) (n := slots + 10000) (by omega) (by omega) ?_
  exact kk _ _ _ _ _ _ _ _ _ _ hS I (rfl) (rfl) (lv_sub hl [2, 3, 4, 5, 6] rfl)
set_option maxHeartbeats 4000000 in
set_option maxRecDepth 100000 in
theorem lw_meet_2 (Z : zLaw p9 l s m9 cd ar G b0 L xs) (hS : va_S (fun q => s.heap.size ≤ q) s.heap H []) (I : zInv G σ a σ b th m1 m2 o n0 sv H) (hl : lv_has ls 9 [(0, .ref (b0)), (1, .ref (a 0)), (2, .ref (b 0)), (3, .ref (o)), (4, .int (zI (ix)))]) (hix : 0 ≤ ix ∧ ix + 4 < L) (hcs : cells + 1000 ≤ room_1.cells ∧ slots + 10000 ≤ room_1.slots) (kk : zKK p9 l e9 s m9 ar bw me cd Q G b0 o ix (a 0) (b 0) cells slots) (e x f y : Int) (re : rg e) (rx : rg x) (rf : rg f) (ry : rg y) (x1 : xs (ix + 1).toNat = zI e) (x2 : xs (ix + 2).toNat = zI x) (x3 : xs (ix + 3).toNat = zI f) (x4 : xs (ix + 4).toNat = zI y) (h1 : (0 ≤ e ∧ e ≤ 15) ∧ (0 ≤ f ∧ f ≤ 15)) (h2 : ¬ ((0 ≤ x ∧ x ≤ 63) ∧ (0 ≤ y ∧ y ≤ 63))) : W p9 l e9 room_1 s m9 ar bw me cd H [] cells slots Q (F0 m9 838 ls []) := by
  obtain ⟨S, hl0, hG, hX, hb, hL, h9⟩ := Z
  have kC : okC σ := I.C.2.2.2.2.2
  have kR : okR σ := I.M.2.2.2.2.2.2.2.2.2
  refine z_aload_n S dL_law_838 hl 1 rfl rfl ?_
  refine z_aload_n S dL_law_839 hl 0 rfl rfl ?_
  refine z_iload S dL_law_840 hl 4 rfl ?_
  refine z_iconst S dL_law_842 ?_
  refine z_iadd S dL_law_843 ?_
  refine z_sld S hX hb hS (i := ix + 1) (by omega) hL x1 dL_law_844 ?_
  refine z_aload_n S dL_law_845 hl 0 rfl rfl ?_
  refine z_iload S dL_law_846 hl 4 rfl ?_
  refine z_iconst S dL_law_848 ?_
  refine z_iadd S dL_law_849 ?_
  refine z_sld S hX hb hS (i := ix + 2) (by omega) hL x2 dL_law_850 ?_
  refine z_aload_n S dL_law_851 hl 0 rfl rfl ?_
  refine z_iload S dL_law_852 hl 4 rfl ?_
  refine z_iconst S dL_law_854 ?_
  refine z_iadd S dL_law_855 ?_
  refine z_sld S hX hb hS (i := ix + 3) (by omega) hL x3 dL_law_856 ?_
  refine z_aload_n S dL_law_857 hl 0 rfl rfl ?_
  refine z_iload S dL_law_858 hl 4 rfl ?_
  refine z_iconst S dL_law_860 ?_
  refine z_iadd S dL_law_861 ?_
  refine z_sld S hX hb hS (i := ix + 4) (by omega) hL x4 dL_law_862 ?_
  refine z_aload_n S dL_law_863 hl 3 rfl rfl ?_
  refine z_callH S hG hS (w_meet_2 l hl0 G σ a o n0 sv e x f y re rx rf ry h1 h2) (fun _ z => z.elim) okL_meet q4_169 (⟨I.C, I.xp⟩) ⟨rfl, rfl, by decide, by decide⟩ ⟨(by have := hcs.1; omega), (by have := hcs.2; omega)⟩ rfl (Nat.le_of_ble_eq_true rfl) hl.1 rfl dL_law_864 (fun H_1 L_1 hB hz oq hS => ?_)
  refine z_fresh hS (fun hS => ?_)
  have I := I.step0 oq
  refine z_istore (lv' := [(5, .int (zI (2))), (0, .ref (b0)), (1, .ref (a 0)), (2, .ref (b 0)), (3, .ref (o)), (4, .int (zI (ix)))]) S dL_law_867 hl (by decide) rfl (fun ls hl => ?_)
  refine z_aload_n S dL_law_869 hl 3 rfl rfl ?_
  refine z_aload_n S dL_law_870 hl 1 rfl rfl ?_
  refine z_iload S dL_law_871 hl 5 rfl ?_
  refine z_iconst S dL_law_873 ?_
  refine z_iadd S dL_law_874 ?_
  refine z_sld S hX hb hS (i := ix + 1) (by omega) hL x1 dL_law_875 ?_
  refine z_aload_n S dL_law_876 hl 1 rfl rfl ?_
  refine z_iload S dL_law_877 hl 5 rfl ?_
  refine z_iconst S dL_law_879 ?_
  refine z_iadd S dL_law_880 ?_
  refine z_sld S hX hb hS (i := ix + 2) (by omega) hL x2 dL_law_881 ?_
  refine z_aload_n S dL_law_882 hl 1 rfl rfl ?_
  refine z_iload S dL_law_883 hl 5 rfl ?_
  refine z_iconst S dL_law_885 ?_
  refine z_iadd S dL_law_886 ?_
  refine z_sld S hX hb hS (i := ix + 3) (by omega) hL x3 dL_law_887 ?_
  refine z_aload_n S dL_law_888 hl 1 rfl rfl ?_
  refine z_iload S dL_law_889 hl 5 rfl ?_
  refine z_iconst S dL_law_891 ?_
  refine z_iadd S dL_law_892 ?_
  refine z_sld S hX hb hS (i := ix + 4) (by omega) hL x4 dL_law_893 ?_
  have ht : (2 : Int) = ec (!(decide (0 ≤ e) && decide (e ≤ 15)) || !(decide (0 ≤ f) && decide (f ≤ 15))) (!(decide (0 ≤ x) && decide (x ≤ 63)) || !(decide (0 ≤ y) && decide (y ≤ 63))) := (ec_2 (by first | rfl | (simp only [Bool.not_eq_true', Bool.and_eq_true, Bool.or_eq_true, Bool.and_eq_false_iff, Bool.or_eq_false_iff, Bool.not_eq_false', decide_eq_true_eq, decide_eq_false_iff_not]; omega)) (by first | rfl | (simp only [Bool.not_eq_true', Bool.and_eq_true, Bool.or_eq_true, Bool.and_eq_false_iff, Bool.or_eq_false_iff, Bool.not_eq_false', decide_eq_true_eq, decide_eq_false_iff_not]; omega))).symm
  refine z_callM S hG hS (c_X4_meet l G σ b th m1 m2 I.iM kR e x f y re rx rf ry kC.1 2 ht) (zA_m h9 I) ok_X4_meet I.M.1 zc_X4 rfl q6_102 (I.M) ⟨rfl, rfl, by decide, by decide⟩ ⟨(by have := hcs.1; omega), (by have := hcs.2; omega)⟩ rfl (Nat.le_of_ble_eq_true rfl) hl.1 rfl dL_law_894 (fun H_2 L_2 hB hz oq hS => ?_)
  refine z_fresh hS (fun hS => ?_)
  have I := I.stepN (τ' := σ) oq (fun q hq z => z) hB rfl rfl
  refine z_istore (lv' := [(6, .int (_)), (5, .int (zI (2))), (0, .ref (b0)), (1, .ref (a 0)), (2, .ref (b 0)), (3, .ref (o)), (4, .int (zI (ix)))]) S dL_law_897 hl (by decide) rfl (fun ls hl => ?_)
  refine z_goto S 985 dL_law_899 (by decide) ?_
  refine W.widen (k := cells + 1000) (n := slots + 10000) (by omega) (by omega) ?_
  exact kk _ _ _ _ _ _ _ _ _ _ hS I (rfl) (rfl) (lv_sub hl [2, 3, 4, 5, 6] rfl)
theorem q4_176 : (Jvm.Cond.methodLink "CyclepaintLaw" (169 : Nat) ({ cls := "CyclepaintLaw", name := "when", desc := "(LCyclepaint;ILCyclepaintLaw$Out;)I" } : Jvm.MethodName)) ∈ lw_g := zg_of (zin4 (List.mem_of_getElem? (i := 176) rfl)) rfl
theorem q6_110 : (Jvm.Cond.methodLink "CyclepaintLaw" (171 : Nat) ({ cls := "CyclepaintModel", name := "when", desc := "(I)I" } : Jvm.MethodName)) ∈ lw_g := zg_of (zin6 (List.mem_of_getElem? (i := 110) rfl)) rfl
set_option maxHeartbeats 4000000 in
set_option maxRecDepth 100000 in
theorem lw_when_0 (Z : zLaw p9 l s m9 cd ar G b0 L xs) (hS : va_S (fun q => s.heap.size ≤ q) s.heap H []) (I : zInv G σ a σ b th m1 m2 o n0 sv H) (hl : lv_has ls 9 [(0, .ref (b0)), (1, .ref (a 0)), (2, .ref (b 0)), (3, .ref (o)), (4, .int (zI (ix)))]) (hix : 0 ≤ ix ∧ ix + 4 < L) (hcs : cells + 1000 ≤ room_1.cells ∧ slots + 10000 ≤ room_1.slots) (kk : zKK p9 l e9 s m9 ar bw me cd Q G b0 o ix (a 0) (b 0) cells slots) (n : Int) (rn : rg n) (x1 : xs (ix + 1).toNat = zI n) (hn : 0 ≤ n ∧ n < σ.kn) : W p9 l e9 room_1 s m9 ar bw me cd H [] cells slots Q (F0 m9 902 ls []) := by
  obtain ⟨S, hl0, hG, hX, hb, hL, h9⟩ := Z
  have kC : okC σ := I.C.2.2.2.2.2
  have kR : okR σ := I.M.2.2.2.2.2.2.2.2.2
  refine z_aload_n S dL_law_902 hl 1 rfl rfl ?_
  refine z_aload_n S dL_law_903 hl 0 rfl rfl ?_
  refine z_iload S dL_law_904 hl 4 rfl ?_
  refine z_iconst S dL_law_906 ?_
  refine z_iadd S dL_law_907 ?_
  refine z_sld S hX hb hS (i := ix + 1) (by omega) hL x1 dL_law_908 ?_
  refine z_aload_n S dL_law_909 hl 3 rfl rfl ?_
  refine z_callH S hG hS (w_when_0 l hl0 G σ a o n0 sv I.iC I.ao n hn) (zA_co h9 I) okL_when q4_176 (⟨I.C, I.O⟩) ⟨rfl, rfl, by decide, by decide⟩ ⟨(by have := hcs.1; omega), (by have := hcs.2; omega)⟩ rfl (Nat.le_of_ble_eq_true rfl) hl.1 rfl dL_law_910 (fun H_1 L_1 hB hz oq hS => ?_)
  refine z_fresh hS (fun hS => ?_)
  have I := I.stepO oq hB rfl
  refine z_istore (lv' := [(5, .int (zI (0))), (0, .ref (b0)), (1, .ref (a 0)), (2, .ref (b 0)), (3, .ref (o)), (4, .int (zI (ix)))]) S dL_law_913 hl (by decide) rfl (fun ls hl => ?_)
  refine z_aload_n S dL_law_915 hl 3 rfl rfl ?_
  refine z_aload_n S dL_law_916 hl 1 rfl rfl ?_
  refine z_iload S dL_law_917 hl 5 rfl ?_
  refine z_iconst S dL_law_919 ?_
  refine z_iadd S dL_law_920 ?_
  refine z_sld S hX hb hS (i := ix + 1) (by omega) hL x1 dL_law_921 ?_
  have ht : (0 : Int) = ec (!(decide (0 ≤ n) && decide (n ≤ σ.kn - 1))) (false) := (ec_0 (by first | rfl | (simp only [Bool.not_eq_true', Bool.and_eq_true, Bool.or_eq_true, Bool.and_eq_false_iff, Bool.or_eq_false_iff, Bool.not_eq_false', decide_eq_true_eq, decide_eq_false_iff_not]; omega)) (by first | rfl | (simp only [Bool.not_eq_true', Bool.and_eq_true, Bool.or_eq_true, Bool.and_eq_false_iff, Bool.or_eq_false_iff, Bool.not_eq_false', decide_eq_true_eq, decide_eq_false_iff_not]; omega))).symm
  refine z_callM S hG hS (c_X4_when l G σ b th m1 m2 I.iM kR n rn kC.2.1 kC.1 kC.2.2.2.1.1 kC.2.2.2.1.2 0 ht) (zA_m h9 I) ok_X4_when I.M.1 zc_X4 rfl q6_110 (I.M) ⟨rfl, rfl, by decide, by decide⟩ ⟨(by have := hcs.1; omega), (by have := hcs.2; omega)⟩ rfl (Nat.le_of_ble_eq_true rfl) hl.1 rfl dL_law_922 (fun H_2 L_2 hB hz oq hS => ?_)
  refine z_fresh hS (fun hS => ?_)
  have I := I.stepN (τ' := σ) oq (fun q hq z => z) hB rfl rfl
  refine z_istore (lv' := [(6, .int (_)), (5, .int (zI (0))), (0, .ref (b0)), (1, .ref (a 0)), (2, .ref (b 0)), (3, .ref (o)), (4, .int (zI (ix)))]) S dL_law_925 hl (by decide) rfl (fun ls hl => ?_)
  refine z_goto S 985 dL_law_927 (by decide) ?_
  refine W.widen (k := cells + 1000) (n := slots + 10000) (by omega) (by omega) ?_
  exact kk _ _ _ _ _ _ _ _ _ _ hS I (rfl) (rfl) (lv_sub hl [2, 3, 4, 5, 6] rfl)
set_option maxHeartbeats 4000000 in
set_option maxRecDepth 100000 in
theorem lw_when_1 (Z : zLaw p9 l s m9 cd ar G b0 L xs) (hS : va_S (fun q => s.heap.size ≤ q) s.heap H []) (I : zInv G σ a σ b th m1 m2 o n0 sv H) (hl : lv_has ls 9 [(0, .ref (b0)), (1, .ref (a 0)), (2, .ref (b 0)), (3, .ref (o)), (4, .int (zI (ix)))]) (hix : 0 ≤ ix ∧ ix + 4 < L) (hcs : cells + 1000 ≤ room_1.cells ∧ slots + 10000 ≤ room_1.slots) (kk : zKK p9 l e9 s m9 ar bw me cd Q G b0 o ix (a 0) (b 0) cells slots) (n : Int) (rn : rg n) (x1 : xs (ix + 1).toNat = zI n) (h1 : ¬ (0 ≤ n ∧ n < σ.kn)) : W p9 l e9 room_1 s m9 ar bw me cd H [] cells slots Q (F0 m9 902 ls []) := by
  obtain ⟨S, hl0, hG, hX, hb, hL, h9⟩ := Z
  have kC : okC σ := I.C.2.2.2.2.2
  have kR : okR σ := I.M.2.2.2.2.2.2.2.2.2
  refine z_aload_n S dL_law_902 hl 1 rfl rfl ?_
  refine z_aload_n S dL_law_903 hl 0 rfl rfl ?_
  refine z_iload S dL_law_904 hl 4 rfl ?_
  refine z_iconst S dL_law_906 ?_
  refine z_iadd S dL_law_907 ?_
  refine z_sld S hX hb hS (i := ix + 1) (by omega) hL x1 dL_law_908 ?_
  refine z_aload_n S dL_law_909 hl 3 rfl rfl ?_
  refine z_callH S hG hS (w_when_1 l hl0 G σ a o n0 sv n rn h1) (fun _ z => z.elim) okL_when q4_176 (⟨I.C, I.xp⟩) ⟨rfl, rfl, by decide, by decide⟩ ⟨(by have := hcs.1; omega), (by have := hcs.2; omega)⟩ rfl (Nat.le_of_ble_eq_true rfl) hl.1 rfl dL_law_910 (fun H_1 L_1 hB hz oq hS => ?_)
  refine z_fresh hS (fun hS => ?_)
  have I := I.step0 oq
  refine z_istore (lv' := [(5, .int (zI (1))), (0, .ref (b0)), (1, .ref (a 0)), (2, .ref (b 0)), (3, .ref (o)), (4, .int (zI (ix)))]) S dL_law_913 hl (by decide) rfl (fun ls hl => ?_)
  refine z_aload_n S dL_law_915 hl 3 rfl rfl ?_
  refine z_aload_n S dL_law_916 hl 1 rfl rfl ?_
  refine z_iload S dL_law_917 hl 5 rfl ?_
  refine z_iconst S dL_law_919 ?_
  refine z_iadd S dL_law_920 ?_
  refine z_sld S hX hb hS (i := ix + 1) (by omega) hL x1 dL_law_921 ?_
  have ht : (1 : Int) = ec (!(decide (0 ≤ n) && decide (n ≤ σ.kn - 1))) (false) := (ec_1 (by first | rfl | (simp only [Bool.not_eq_true', Bool.and_eq_true, Bool.or_eq_true, Bool.and_eq_false_iff, Bool.or_eq_false_iff, Bool.not_eq_false', decide_eq_true_eq, decide_eq_false_iff_not]; omega))).symm
  refine z_callM S hG hS (c_X4_when l G σ b th m1 m2 I.iM kR n rn kC.2.1 kC.1 kC.2.2.2.1.1 kC.2.2.2.1.2 1 ht) (zA_m h9 I) ok_X4_when I.M.1 zc_X4 rfl q6_110 (I.M) ⟨rfl, rfl, by decide, by decide⟩ ⟨(by have := hcs.1; omega), (by have := hcs.2; omega)⟩ rfl (Nat.le_of_ble_eq_true rfl) hl.1 rfl dL_law_922 (fun H_2 L_2 hB hz oq hS => ?_)
  refine z_fresh hS (fun hS => ?_)
  have I := I.stepN (τ' := σ) oq (fun q hq z => z) hB rfl rfl
  refine z_istore (lv' := [(6, .int (_)), (5, .int (zI (1))), (0, .ref (b0)), (1, .ref (a 0)), (2, .ref (b 0)), (3, .ref (o)), (4, .int (zI (ix)))]) S dL_law_925 hl (by decide) rfl (fun ls hl => ?_)
  refine z_goto S 985 dL_law_927 (by decide) ?_
  refine W.widen (k := cells + 1000) (n := slots + 10000) (by omega) (by omega) ?_
  exact kk _ _ _ _ _ _ _ _ _ _ hS I (rfl) (rfl) (lv_sub hl [2, 3, 4, 5, 6] rfl)
theorem q4_184 : (Jvm.Cond.methodLink "CyclepaintLaw" (172 : Nat) ({ cls := "CyclepaintLaw", name := "lightest", desc := "(LCyclepaint;ILCyclepaintLaw$Out;)I" } : Jvm.MethodName)) ∈ lw_g := zg_of (zin4 (List.mem_of_getElem? (i := 184) rfl)) rfl
theorem q6_118 : (Jvm.Cond.methodLink "CyclepaintLaw" (174 : Nat) ({ cls := "CyclepaintModel", name := "lightest", desc := "(I)I" } : Jvm.MethodName)) ∈ lw_g := zg_of (zin6 (List.mem_of_getElem? (i := 118) rfl)) rfl
set_option maxHeartbeats 4000000 in
set_option maxRecDepth 100000 in
theorem lw_lightest_0 (Z : zLaw p9 l s m9 cd ar G b0 L xs) (hS : va_S (fun q => s.heap.size ≤ q) s.heap H []) (I : zInv G σ a σ b th m1 m2 o n0 sv H) (hl : lv_has ls 9 [(0, .ref (b0)), (1, .ref (a 0)), (2, .ref (b 0)), (3, .ref (o)), (4, .int (zI (ix)))]) (hix : 0 ≤ ix ∧ ix + 4 < L) (hcs : cells + 1000 ≤ room_1.cells ∧ slots + 10000 ≤ room_1.slots) (kk : zKK p9 l e9 s m9 ar bw me cd Q G b0 o ix (a 0) (b 0) cells slots) (n : Int) (rn : rg n) (x1 : xs (ix + 1).toNat = zI n) (hn : 1 ≤ n ∧ n ≤ 200) : W p9 l e9 room_1 s m9 ar bw me cd H [] cells slots Q (F0 m9 930 ls []) := by
  obtain ⟨S, hl0, hG, hX, hb, hL, h9⟩ := Z
  have kC : okC σ := I.C.2.2.2.2.2
  have kR : okR σ := I.M.2.2.2.2.2.2.2.2.2
  refine z_aload_n S dL_law_930 hl 1 rfl rfl ?_
  refine z_aload_n S dL_law_931 hl 0 rfl rfl ?_
  refine z_iload S dL_law_932 hl 4 rfl ?_
  refine z_iconst S dL_law_934 ?_
  refine z_iadd S dL_law_935 ?_
  refine z_sld S hX hb hS (i := ix + 1) (by omega) hL x1 dL_law_936 ?_
  refine z_aload_n S dL_law_937 hl 3 rfl rfl ?_
  refine z_callH S hG hS (w_lightest_0 l hl0 G σ a o n0 sv I.iC I.ao n hn) (zA_co h9 I) okL_lightest q4_184 (⟨I.C, I.O⟩) ⟨rfl, rfl, by decide, by decide⟩ ⟨(by have := hcs.1; omega), (by have := hcs.2; omega)⟩ rfl (Nat.le_of_ble_eq_true rfl) hl.1 rfl dL_law_938 (fun H_1 L_1 hB hz oq hS => ?_)
  refine z_fresh hS (fun hS => ?_)
  have I := I.stepO oq hB rfl
  refine z_istore (lv' := [(5, .int (zI (0))), (0, .ref (b0)), (1, .ref (a 0)), (2, .ref (b 0)), (3, .ref (o)), (4, .int (zI (ix)))]) S dL_law_941 hl (by decide) rfl (fun ls hl => ?_)
  refine z_aload_n S dL_law_943 hl 3 rfl rfl ?_
  refine z_aload_n S dL_law_944 hl 1 rfl rfl ?_
  refine z_iload S dL_law_945 hl 5 rfl ?_
  refine z_iconst S dL_law_947 ?_
  refine z_iadd S dL_law_948 ?_
  refine z_sld S hX hb hS (i := ix + 1) (by omega) hL x1 dL_law_949 ?_
  have ht : (0 : Int) = ec (!(decide (1 ≤ n) && decide (n ≤ 200))) (false) := (ec_0 (by first | rfl | (simp only [Bool.not_eq_true', Bool.and_eq_true, Bool.or_eq_true, Bool.and_eq_false_iff, Bool.or_eq_false_iff, Bool.not_eq_false', decide_eq_true_eq, decide_eq_false_iff_not]; omega)) (by first | rfl | (simp only [Bool.not_eq_true', Bool.and_eq_true, Bool.or_eq_true, Bool.and_eq_false_iff, Bool.or_eq_false_iff, Bool.not_eq_false', decide_eq_true_eq, decide_eq_false_iff_not]; omega))).symm
  refine z_callM S hG hS (c_X4_lightest l G σ b th m1 m2 I.iM kR n rn kC.2.1 kC.1 0 ht) (zA_m h9 I) ok_X4_lightest I.M.1 zc_X4 rfl q6_118 (I.M) ⟨rfl, rfl, by decide, by decide⟩ ⟨(by have := hcs.1; omega), (by have := hcs.2; omega)⟩ rfl (Nat.le_of_ble_eq_true rfl) hl.1 rfl dL_law_950 (fun H_2 L_2 hB hz oq hS => ?_)
  refine z_fresh hS (fun hS => ?_)
  have I := I.stepN (τ' := σ) oq (fun q hq z => z) hB rfl rfl
  refine z_istore (lv' := [(6, .int (_)), (5, .int (zI (0))), (0, .ref (b0)), (1, .ref (a 0)), (2, .ref (b 0)), (3, .ref (o)), (4, .int (zI (ix)))]) S dL_law_953 hl (by decide) rfl (fun ls hl => ?_)
  refine z_goto S 985 dL_law_955 (by decide) ?_
  refine W.widen (k := cells + 1000) (n := slots + 10000) (by omega) (by omega) ?_
  exact kk _ _ _ _ _ _ _ _ _ _ hS I (rfl) (rfl) (lv_sub hl [2, 3, 4, 5, 6] rfl)
set_option maxHeartbeats 4000000 in
set_option maxRecDepth 100000 in
theorem lw_lightest_1 (Z : zLaw p9 l s m9 cd ar G b0 L xs) (hS : va_S (fun q => s.heap.size ≤ q) s.heap H []) (I : zInv G σ a σ b th m1 m2 o n0 sv H) (hl : lv_has ls 9 [(0, .ref (b0)), (1, .ref (a 0)), (2, .ref (b 0)), (3, .ref (o)), (4, .int (zI (ix)))]) (hix : 0 ≤ ix ∧ ix + 4 < L) (hcs : cells + 1000 ≤ room_1.cells ∧ slots + 10000 ≤ room_1.slots) (kk : zKK p9 l e9 s m9 ar bw me cd Q G b0 o ix (a 0) (b 0) cells slots) (n : Int) (rn : rg n) (x1 : xs (ix + 1).toNat = zI n) (h1 : ¬ (1 ≤ n ∧ n ≤ 200)) : W p9 l e9 room_1 s m9 ar bw me cd H [] cells slots Q (F0 m9 930 ls []) := by
  obtain ⟨S, hl0, hG, hX, hb, hL, h9⟩ := Z
  have kC : okC σ := I.C.2.2.2.2.2
  have kR : okR σ := I.M.2.2.2.2.2.2.2.2.2
  refine z_aload_n S dL_law_930 hl 1 rfl rfl ?_
  refine z_aload_n S dL_law_931 hl 0 rfl rfl ?_
  refine z_iload S dL_law_932 hl 4 rfl ?_
  refine z_iconst S dL_law_934 ?_
  refine z_iadd S dL_law_935 ?_
  refine z_sld S hX hb hS (i := ix + 1) (by omega) hL x1 dL_law_936 ?_
  refine z_aload_n S dL_law_937 hl 3 rfl rfl ?_
  refine z_callH S hG hS (w_lightest_1 l hl0 G σ a o n0 sv n rn h1) (fun _ z => z.elim) okL_lightest q4_184 (⟨I.C, I.xp⟩) ⟨rfl, rfl, by decide, by decide⟩ ⟨(by have := hcs.1; omega), (by have := hcs.2; omega)⟩ rfl (Nat.le_of_ble_eq_true rfl) hl.1 rfl dL_law_938 (fun H_1 L_1 hB hz oq hS => ?_)
  refine z_fresh hS (fun hS => ?_)
  have I := I.step0 oq
  refine z_istore (lv' := [(5, .int (zI (1))), (0, .ref (b0)), (1, .ref (a 0)), (2, .ref (b 0)), (3, .ref (o)), (4, .int (zI (ix)))]) S dL_law_941 hl (by decide) rfl (fun ls hl => ?_)
  refine z_aload_n S dL_law_943 hl 3 rfl rfl ?_
  refine z_aload_n S dL_law_944 hl 1 rfl rfl ?_
  refine z_iload S dL_law_945 hl 5 rfl ?_
  refine z_iconst S dL_law_947 ?_
  refine z_iadd S dL_law_948 ?_
  refine z_sld S hX hb hS (i := ix + 1) (by omega) hL x1 dL_law_949 ?_
  have ht : (1 : Int) = ec (!(decide (1 ≤ n) && decide (n ≤ 200))) (false) := (ec_1 (by first | rfl | (simp only [Bool.not_eq_true', Bool.and_eq_true, Bool.or_eq_true, Bool.and_eq_false_iff, Bool.or_eq_false_iff, Bool.not_eq_false', decide_eq_true_eq, decide_eq_false_iff_not]; omega))).symm
  refine z_callM S hG hS (c_X4_lightest l G σ b th m1 m2 I.iM kR n rn kC.2.1 kC.1 1 ht) (zA_m h9 I) ok_X4_lightest I.M.1 zc_X4 rfl q6_118 (I.M) ⟨rfl, rfl, by decide, by decide⟩ ⟨(by have := hcs.1; omega), (by have := hcs.2; omega)⟩ rfl (Nat.le_of_ble_eq_true rfl) hl.1 rfl dL_law_950 (fun H_2 L_2 hB hz oq hS => ?_)
  refine z_fresh hS (fun hS => ?_)
  have I := I.stepN (τ' := σ) oq (fun q hq z => z) hB rfl rfl
  refine z_istore (lv' := [(6, .int (_)), (5, .int (zI (1))), (0, .ref (b0)), (1, .ref (a 0)), (2, .ref (b 0)), (3, .ref (o)), (4, .int (zI (ix)))]) S dL_law_953 hl (by decide) rfl (fun ls hl => ?_)
  refine z_goto S 985 dL_law_955 (by decide) ?_
  refine W.widen (k := cells + 1000) (n := slots + 10000) (by omega) (by omega) ?_
  exact kk _ _ _ _ _ _ _ _ _ _ hS I (rfl) (rfl) (lv_sub hl [2, 3, 4, 5, 6] rfl)
theorem q1_171 : (Jvm.Cond.methodLink "CyclepaintLaw" (175 : Nat) ({ cls := "Cyclepaint", name := "isSound", desc := "()Z" } : Jvm.MethodName)) ∈ lw_g := zg_of (zin1 (List.mem_of_getElem? (i := 171) rfl)) rfl
theorem q6_126 : (Jvm.Cond.methodLink "CyclepaintLaw" (179 : Nat) ({ cls := "CyclepaintModel", name := "isSound", desc := "()Z" } : Jvm.MethodName)) ∈ lw_g := zg_of (zin6 (List.mem_of_getElem? (i := 126) rfl)) rfl
set_option maxHeartbeats 4000000 in
set_option maxRecDepth 100000 in
theorem lw_isSound_0 (Z : zLaw p9 l s m9 cd ar G b0 L xs) (hS : va_S (fun q => s.heap.size ≤ q) s.heap H []) (I : zInv G σ a σ b th m1 m2 o n0 sv H) (hl : lv_has ls 9 [(0, .ref (b0)), (1, .ref (a 0)), (2, .ref (b 0)), (3, .ref (o)), (4, .int (zI (ix)))]) (hix : 0 ≤ ix ∧ ix + 4 < L) (hcs : cells + 1000 ≤ room_1.cells ∧ slots + 10000 ≤ room_1.slots) (kk : zKK p9 l e9 s m9 ar bw me cd Q G b0 o ix (a 0) (b 0) cells slots)   : W p9 l e9 room_1 s m9 ar bw me cd H [] cells slots Q (F0 m9 958 ls []) := by
  obtain ⟨S, hl0, hG, hX, hb, hL, h9⟩ := Z
  have kC : okC σ := I.C.2.2.2.2.2
  have kR : okR σ := I.M.2.2.2.2.2.2.2.2.2
  refine z_aload_n S dL_law_958 hl 1 rfl rfl ?_
  refine z_callVs S hG (c_X2_isSound l G σ a) ok_X2_isSound I.C.1 zc_X2 rfl q1_171 I.C ⟨rfl, rfl, by decide, by decide⟩ ⟨(by have := hcs.1; omega), (by have := hcs.2; omega)⟩ rfl (Nat.le_of_ble_eq_true rfl) hl.1 rfl dL_law_959 ?_
  refine lv_pop S.1 S.2.1 dL_law_962 rfl ?_
  refine z_aload_n S dL_law_963 hl 2 rfl rfl ?_
  refine z_callM S hG hS (c_X4_isSound l G σ b th m1 m2 _ I.iM kC.2.2.2.2.1 kC.1) (zA_n h9 I hS) ok_X4_isSound I.M.1 zc_X4 rfl q6_126 (⟨I.M, rfl⟩) ⟨rfl, rfl, by decide, by decide⟩ ⟨(by have := hcs.1; omega), (by have := hcs.2; omega)⟩ rfl (Nat.le_of_ble_eq_true rfl) hl.1 rfl dL_law_964 (fun H_1 L_1 hB hz oq hS => ?_)
  refine z_fresh hS (fun hS => ?_)
  have I := I.stepN (τ' := σ) oq (fun q hq z => z.elim id (fun z => absurd hq (by omega))) hB rfl rfl
  refine lv_pop S.1 S.2.1 dL_law_967 rfl ?_
  refine z_goto S 985 dL_law_968 (by decide) ?_
  refine W.widen (k := cells + 1000) (n := slots + 10000) (by omega) (by omega) ?_
  exact kk _ _ _ _ _ _ _ _ _ _ hS I (rfl) (rfl) (lv_sub hl [0, 1, 2, 3, 4] rfl)
theorem q1_214 : (Jvm.Cond.methodLink "CyclepaintLaw" (180 : Nat) ({ cls := "Cyclepaint", name := "digest", desc := "()J" } : Jvm.MethodName)) ∈ lw_g := zg_of (zin1 (List.mem_of_getElem? (i := 214) rfl)) rfl
theorem q6_134 : (Jvm.Cond.methodLink "CyclepaintLaw" (184 : Nat) ({ cls := "CyclepaintModel", name := "digest", desc := "()J" } : Jvm.MethodName)) ∈ lw_g := zg_of (zin6 (List.mem_of_getElem? (i := 134) rfl)) rfl
set_option maxHeartbeats 4000000 in
set_option maxRecDepth 100000 in
theorem lw_digest_0 (Z : zLaw p9 l s m9 cd ar G b0 L xs) (hS : va_S (fun q => s.heap.size ≤ q) s.heap H []) (I : zInv G σ a σ b th m1 m2 o n0 sv H) (hl : lv_has ls 9 [(0, .ref (b0)), (1, .ref (a 0)), (2, .ref (b 0)), (3, .ref (o)), (4, .int (zI (ix)))]) (hix : 0 ≤ ix ∧ ix + 4 < L) (hcs : cells + 1000 ≤ room_1.cells ∧ slots + 10000 ≤ room_1.slots) (kk : zKK p9 l e9 s m9 ar bw me cd Q G b0 o ix (a 0) (b 0) cells slots)   : W p9 l e9 room_1 s m9 ar bw me cd H [] cells slots Q (F0 m9 971 ls []) := by
  obtain ⟨S, hl0, hG, hX, hb, hL, h9⟩ := Z
  have kC : okC σ := I.C.2.2.2.2.2
  have kR : okR σ := I.M.2.2.2.2.2.2.2.2.2
  refine z_aload_n S dL_law_971 hl 1 rfl rfl ?_
  refine z_callVs S hG (c_X2_digest l G σ a) ok_X2_digest I.C.1 zc_X2 rfl q1_214 I.C ⟨rfl, rfl, by decide, by decide⟩ ⟨(by have := hcs.1; omega), (by have := hcs.2; omega)⟩ rfl (Nat.le_of_ble_eq_true rfl) hl.1 rfl dL_law_972 ?_
  refine z_aload_n S dL_law_975 hl 2 rfl rfl ?_
  refine z_callM S hG hS (c_X4_digest l G σ b th m1 m2 _ I.iM kC.2.2.2.2.1 kC.2.2.2.2.2 kC.2.1 kC.1 kC.2.2.2.1.1 kC.2.2.2.1.2 kC.2.2.1) (zA_n h9 I hS) ok_X4_digest I.M.1 zc_X4 rfl q6_134 (⟨I.M, rfl⟩) ⟨rfl, rfl, by decide, by decide⟩ ⟨(by have := hcs.1; omega), (by have := hcs.2; omega)⟩ rfl (Nat.le_of_ble_eq_true rfl) hl.1 rfl dL_law_976 (fun H_1 L_1 hB hz oq hS => ?_)
  refine z_fresh hS (fun hS => ?_)
  have I := I.stepN (τ' := σ) oq (fun q hq z => z.elim id (fun z => absurd hq (by omega))) hB rfl rfl
  refine z_lcmpQ S (by exact dg_CM kR kC) dL_law_979 ?_
  refine lv_if_eq (tgt := 985) S.1 S.2.1 dL_law_980 (by decide) (fun c_980 => ?_) (fun c_980 => ?_)
  rotate_left
  · exact absurd (by decide) c_980
  refine W.widen (k := cells + 1000) (n := slots + 10000) (by omega) (by omega) ?_
  exact kk _ _ _ _ _ _ _ _ _ _ hS I (rfl) (rfl) (lv_sub hl [0, 1, 2, 3, 4] rfl)
end ZC
