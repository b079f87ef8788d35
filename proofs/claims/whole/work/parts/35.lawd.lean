theorem zd_L_law_0 : decode code 0 = .ok (.new 8, 3) := by decide +kernel
theorem zd_L_law_3 : decode code 3 = .ok (.dup, 1) := by decide +kernel
theorem zd_L_law_4 : decode code 4 = .ok (.invokespecial 92, 3) := by decide +kernel
theorem zd_L_law_7 : decode code 7 = .ok (.astore_n 1, 1) := by decide +kernel
theorem zd_L_law_8 : decode code 8 = .ok (.new 93, 3) := by decide +kernel
theorem zd_L_law_11 : decode code 11 = .ok (.dup, 1) := by decide +kernel
theorem zd_L_law_12 : decode code 12 = .ok (.invokespecial 95, 3) := by decide +kernel
theorem zd_L_law_15 : decode code 15 = .ok (.astore_n 2, 1) := by decide +kernel
theorem zd_L_law_16 : decode code 16 = .ok (.iconst 1, 1) := by decide +kernel
theorem zd_L_law_17 : decode code 17 = .ok (.newarray .long, 2) := by decide +kernel
theorem zd_L_law_19 : decode code 19 = .ok (.astore_n 3, 1) := by decide +kernel
theorem zd_L_law_20 : decode code 20 = .ok (.iconst 0, 1) := by decide +kernel
theorem zd_L_law_21 : decode code 21 = .ok (.istore 4, 2) := by decide +kernel
theorem zd_L_law_23 : decode code 23 = .ok (.iload 4, 2) := by decide +kernel
theorem zd_L_law_25 : decode code 25 = .ok (.aload_n 0, 1) := by decide +kernel
theorem zd_L_law_26 : decode code 26 = .ok (.arraylength, 1) := by decide +kernel
theorem zd_L_law_27 : decode code 27 = .ok (.bipush 6, 2) := by decide +kernel
theorem zd_L_law_29 : decode code 29 = .ok (.isub, 1) := by decide +kernel
theorem zd_L_law_30 : decode code 30 = .ok (.if_icmp .gt 1884, 3) := by decide +kernel
theorem zd_L_law_33 : decode code 33 = .ok (.aload_n 0, 1) := by decide +kernel
theorem zd_L_law_34 : decode code 34 = .ok (.iload 4, 2) := by decide +kernel
theorem zd_L_law_36 : decode code 36 = .ok (.iaload, 1) := by decide +kernel
theorem zd_L_law_37 : decode code 37 = .ok (.bipush 31, 2) := by decide +kernel
theorem zd_L_law_39 : decode code 39 = .ok (.iand, 1) := by decide +kernel
theorem zd_L_law_40 : decode code 40 = .ok (.tableswitch 1868 0 21 #[104, 148, 252, 312, 403, 475, 555, 647, 739, 819, 899, 979, 1027, 1102, 1162, 1242, 1334, 1421, 1524, 1616, 1708, 1788], 104) := by decide +kernel
theorem zd_L_law_144 : decode code 144 = .ok (.aload_n 1, 1) := by decide +kernel
theorem zd_L_law_145 : decode code 145 = .ok (.aload_n 3, 1) := by decide +kernel
theorem zd_L_law_146 : decode code 146 = .ok (.invokestatic 96, 3) := by decide +kernel
theorem zd_L_law_149 : decode code 149 = .ok (.istore 5, 2) := by decide +kernel
theorem zd_L_law_151 : decode code 151 = .ok (.aload_n 2, 1) := by decide +kernel
theorem zd_L_law_152 : decode code 152 = .ok (.invokevirtual 101, 3) := by decide +kernel
theorem zd_L_law_155 : decode code 155 = .ok (.istore 6, 2) := by decide +kernel
theorem zd_L_law_157 : decode code 157 = .ok (.aload_n 2, 1) := by decide +kernel
theorem zd_L_law_158 : decode code 158 = .ok (.invokevirtual 102, 3) := by decide +kernel
theorem zd_L_law_161 : decode code 161 = .ok (.iload 5, 2) := by decide +kernel
theorem zd_L_law_163 : decode code 163 = .ok (.if_icmp .eq 5, 3) := by decide +kernel
theorem zd_L_law_166 : decode code 166 = .ok (.iconst 0, 1) := by decide +kernel
theorem zd_L_law_167 : decode code 167 = .ok (.ireturn, 1) := by decide +kernel
theorem zd_L_law_168 : decode code 168 = .ok (.iload 5, 2) := by decide +kernel
theorem zd_L_law_170 : decode code 170 = .ok (.ifCond .ne 15, 3) := by decide +kernel
theorem zd_L_law_173 : decode code 173 = .ok (.aload_n 3, 1) := by decide +kernel
theorem zd_L_law_174 : decode code 174 = .ok (.iconst 0, 1) := by decide +kernel
theorem zd_L_law_175 : decode code 175 = .ok (.laload, 1) := by decide +kernel
theorem zd_L_law_176 : decode code 176 = .ok (.iload 6, 2) := by decide +kernel
theorem zd_L_law_178 : decode code 178 = .ok (.i2l, 1) := by decide +kernel
theorem zd_L_law_179 : decode code 179 = .ok (.lcmp, 1) := by decide +kernel
theorem zd_L_law_180 : decode code 180 = .ok (.ifCond .eq 5, 3) := by decide +kernel
theorem zd_L_law_183 : decode code 183 = .ok (.iconst 0, 1) := by decide +kernel
theorem zd_L_law_184 : decode code 184 = .ok (.ireturn, 1) := by decide +kernel
theorem zd_L_law_185 : decode code 185 = .ok (.goto 1723, 3) := by decide +kernel
theorem zd_L_law_188 : decode code 188 = .ok (.aload_n 1, 1) := by decide +kernel
theorem zd_L_law_189 : decode code 189 = .ok (.aload_n 0, 1) := by decide +kernel
theorem zd_L_law_190 : decode code 190 = .ok (.iload 4, 2) := by decide +kernel
theorem zd_L_law_192 : decode code 192 = .ok (.iconst 1, 1) := by decide +kernel
theorem zd_L_law_193 : decode code 193 = .ok (.iadd, 1) := by decide +kernel
theorem zd_L_law_194 : decode code 194 = .ok (.iaload, 1) := by decide +kernel
theorem zd_L_law_195 : decode code 195 = .ok (.aload_n 0, 1) := by decide +kernel
theorem zd_L_law_196 : decode code 196 = .ok (.iload 4, 2) := by decide +kernel
theorem zd_L_law_198 : decode code 198 = .ok (.iconst 2, 1) := by decide +kernel
theorem zd_L_law_199 : decode code 199 = .ok (.iadd, 1) := by decide +kernel
theorem zd_L_law_200 : decode code 200 = .ok (.iaload, 1) := by decide +kernel
theorem zd_L_law_201 : decode code 201 = .ok (.aload_n 0, 1) := by decide +kernel
theorem zd_L_law_202 : decode code 202 = .ok (.iload 4, 2) := by decide +kernel
theorem zd_L_law_204 : decode code 204 = .ok (.iconst 3, 1) := by decide +kernel
theorem zd_L_law_205 : decode code 205 = .ok (.iadd, 1) := by decide +kernel
theorem zd_L_law_206 : decode code 206 = .ok (.iaload, 1) := by decide +kernel
theorem zd_L_law_207 : decode code 207 = .ok (.aload_n 0, 1) := by decide +kernel
theorem zd_L_law_208 : decode code 208 = .ok (.iload 4, 2) := by decide +kernel
theorem zd_L_law_210 : decode code 210 = .ok (.iconst 4, 1) := by decide +kernel
theorem zd_L_law_211 : decode code 211 = .ok (.iadd, 1) := by decide +kernel
theorem zd_L_law_212 : decode code 212 = .ok (.iaload, 1) := by decide +kernel
theorem zd_L_law_213 : decode code 213 = .ok (.aload_n 0, 1) := by decide +kernel
theorem zd_L_law_214 : decode code 214 = .ok (.iload 4, 2) := by decide +kernel
theorem zd_L_law_216 : decode code 216 = .ok (.iconst 5, 1) := by decide +kernel
theorem zd_L_law_217 : decode code 217 = .ok (.iadd, 1) := by decide +kernel
theorem zd_L_law_218 : decode code 218 = .ok (.iaload, 1) := by decide +kernel
theorem zd_L_law_219 : decode code 219 = .ok (.aload_n 3, 1) := by decide +kernel
theorem zd_L_law_220 : decode code 220 = .ok (.invokestatic 105, 3) := by decide +kernel
theorem zd_L_law_223 : decode code 223 = .ok (.istore 5, 2) := by decide +kernel
theorem zd_L_law_225 : decode code 225 = .ok (.aload_n 2, 1) := by decide +kernel
theorem zd_L_law_226 : decode code 226 = .ok (.aload_n 0, 1) := by decide +kernel
theorem zd_L_law_227 : decode code 227 = .ok (.iload 4, 2) := by decide +kernel
theorem zd_L_law_229 : decode code 229 = .ok (.iconst 1, 1) := by decide +kernel
theorem zd_L_law_230 : decode code 230 = .ok (.iadd, 1) := by decide +kernel
theorem zd_L_law_231 : decode code 231 = .ok (.iaload, 1) := by decide +kernel
theorem zd_L_law_232 : decode code 232 = .ok (.aload_n 0, 1) := by decide +kernel
theorem zd_L_law_233 : decode code 233 = .ok (.iload 4, 2) := by decide +kernel
theorem zd_L_law_235 : decode code 235 = .ok (.iconst 2, 1) := by decide +kernel
theorem zd_L_law_236 : decode code 236 = .ok (.iadd, 1) := by decide +kernel
theorem zd_L_law_237 : decode code 237 = .ok (.iaload, 1) := by decide +kernel
theorem zd_L_law_238 : decode code 238 = .ok (.aload_n 0, 1) := by decide +kernel
theorem zd_L_law_239 : decode code 239 = .ok (.iload 4, 2) := by decide +kernel
theorem zd_L_law_241 : decode code 241 = .ok (.iconst 3, 1) := by decide +kernel
theorem zd_L_law_242 : decode code 242 = .ok (.iadd, 1) := by decide +kernel
theorem zd_L_law_243 : decode code 243 = .ok (.iaload, 1) := by decide +kernel
theorem zd_L_law_244 : decode code 244 = .ok (.aload_n 0, 1) := by decide +kernel
theorem zd_L_law_245 : decode code 245 = .ok (.iload 4, 2) := by decide +kernel
theorem zd_L_law_247 : decode code 247 = .ok (.iconst 4, 1) := by decide +kernel
theorem zd_L_law_248 : decode code 248 = .ok (.iadd, 1) := by decide +kernel
theorem zd_L_law_249 : decode code 249 = .ok (.iaload, 1) := by decide +kernel
theorem zd_L_law_250 : decode code 250 = .ok (.aload_n 0, 1) := by decide +kernel
theorem zd_L_law_251 : decode code 251 = .ok (.iload 4, 2) := by decide +kernel
theorem zd_L_law_253 : decode code 253 = .ok (.iconst 5, 1) := by decide +kernel
theorem zd_L_law_254 : decode code 254 = .ok (.iadd, 1) := by decide +kernel
theorem zd_L_law_255 : decode code 255 = .ok (.iaload, 1) := by decide +kernel
theorem zd_L_law_256 : decode code 256 = .ok (.invokevirtual 108, 3) := by decide +kernel
theorem zd_L_law_259 : decode code 259 = .ok (.istore 6, 2) := by decide +kernel
theorem zd_L_law_261 : decode code 261 = .ok (.aload_n 2, 1) := by decide +kernel
theorem zd_L_law_262 : decode code 262 = .ok (.invokevirtual 102, 3) := by decide +kernel
theorem zd_L_law_265 : decode code 265 = .ok (.iload 5, 2) := by decide +kernel
theorem zd_L_law_267 : decode code 267 = .ok (.if_icmp .eq 5, 3) := by decide +kernel
theorem zd_L_law_270 : decode code 270 = .ok (.iconst 0, 1) := by decide +kernel
theorem zd_L_law_271 : decode code 271 = .ok (.ireturn, 1) := by decide +kernel
theorem zd_L_law_272 : decode code 272 = .ok (.iload 5, 2) := by decide +kernel
theorem zd_L_law_274 : decode code 274 = .ok (.ifCond .ne 15, 3) := by decide +kernel
theorem zd_L_law_277 : decode code 277 = .ok (.aload_n 3, 1) := by decide +kernel
theorem zd_L_law_278 : decode code 278 = .ok (.iconst 0, 1) := by decide +kernel
theorem zd_L_law_279 : decode code 279 = .ok (.laload, 1) := by decide +kernel
theorem zd_L_law_280 : decode code 280 = .ok (.iload 6, 2) := by decide +kernel
theorem zd_L_law_282 : decode code 282 = .ok (.i2l, 1) := by decide +kernel
theorem zd_L_law_283 : decode code 283 = .ok (.lcmp, 1) := by decide +kernel
theorem zd_L_law_284 : decode code 284 = .ok (.ifCond .eq 5, 3) := by decide +kernel
theorem zd_L_law_287 : decode code 287 = .ok (.iconst 0, 1) := by decide +kernel
theorem zd_L_law_288 : decode code 288 = .ok (.ireturn, 1) := by decide +kernel
theorem zd_L_law_289 : decode code 289 = .ok (.goto 1619, 3) := by decide +kernel
theorem zd_L_law_292 : decode code 292 = .ok (.aload_n 1, 1) := by decide +kernel
theorem zd_L_law_293 : decode code 293 = .ok (.aload_n 0, 1) := by decide +kernel
theorem zd_L_law_294 : decode code 294 = .ok (.iload 4, 2) := by decide +kernel
theorem zd_L_law_296 : decode code 296 = .ok (.iconst 1, 1) := by decide +kernel
theorem zd_L_law_297 : decode code 297 = .ok (.iadd, 1) := by decide +kernel
theorem zd_L_law_298 : decode code 298 = .ok (.iaload, 1) := by decide +kernel
theorem zd_L_law_299 : decode code 299 = .ok (.aload_n 0, 1) := by decide +kernel
theorem zd_L_law_300 : decode code 300 = .ok (.iload 4, 2) := by decide +kernel
theorem zd_L_law_302 : decode code 302 = .ok (.iconst 2, 1) := by decide +kernel
theorem zd_L_law_303 : decode code 303 = .ok (.iadd, 1) := by decide +kernel
theorem zd_L_law_304 : decode code 304 = .ok (.iaload, 1) := by decide +kernel
theorem zd_L_law_305 : decode code 305 = .ok (.aload_n 0, 1) := by decide +kernel
theorem zd_L_law_306 : decode code 306 = .ok (.iload 4, 2) := by decide +kernel
theorem zd_L_law_308 : decode code 308 = .ok (.iconst 3, 1) := by decide +kernel
theorem zd_L_law_309 : decode code 309 = .ok (.iadd, 1) := by decide +kernel
theorem zd_L_law_310 : decode code 310 = .ok (.iaload, 1) := by decide +kernel
theorem zd_L_law_311 : decode code 311 = .ok (.invokestatic 109, 3) := by decide +kernel
theorem zd_L_law_314 : decode code 314 = .ok (.istore 5, 2) := by decide +kernel
theorem zd_L_law_316 : decode code 316 = .ok (.aload_n 2, 1) := by decide +kernel
theorem zd_L_law_317 : decode code 317 = .ok (.aload_n 0, 1) := by decide +kernel
theorem zd_L_law_318 : decode code 318 = .ok (.iload 4, 2) := by decide +kernel
theorem zd_L_law_320 : decode code 320 = .ok (.iconst 1, 1) := by decide +kernel
theorem zd_L_law_321 : decode code 321 = .ok (.iadd, 1) := by decide +kernel
theorem zd_L_law_322 : decode code 322 = .ok (.iaload, 1) := by decide +kernel
theorem zd_L_law_323 : decode code 323 = .ok (.aload_n 0, 1) := by decide +kernel
theorem zd_L_law_324 : decode code 324 = .ok (.iload 4, 2) := by decide +kernel
theorem zd_L_law_326 : decode code 326 = .ok (.iconst 2, 1) := by decide +kernel
theorem zd_L_law_327 : decode code 327 = .ok (.iadd, 1) := by decide +kernel
theorem zd_L_law_328 : decode code 328 = .ok (.iaload, 1) := by decide +kernel
theorem zd_L_law_329 : decode code 329 = .ok (.aload_n 0, 1) := by decide +kernel
theorem zd_L_law_330 : decode code 330 = .ok (.iload 4, 2) := by decide +kernel
theorem zd_L_law_332 : decode code 332 = .ok (.iconst 3, 1) := by decide +kernel
theorem zd_L_law_333 : decode code 333 = .ok (.iadd, 1) := by decide +kernel
theorem zd_L_law_334 : decode code 334 = .ok (.iaload, 1) := by decide +kernel
theorem zd_L_law_335 : decode code 335 = .ok (.invokevirtual 112, 3) := by decide +kernel
theorem zd_L_law_338 : decode code 338 = .ok (.aload_n 2, 1) := by decide +kernel
theorem zd_L_law_339 : decode code 339 = .ok (.invokevirtual 102, 3) := by decide +kernel
theorem zd_L_law_342 : decode code 342 = .ok (.iload 5, 2) := by decide +kernel
theorem zd_L_law_344 : decode code 344 = .ok (.if_icmp .eq 5, 3) := by decide +kernel
theorem zd_L_law_347 : decode code 347 = .ok (.iconst 0, 1) := by decide +kernel
theorem zd_L_law_348 : decode code 348 = .ok (.ireturn, 1) := by decide +kernel
theorem zd_L_law_349 : decode code 349 = .ok (.goto 1559, 3) := by decide +kernel
theorem zd_L_law_352 : decode code 352 = .ok (.aload_n 1, 1) := by decide +kernel
theorem zd_L_law_353 : decode code 353 = .ok (.aload_n 0, 1) := by decide +kernel
theorem zd_L_law_354 : decode code 354 = .ok (.iload 4, 2) := by decide +kernel
theorem zd_L_law_356 : decode code 356 = .ok (.iconst 1, 1) := by decide +kernel
theorem zd_L_law_357 : decode code 357 = .ok (.iadd, 1) := by decide +kernel
theorem zd_L_law_358 : decode code 358 = .ok (.iaload, 1) := by decide +kernel
theorem zd_L_law_359 : decode code 359 = .ok (.aload_n 0, 1) := by decide +kernel
theorem zd_L_law_360 : decode code 360 = .ok (.iload 4, 2) := by decide +kernel
theorem zd_L_law_362 : decode code 362 = .ok (.iconst 2, 1) := by decide +kernel
theorem zd_L_law_363 : decode code 363 = .ok (.iadd, 1) := by decide +kernel
theorem zd_L_law_364 : decode code 364 = .ok (.iaload, 1) := by decide +kernel
theorem zd_L_law_365 : decode code 365 = .ok (.ifCond .eq 7, 3) := by decide +kernel
theorem zd_L_law_368 : decode code 368 = .ok (.iconst 1, 1) := by decide +kernel
theorem zd_L_law_369 : decode code 369 = .ok (.goto 4, 3) := by decide +kernel
theorem zd_L_law_372 : decode code 372 = .ok (.iconst 0, 1) := by decide +kernel
theorem zd_L_law_373 : decode code 373 = .ok (.aload_n 3, 1) := by decide +kernel
theorem zd_L_law_374 : decode code 374 = .ok (.invokestatic 113, 3) := by decide +kernel
theorem zd_L_law_377 : decode code 377 = .ok (.istore 5, 2) := by decide +kernel
theorem zd_L_law_379 : decode code 379 = .ok (.aload_n 2, 1) := by decide +kernel
theorem zd_L_law_380 : decode code 380 = .ok (.aload_n 0, 1) := by decide +kernel
theorem zd_L_law_381 : decode code 381 = .ok (.iload 4, 2) := by decide +kernel
theorem zd_L_law_383 : decode code 383 = .ok (.iconst 1, 1) := by decide +kernel
theorem zd_L_law_384 : decode code 384 = .ok (.iadd, 1) := by decide +kernel
theorem zd_L_law_385 : decode code 385 = .ok (.iaload, 1) := by decide +kernel
theorem zd_L_law_386 : decode code 386 = .ok (.aload_n 0, 1) := by decide +kernel
theorem zd_L_law_387 : decode code 387 = .ok (.iload 4, 2) := by decide +kernel
theorem zd_L_law_389 : decode code 389 = .ok (.iconst 2, 1) := by decide +kernel
theorem zd_L_law_390 : decode code 390 = .ok (.iadd, 1) := by decide +kernel
theorem zd_L_law_391 : decode code 391 = .ok (.iaload, 1) := by decide +kernel
theorem zd_L_law_392 : decode code 392 = .ok (.ifCond .eq 7, 3) := by decide +kernel
theorem zd_L_law_395 : decode code 395 = .ok (.iconst 1, 1) := by decide +kernel
theorem zd_L_law_396 : decode code 396 = .ok (.goto 4, 3) := by decide +kernel
theorem zd_L_law_399 : decode code 399 = .ok (.iconst 0, 1) := by decide +kernel
theorem zd_L_law_400 : decode code 400 = .ok (.invokevirtual 116, 3) := by decide +kernel
theorem zd_L_law_403 : decode code 403 = .ok (.istore 6, 2) := by decide +kernel
theorem zd_L_law_405 : decode code 405 = .ok (.aload_n 2, 1) := by decide +kernel
theorem zd_L_law_406 : decode code 406 = .ok (.invokevirtual 102, 3) := by decide +kernel
theorem zd_L_law_409 : decode code 409 = .ok (.iload 5, 2) := by decide +kernel
theorem zd_L_law_411 : decode code 411 = .ok (.if_icmp .eq 5, 3) := by decide +kernel
theorem zd_L_law_414 : decode code 414 = .ok (.iconst 0, 1) := by decide +kernel
theorem zd_L_law_415 : decode code 415 = .ok (.ireturn, 1) := by decide +kernel
theorem zd_L_law_416 : decode code 416 = .ok (.iload 5, 2) := by decide +kernel
theorem zd_L_law_418 : decode code 418 = .ok (.ifCond .ne 22, 3) := by decide +kernel
theorem zd_L_law_421 : decode code 421 = .ok (.aload_n 3, 1) := by decide +kernel
theorem zd_L_law_422 : decode code 422 = .ok (.iconst 0, 1) := by decide +kernel
theorem zd_L_law_423 : decode code 423 = .ok (.laload, 1) := by decide +kernel
theorem zd_L_law_424 : decode code 424 = .ok (.iload 6, 2) := by decide +kernel
theorem zd_L_law_426 : decode code 426 = .ok (.ifCond .eq 7, 3) := by decide +kernel
theorem zd_L_law_429 : decode code 429 = .ok (.lconst 1, 1) := by decide +kernel
theorem zd_L_law_430 : decode code 430 = .ok (.goto 4, 3) := by decide +kernel
theorem zd_L_law_433 : decode code 433 = .ok (.lconst 0, 1) := by decide +kernel
theorem zd_L_law_434 : decode code 434 = .ok (.lcmp, 1) := by decide +kernel
theorem zd_L_law_435 : decode code 435 = .ok (.ifCond .eq 5, 3) := by decide +kernel
theorem zd_L_law_438 : decode code 438 = .ok (.iconst 0, 1) := by decide +kernel
theorem zd_L_law_439 : decode code 439 = .ok (.ireturn, 1) := by decide +kernel
theorem zd_L_law_440 : decode code 440 = .ok (.goto 1468, 3) := by decide +kernel
theorem zd_L_law_443 : decode code 443 = .ok (.aload_n 1, 1) := by decide +kernel
theorem zd_L_law_444 : decode code 444 = .ok (.aload_n 0, 1) := by decide +kernel
theorem zd_L_law_445 : decode code 445 = .ok (.iload 4, 2) := by decide +kernel
theorem zd_L_law_447 : decode code 447 = .ok (.iconst 1, 1) := by decide +kernel
theorem zd_L_law_448 : decode code 448 = .ok (.iadd, 1) := by decide +kernel
theorem zd_L_law_449 : decode code 449 = .ok (.iaload, 1) := by decide +kernel
theorem zd_L_law_450 : decode code 450 = .ok (.aload_n 0, 1) := by decide +kernel
theorem zd_L_law_451 : decode code 451 = .ok (.iload 4, 2) := by decide +kernel
theorem zd_L_law_453 : decode code 453 = .ok (.iconst 2, 1) := by decide +kernel
theorem zd_L_law_454 : decode code 454 = .ok (.iadd, 1) := by decide +kernel
theorem zd_L_law_455 : decode code 455 = .ok (.iaload, 1) := by decide +kernel
theorem zd_L_law_456 : decode code 456 = .ok (.aload_n 0, 1) := by decide +kernel
theorem zd_L_law_457 : decode code 457 = .ok (.iload 4, 2) := by decide +kernel
theorem zd_L_law_459 : decode code 459 = .ok (.iconst 3, 1) := by decide +kernel
theorem zd_L_law_460 : decode code 460 = .ok (.iadd, 1) := by decide +kernel
theorem zd_L_law_461 : decode code 461 = .ok (.iaload, 1) := by decide +kernel
theorem zd_L_law_462 : decode code 462 = .ok (.aload_n 0, 1) := by decide +kernel
theorem zd_L_law_463 : decode code 463 = .ok (.iload 4, 2) := by decide +kernel
theorem zd_L_law_465 : decode code 465 = .ok (.iconst 4, 1) := by decide +kernel
theorem zd_L_law_466 : decode code 466 = .ok (.iadd, 1) := by decide +kernel
theorem zd_L_law_467 : decode code 467 = .ok (.iaload, 1) := by decide +kernel
theorem zd_L_law_468 : decode code 468 = .ok (.invokestatic 117, 3) := by decide +kernel
theorem zd_L_law_471 : decode code 471 = .ok (.istore 5, 2) := by decide +kernel
theorem zd_L_law_473 : decode code 473 = .ok (.aload_n 2, 1) := by decide +kernel
theorem zd_L_law_474 : decode code 474 = .ok (.aload_n 0, 1) := by decide +kernel
theorem zd_L_law_475 : decode code 475 = .ok (.iload 4, 2) := by decide +kernel
theorem zd_L_law_477 : decode code 477 = .ok (.iconst 1, 1) := by decide +kernel
theorem zd_L_law_478 : decode code 478 = .ok (.iadd, 1) := by decide +kernel
theorem zd_L_law_479 : decode code 479 = .ok (.iaload, 1) := by decide +kernel
theorem zd_L_law_480 : decode code 480 = .ok (.aload_n 0, 1) := by decide +kernel
theorem zd_L_law_481 : decode code 481 = .ok (.iload 4, 2) := by decide +kernel
theorem zd_L_law_483 : decode code 483 = .ok (.iconst 2, 1) := by decide +kernel
theorem zd_L_law_484 : decode code 484 = .ok (.iadd, 1) := by decide +kernel
theorem zd_L_law_485 : decode code 485 = .ok (.iaload, 1) := by decide +kernel
theorem zd_L_law_486 : decode code 486 = .ok (.aload_n 0, 1) := by decide +kernel
theorem zd_L_law_487 : decode code 487 = .ok (.iload 4, 2) := by decide +kernel
theorem zd_L_law_489 : decode code 489 = .ok (.iconst 3, 1) := by decide +kernel
theorem zd_L_law_490 : decode code 490 = .ok (.iadd, 1) := by decide +kernel
theorem zd_L_law_491 : decode code 491 = .ok (.iaload, 1) := by decide +kernel
theorem zd_L_law_492 : decode code 492 = .ok (.aload_n 0, 1) := by decide +kernel
theorem zd_L_law_493 : decode code 493 = .ok (.iload 4, 2) := by decide +kernel
theorem zd_L_law_495 : decode code 495 = .ok (.iconst 4, 1) := by decide +kernel
theorem zd_L_law_496 : decode code 496 = .ok (.iadd, 1) := by decide +kernel
theorem zd_L_law_497 : decode code 497 = .ok (.iaload, 1) := by decide +kernel
theorem zd_L_law_498 : decode code 498 = .ok (.invokevirtual 120, 3) := by decide +kernel
theorem zd_L_law_501 : decode code 501 = .ok (.aload_n 2, 1) := by decide +kernel
theorem zd_L_law_502 : decode code 502 = .ok (.invokevirtual 102, 3) := by decide +kernel
theorem zd_L_law_505 : decode code 505 = .ok (.iload 5, 2) := by decide +kernel
theorem zd_L_law_507 : decode code 507 = .ok (.if_icmp .eq 5, 3) := by decide +kernel
theorem zd_L_law_510 : decode code 510 = .ok (.iconst 0, 1) := by decide +kernel
theorem zd_L_law_511 : decode code 511 = .ok (.ireturn, 1) := by decide +kernel
theorem zd_L_law_512 : decode code 512 = .ok (.goto 1396, 3) := by decide +kernel
theorem zd_L_law_515 : decode code 515 = .ok (.aload_n 1, 1) := by decide +kernel
theorem zd_L_law_516 : decode code 516 = .ok (.aload_n 0, 1) := by decide +kernel
theorem zd_L_law_517 : decode code 517 = .ok (.iload 4, 2) := by decide +kernel
theorem zd_L_law_519 : decode code 519 = .ok (.iconst 1, 1) := by decide +kernel
theorem zd_L_law_520 : decode code 520 = .ok (.iadd, 1) := by decide +kernel
theorem zd_L_law_521 : decode code 521 = .ok (.iaload, 1) := by decide +kernel
theorem zd_L_law_522 : decode code 522 = .ok (.aload_n 0, 1) := by decide +kernel
theorem zd_L_law_523 : decode code 523 = .ok (.iload 4, 2) := by decide +kernel
theorem zd_L_law_525 : decode code 525 = .ok (.iconst 2, 1) := by decide +kernel
theorem zd_L_law_526 : decode code 526 = .ok (.iadd, 1) := by decide +kernel
theorem zd_L_law_527 : decode code 527 = .ok (.iaload, 1) := by decide +kernel
theorem zd_L_law_528 : decode code 528 = .ok (.aload_n 0, 1) := by decide +kernel
theorem zd_L_law_529 : decode code 529 = .ok (.iload 4, 2) := by decide +kernel
theorem zd_L_law_531 : decode code 531 = .ok (.iconst 3, 1) := by decide +kernel
theorem zd_L_law_532 : decode code 532 = .ok (.iadd, 1) := by decide +kernel
theorem zd_L_law_533 : decode code 533 = .ok (.iaload, 1) := by decide +kernel
theorem zd_L_law_534 : decode code 534 = .ok (.aload_n 3, 1) := by decide +kernel
theorem zd_L_law_535 : decode code 535 = .ok (.invokestatic 121, 3) := by decide +kernel
theorem zd_L_law_538 : decode code 538 = .ok (.istore 5, 2) := by decide +kernel
theorem zd_L_law_540 : decode code 540 = .ok (.aload_n 2, 1) := by decide +kernel
theorem zd_L_law_541 : decode code 541 = .ok (.aload_n 0, 1) := by decide +kernel
theorem zd_L_law_542 : decode code 542 = .ok (.iload 4, 2) := by decide +kernel
theorem zd_L_law_544 : decode code 544 = .ok (.iconst 1, 1) := by decide +kernel
theorem zd_L_law_545 : decode code 545 = .ok (.iadd, 1) := by decide +kernel
theorem zd_L_law_546 : decode code 546 = .ok (.iaload, 1) := by decide +kernel
theorem zd_L_law_547 : decode code 547 = .ok (.aload_n 0, 1) := by decide +kernel
theorem zd_L_law_548 : decode code 548 = .ok (.iload 4, 2) := by decide +kernel
theorem zd_L_law_550 : decode code 550 = .ok (.iconst 2, 1) := by decide +kernel
theorem zd_L_law_551 : decode code 551 = .ok (.iadd, 1) := by decide +kernel
theorem zd_L_law_552 : decode code 552 = .ok (.iaload, 1) := by decide +kernel
theorem zd_L_law_553 : decode code 553 = .ok (.aload_n 0, 1) := by decide +kernel
theorem zd_L_law_554 : decode code 554 = .ok (.iload 4, 2) := by decide +kernel
theorem zd_L_law_556 : decode code 556 = .ok (.iconst 3, 1) := by decide +kernel
theorem zd_L_law_557 : decode code 557 = .ok (.iadd, 1) := by decide +kernel
theorem zd_L_law_558 : decode code 558 = .ok (.iaload, 1) := by decide +kernel
theorem zd_L_law_559 : decode code 559 = .ok (.invokevirtual 124, 3) := by decide +kernel
theorem zd_L_law_562 : decode code 562 = .ok (.istore 6, 2) := by decide +kernel
theorem zd_L_law_564 : decode code 564 = .ok (.aload_n 2, 1) := by decide +kernel
theorem zd_L_law_565 : decode code 565 = .ok (.invokevirtual 102, 3) := by decide +kernel
theorem zd_L_law_568 : decode code 568 = .ok (.iload 5, 2) := by decide +kernel
theorem zd_L_law_570 : decode code 570 = .ok (.if_icmp .eq 5, 3) := by decide +kernel
theorem zd_L_law_573 : decode code 573 = .ok (.iconst 0, 1) := by decide +kernel
theorem zd_L_law_574 : decode code 574 = .ok (.ireturn, 1) := by decide +kernel
theorem zd_L_law_575 : decode code 575 = .ok (.iload 5, 2) := by decide +kernel
theorem zd_L_law_577 : decode code 577 = .ok (.ifCond .ne 15, 3) := by decide +kernel
theorem zd_L_law_580 : decode code 580 = .ok (.aload_n 3, 1) := by decide +kernel
theorem zd_L_law_581 : decode code 581 = .ok (.iconst 0, 1) := by decide +kernel
theorem zd_L_law_582 : decode code 582 = .ok (.laload, 1) := by decide +kernel
theorem zd_L_law_583 : decode code 583 = .ok (.iload 6, 2) := by decide +kernel
theorem zd_L_law_585 : decode code 585 = .ok (.i2l, 1) := by decide +kernel
theorem zd_L_law_586 : decode code 586 = .ok (.lcmp, 1) := by decide +kernel
theorem zd_L_law_587 : decode code 587 = .ok (.ifCond .eq 5, 3) := by decide +kernel
theorem zd_L_law_590 : decode code 590 = .ok (.iconst 0, 1) := by decide +kernel
theorem zd_L_law_591 : decode code 591 = .ok (.ireturn, 1) := by decide +kernel
theorem zd_L_law_592 : decode code 592 = .ok (.goto 1316, 3) := by decide +kernel
theorem zd_L_law_595 : decode code 595 = .ok (.aload_n 1, 1) := by decide +kernel
theorem zd_L_law_596 : decode code 596 = .ok (.aload_n 0, 1) := by decide +kernel
theorem zd_L_law_597 : decode code 597 = .ok (.iload 4, 2) := by decide +kernel
theorem zd_L_law_599 : decode code 599 = .ok (.iconst 1, 1) := by decide +kernel
theorem zd_L_law_600 : decode code 600 = .ok (.iadd, 1) := by decide +kernel
theorem zd_L_law_601 : decode code 601 = .ok (.iaload, 1) := by decide +kernel
theorem zd_L_law_602 : decode code 602 = .ok (.aload_n 0, 1) := by decide +kernel
theorem zd_L_law_603 : decode code 603 = .ok (.iload 4, 2) := by decide +kernel
theorem zd_L_law_605 : decode code 605 = .ok (.iconst 2, 1) := by decide +kernel
theorem zd_L_law_606 : decode code 606 = .ok (.iadd, 1) := by decide +kernel
theorem zd_L_law_607 : decode code 607 = .ok (.iaload, 1) := by decide +kernel
theorem zd_L_law_608 : decode code 608 = .ok (.aload_n 0, 1) := by decide +kernel
theorem zd_L_law_609 : decode code 609 = .ok (.iload 4, 2) := by decide +kernel
theorem zd_L_law_611 : decode code 611 = .ok (.iconst 3, 1) := by decide +kernel
theorem zd_L_law_612 : decode code 612 = .ok (.iadd, 1) := by decide +kernel
theorem zd_L_law_613 : decode code 613 = .ok (.iaload, 1) := by decide +kernel
theorem zd_L_law_614 : decode code 614 = .ok (.aload_n 0, 1) := by decide +kernel
theorem zd_L_law_615 : decode code 615 = .ok (.iload 4, 2) := by decide +kernel
theorem zd_L_law_617 : decode code 617 = .ok (.iconst 4, 1) := by decide +kernel
theorem zd_L_law_618 : decode code 618 = .ok (.iadd, 1) := by decide +kernel
theorem zd_L_law_619 : decode code 619 = .ok (.iaload, 1) := by decide +kernel
theorem zd_L_law_620 : decode code 620 = .ok (.aload_n 3, 1) := by decide +kernel
theorem zd_L_law_621 : decode code 621 = .ok (.invokestatic 125, 3) := by decide +kernel
theorem zd_L_law_624 : decode code 624 = .ok (.istore 5, 2) := by decide +kernel
theorem zd_L_law_626 : decode code 626 = .ok (.aload_n 2, 1) := by decide +kernel
theorem zd_L_law_627 : decode code 627 = .ok (.aload_n 0, 1) := by decide +kernel
theorem zd_L_law_628 : decode code 628 = .ok (.iload 4, 2) := by decide +kernel
theorem zd_L_law_630 : decode code 630 = .ok (.iconst 1, 1) := by decide +kernel
theorem zd_L_law_631 : decode code 631 = .ok (.iadd, 1) := by decide +kernel
theorem zd_L_law_632 : decode code 632 = .ok (.iaload, 1) := by decide +kernel
theorem zd_L_law_633 : decode code 633 = .ok (.aload_n 0, 1) := by decide +kernel
theorem zd_L_law_634 : decode code 634 = .ok (.iload 4, 2) := by decide +kernel
theorem zd_L_law_636 : decode code 636 = .ok (.iconst 2, 1) := by decide +kernel
theorem zd_L_law_637 : decode code 637 = .ok (.iadd, 1) := by decide +kernel
theorem zd_L_law_638 : decode code 638 = .ok (.iaload, 1) := by decide +kernel
theorem zd_L_law_639 : decode code 639 = .ok (.aload_n 0, 1) := by decide +kernel
theorem zd_L_law_640 : decode code 640 = .ok (.iload 4, 2) := by decide +kernel
theorem zd_L_law_642 : decode code 642 = .ok (.iconst 3, 1) := by decide +kernel
theorem zd_L_law_643 : decode code 643 = .ok (.iadd, 1) := by decide +kernel
theorem zd_L_law_644 : decode code 644 = .ok (.iaload, 1) := by decide +kernel
theorem zd_L_law_645 : decode code 645 = .ok (.aload_n 0, 1) := by decide +kernel
theorem zd_L_law_646 : decode code 646 = .ok (.iload 4, 2) := by decide +kernel
theorem zd_L_law_648 : decode code 648 = .ok (.iconst 4, 1) := by decide +kernel
theorem zd_L_law_649 : decode code 649 = .ok (.iadd, 1) := by decide +kernel
theorem zd_L_law_650 : decode code 650 = .ok (.iaload, 1) := by decide +kernel
theorem zd_L_law_651 : decode code 651 = .ok (.invokevirtual 128, 3) := by decide +kernel
theorem zd_L_law_654 : decode code 654 = .ok (.istore 6, 2) := by decide +kernel
theorem zd_L_law_656 : decode code 656 = .ok (.aload_n 2, 1) := by decide +kernel
theorem zd_L_law_657 : decode code 657 = .ok (.invokevirtual 102, 3) := by decide +kernel
theorem zd_L_law_660 : decode code 660 = .ok (.iload 5, 2) := by decide +kernel
theorem zd_L_law_662 : decode code 662 = .ok (.if_icmp .eq 5, 3) := by decide +kernel
theorem zd_L_law_665 : decode code 665 = .ok (.iconst 0, 1) := by decide +kernel
theorem zd_L_law_666 : decode code 666 = .ok (.ireturn, 1) := by decide +kernel
theorem zd_L_law_667 : decode code 667 = .ok (.iload 5, 2) := by decide +kernel
theorem zd_L_law_669 : decode code 669 = .ok (.ifCond .ne 15, 3) := by decide +kernel
theorem zd_L_law_672 : decode code 672 = .ok (.aload_n 3, 1) := by decide +kernel
theorem zd_L_law_673 : decode code 673 = .ok (.iconst 0, 1) := by decide +kernel
theorem zd_L_law_674 : decode code 674 = .ok (.laload, 1) := by decide +kernel
theorem zd_L_law_675 : decode code 675 = .ok (.iload 6, 2) := by decide +kernel
theorem zd_L_law_677 : decode code 677 = .ok (.i2l, 1) := by decide +kernel
theorem zd_L_law_678 : decode code 678 = .ok (.lcmp, 1) := by decide +kernel
theorem zd_L_law_679 : decode code 679 = .ok (.ifCond .eq 5, 3) := by decide +kernel
theorem zd_L_law_682 : decode code 682 = .ok (.iconst 0, 1) := by decide +kernel
theorem zd_L_law_683 : decode code 683 = .ok (.ireturn, 1) := by decide +kernel
theorem zd_L_law_684 : decode code 684 = .ok (.goto 1224, 3) := by decide +kernel
theorem zd_L_law_687 : decode code 687 = .ok (.aload_n 1, 1) := by decide +kernel
theorem zd_L_law_688 : decode code 688 = .ok (.aload_n 0, 1) := by decide +kernel
theorem zd_L_law_689 : decode code 689 = .ok (.iload 4, 2) := by decide +kernel
theorem zd_L_law_691 : decode code 691 = .ok (.iconst 1, 1) := by decide +kernel
theorem zd_L_law_692 : decode code 692 = .ok (.iadd, 1) := by decide +kernel
theorem zd_L_law_693 : decode code 693 = .ok (.iaload, 1) := by decide +kernel
theorem zd_L_law_694 : decode code 694 = .ok (.aload_n 0, 1) := by decide +kernel
theorem zd_L_law_695 : decode code 695 = .ok (.iload 4, 2) := by decide +kernel
theorem zd_L_law_697 : decode code 697 = .ok (.iconst 2, 1) := by decide +kernel
theorem zd_L_law_698 : decode code 698 = .ok (.iadd, 1) := by decide +kernel
theorem zd_L_law_699 : decode code 699 = .ok (.iaload, 1) := by decide +kernel
theorem zd_L_law_700 : decode code 700 = .ok (.aload_n 0, 1) := by decide +kernel
theorem zd_L_law_701 : decode code 701 = .ok (.iload 4, 2) := by decide +kernel
theorem zd_L_law_703 : decode code 703 = .ok (.iconst 3, 1) := by decide +kernel
theorem zd_L_law_704 : decode code 704 = .ok (.iadd, 1) := by decide +kernel
theorem zd_L_law_705 : decode code 705 = .ok (.iaload, 1) := by decide +kernel
theorem zd_L_law_706 : decode code 706 = .ok (.aload_n 0, 1) := by decide +kernel
theorem zd_L_law_707 : decode code 707 = .ok (.iload 4, 2) := by decide +kernel
theorem zd_L_law_709 : decode code 709 = .ok (.iconst 4, 1) := by decide +kernel
theorem zd_L_law_710 : decode code 710 = .ok (.iadd, 1) := by decide +kernel
theorem zd_L_law_711 : decode code 711 = .ok (.iaload, 1) := by decide +kernel
theorem zd_L_law_712 : decode code 712 = .ok (.aload_n 3, 1) := by decide +kernel
theorem zd_L_law_713 : decode code 713 = .ok (.invokestatic 129, 3) := by decide +kernel
theorem zd_L_law_716 : decode code 716 = .ok (.istore 5, 2) := by decide +kernel
theorem zd_L_law_718 : decode code 718 = .ok (.aload_n 2, 1) := by decide +kernel
theorem zd_L_law_719 : decode code 719 = .ok (.aload_n 0, 1) := by decide +kernel
theorem zd_L_law_720 : decode code 720 = .ok (.iload 4, 2) := by decide +kernel
theorem zd_L_law_722 : decode code 722 = .ok (.iconst 1, 1) := by decide +kernel
theorem zd_L_law_723 : decode code 723 = .ok (.iadd, 1) := by decide +kernel
theorem zd_L_law_724 : decode code 724 = .ok (.iaload, 1) := by decide +kernel
theorem zd_L_law_725 : decode code 725 = .ok (.aload_n 0, 1) := by decide +kernel
theorem zd_L_law_726 : decode code 726 = .ok (.iload 4, 2) := by decide +kernel
theorem zd_L_law_728 : decode code 728 = .ok (.iconst 2, 1) := by decide +kernel
theorem zd_L_law_729 : decode code 729 = .ok (.iadd, 1) := by decide +kernel
theorem zd_L_law_730 : decode code 730 = .ok (.iaload, 1) := by decide +kernel
theorem zd_L_law_731 : decode code 731 = .ok (.aload_n 0, 1) := by decide +kernel
theorem zd_L_law_732 : decode code 732 = .ok (.iload 4, 2) := by decide +kernel
theorem zd_L_law_734 : decode code 734 = .ok (.iconst 3, 1) := by decide +kernel
theorem zd_L_law_735 : decode code 735 = .ok (.iadd, 1) := by decide +kernel
theorem zd_L_law_736 : decode code 736 = .ok (.iaload, 1) := by decide +kernel
theorem zd_L_law_737 : decode code 737 = .ok (.aload_n 0, 1) := by decide +kernel
theorem zd_L_law_738 : decode code 738 = .ok (.iload 4, 2) := by decide +kernel
theorem zd_L_law_740 : decode code 740 = .ok (.iconst 4, 1) := by decide +kernel
theorem zd_L_law_741 : decode code 741 = .ok (.iadd, 1) := by decide +kernel
theorem zd_L_law_742 : decode code 742 = .ok (.iaload, 1) := by decide +kernel
theorem zd_L_law_743 : decode code 743 = .ok (.invokevirtual 131, 3) := by decide +kernel
theorem zd_L_law_746 : decode code 746 = .ok (.istore 6, 2) := by decide +kernel
theorem zd_L_law_748 : decode code 748 = .ok (.aload_n 2, 1) := by decide +kernel
theorem zd_L_law_749 : decode code 749 = .ok (.invokevirtual 102, 3) := by decide +kernel
theorem zd_L_law_752 : decode code 752 = .ok (.iload 5, 2) := by decide +kernel
theorem zd_L_law_754 : decode code 754 = .ok (.if_icmp .eq 5, 3) := by decide +kernel
theorem zd_L_law_757 : decode code 757 = .ok (.iconst 0, 1) := by decide +kernel
theorem zd_L_law_758 : decode code 758 = .ok (.ireturn, 1) := by decide +kernel
theorem zd_L_law_759 : decode code 759 = .ok (.iload 5, 2) := by decide +kernel
theorem zd_L_law_761 : decode code 761 = .ok (.ifCond .ne 15, 3) := by decide +kernel
theorem zd_L_law_764 : decode code 764 = .ok (.aload_n 3, 1) := by decide +kernel
theorem zd_L_law_765 : decode code 765 = .ok (.iconst 0, 1) := by decide +kernel
theorem zd_L_law_766 : decode code 766 = .ok (.laload, 1) := by decide +kernel
theorem zd_L_law_767 : decode code 767 = .ok (.iload 6, 2) := by decide +kernel
theorem zd_L_law_769 : decode code 769 = .ok (.i2l, 1) := by decide +kernel
theorem zd_L_law_770 : decode code 770 = .ok (.lcmp, 1) := by decide +kernel
theorem zd_L_law_771 : decode code 771 = .ok (.ifCond .eq 5, 3) := by decide +kernel
theorem zd_L_law_774 : decode code 774 = .ok (.iconst 0, 1) := by decide +kernel
theorem zd_L_law_775 : decode code 775 = .ok (.ireturn, 1) := by decide +kernel
theorem zd_L_law_776 : decode code 776 = .ok (.goto 1132, 3) := by decide +kernel
theorem zd_L_law_779 : decode code 779 = .ok (.aload_n 1, 1) := by decide +kernel
theorem zd_L_law_780 : decode code 780 = .ok (.aload_n 0, 1) := by decide +kernel
theorem zd_L_law_781 : decode code 781 = .ok (.iload 4, 2) := by decide +kernel
theorem zd_L_law_783 : decode code 783 = .ok (.iconst 1, 1) := by decide +kernel
theorem zd_L_law_784 : decode code 784 = .ok (.iadd, 1) := by decide +kernel
theorem zd_L_law_785 : decode code 785 = .ok (.iaload, 1) := by decide +kernel
theorem zd_L_law_786 : decode code 786 = .ok (.aload_n 0, 1) := by decide +kernel
theorem zd_L_law_787 : decode code 787 = .ok (.iload 4, 2) := by decide +kernel
theorem zd_L_law_789 : decode code 789 = .ok (.iconst 2, 1) := by decide +kernel
theorem zd_L_law_790 : decode code 790 = .ok (.iadd, 1) := by decide +kernel
theorem zd_L_law_791 : decode code 791 = .ok (.iaload, 1) := by decide +kernel
theorem zd_L_law_792 : decode code 792 = .ok (.aload_n 0, 1) := by decide +kernel
theorem zd_L_law_793 : decode code 793 = .ok (.iload 4, 2) := by decide +kernel
theorem zd_L_law_795 : decode code 795 = .ok (.iconst 3, 1) := by decide +kernel
theorem zd_L_law_796 : decode code 796 = .ok (.iadd, 1) := by decide +kernel
theorem zd_L_law_797 : decode code 797 = .ok (.iaload, 1) := by decide +kernel
theorem zd_L_law_798 : decode code 798 = .ok (.aload_n 3, 1) := by decide +kernel
theorem zd_L_law_799 : decode code 799 = .ok (.invokestatic 132, 3) := by decide +kernel
theorem zd_L_law_802 : decode code 802 = .ok (.istore 5, 2) := by decide +kernel
theorem zd_L_law_804 : decode code 804 = .ok (.aload_n 2, 1) := by decide +kernel
theorem zd_L_law_805 : decode code 805 = .ok (.aload_n 0, 1) := by decide +kernel
theorem zd_L_law_806 : decode code 806 = .ok (.iload 4, 2) := by decide +kernel
theorem zd_L_law_808 : decode code 808 = .ok (.iconst 1, 1) := by decide +kernel
theorem zd_L_law_809 : decode code 809 = .ok (.iadd, 1) := by decide +kernel
theorem zd_L_law_810 : decode code 810 = .ok (.iaload, 1) := by decide +kernel
theorem zd_L_law_811 : decode code 811 = .ok (.aload_n 0, 1) := by decide +kernel
theorem zd_L_law_812 : decode code 812 = .ok (.iload 4, 2) := by decide +kernel
theorem zd_L_law_814 : decode code 814 = .ok (.iconst 2, 1) := by decide +kernel
theorem zd_L_law_815 : decode code 815 = .ok (.iadd, 1) := by decide +kernel
theorem zd_L_law_816 : decode code 816 = .ok (.iaload, 1) := by decide +kernel
theorem zd_L_law_817 : decode code 817 = .ok (.aload_n 0, 1) := by decide +kernel
theorem zd_L_law_818 : decode code 818 = .ok (.iload 4, 2) := by decide +kernel
theorem zd_L_law_820 : decode code 820 = .ok (.iconst 3, 1) := by decide +kernel
theorem zd_L_law_821 : decode code 821 = .ok (.iadd, 1) := by decide +kernel
theorem zd_L_law_822 : decode code 822 = .ok (.iaload, 1) := by decide +kernel
theorem zd_L_law_823 : decode code 823 = .ok (.invokevirtual 134, 3) := by decide +kernel
theorem zd_L_law_826 : decode code 826 = .ok (.istore 6, 2) := by decide +kernel
theorem zd_L_law_828 : decode code 828 = .ok (.aload_n 2, 1) := by decide +kernel
theorem zd_L_law_829 : decode code 829 = .ok (.invokevirtual 102, 3) := by decide +kernel
theorem zd_L_law_832 : decode code 832 = .ok (.iload 5, 2) := by decide +kernel
theorem zd_L_law_834 : decode code 834 = .ok (.if_icmp .eq 5, 3) := by decide +kernel
theorem zd_L_law_837 : decode code 837 = .ok (.iconst 0, 1) := by decide +kernel
theorem zd_L_law_838 : decode code 838 = .ok (.ireturn, 1) := by decide +kernel
theorem zd_L_law_839 : decode code 839 = .ok (.iload 5, 2) := by decide +kernel
theorem zd_L_law_841 : decode code 841 = .ok (.ifCond .ne 15, 3) := by decide +kernel
theorem zd_L_law_844 : decode code 844 = .ok (.aload_n 3, 1) := by decide +kernel
theorem zd_L_law_845 : decode code 845 = .ok (.iconst 0, 1) := by decide +kernel
theorem zd_L_law_846 : decode code 846 = .ok (.laload, 1) := by decide +kernel
theorem zd_L_law_847 : decode code 847 = .ok (.iload 6, 2) := by decide +kernel
theorem zd_L_law_849 : decode code 849 = .ok (.i2l, 1) := by decide +kernel
theorem zd_L_law_850 : decode code 850 = .ok (.lcmp, 1) := by decide +kernel
theorem zd_L_law_851 : decode code 851 = .ok (.ifCond .eq 5, 3) := by decide +kernel
theorem zd_L_law_854 : decode code 854 = .ok (.iconst 0, 1) := by decide +kernel
theorem zd_L_law_855 : decode code 855 = .ok (.ireturn, 1) := by decide +kernel
theorem zd_L_law_856 : decode code 856 = .ok (.goto 1052, 3) := by decide +kernel
theorem zd_L_law_859 : decode code 859 = .ok (.aload_n 1, 1) := by decide +kernel
theorem zd_L_law_860 : decode code 860 = .ok (.aload_n 0, 1) := by decide +kernel
theorem zd_L_law_861 : decode code 861 = .ok (.iload 4, 2) := by decide +kernel
theorem zd_L_law_863 : decode code 863 = .ok (.iconst 1, 1) := by decide +kernel
theorem zd_L_law_864 : decode code 864 = .ok (.iadd, 1) := by decide +kernel
theorem zd_L_law_865 : decode code 865 = .ok (.iaload, 1) := by decide +kernel
theorem zd_L_law_866 : decode code 866 = .ok (.aload_n 0, 1) := by decide +kernel
theorem zd_L_law_867 : decode code 867 = .ok (.iload 4, 2) := by decide +kernel
theorem zd_L_law_869 : decode code 869 = .ok (.iconst 2, 1) := by decide +kernel
theorem zd_L_law_870 : decode code 870 = .ok (.iadd, 1) := by decide +kernel
theorem zd_L_law_871 : decode code 871 = .ok (.iaload, 1) := by decide +kernel
theorem zd_L_law_872 : decode code 872 = .ok (.aload_n 0, 1) := by decide +kernel
theorem zd_L_law_873 : decode code 873 = .ok (.iload 4, 2) := by decide +kernel
theorem zd_L_law_875 : decode code 875 = .ok (.iconst 3, 1) := by decide +kernel
theorem zd_L_law_876 : decode code 876 = .ok (.iadd, 1) := by decide +kernel
theorem zd_L_law_877 : decode code 877 = .ok (.iaload, 1) := by decide +kernel
theorem zd_L_law_878 : decode code 878 = .ok (.aload_n 3, 1) := by decide +kernel
theorem zd_L_law_879 : decode code 879 = .ok (.invokestatic 135, 3) := by decide +kernel
theorem zd_L_law_882 : decode code 882 = .ok (.istore 5, 2) := by decide +kernel
theorem zd_L_law_884 : decode code 884 = .ok (.aload_n 2, 1) := by decide +kernel
theorem zd_L_law_885 : decode code 885 = .ok (.aload_n 0, 1) := by decide +kernel
theorem zd_L_law_886 : decode code 886 = .ok (.iload 4, 2) := by decide +kernel
theorem zd_L_law_888 : decode code 888 = .ok (.iconst 1, 1) := by decide +kernel
theorem zd_L_law_889 : decode code 889 = .ok (.iadd, 1) := by decide +kernel
theorem zd_L_law_890 : decode code 890 = .ok (.iaload, 1) := by decide +kernel
theorem zd_L_law_891 : decode code 891 = .ok (.aload_n 0, 1) := by decide +kernel
theorem zd_L_law_892 : decode code 892 = .ok (.iload 4, 2) := by decide +kernel
theorem zd_L_law_894 : decode code 894 = .ok (.iconst 2, 1) := by decide +kernel
theorem zd_L_law_895 : decode code 895 = .ok (.iadd, 1) := by decide +kernel
theorem zd_L_law_896 : decode code 896 = .ok (.iaload, 1) := by decide +kernel
theorem zd_L_law_897 : decode code 897 = .ok (.aload_n 0, 1) := by decide +kernel
theorem zd_L_law_898 : decode code 898 = .ok (.iload 4, 2) := by decide +kernel
theorem zd_L_law_900 : decode code 900 = .ok (.iconst 3, 1) := by decide +kernel
theorem zd_L_law_901 : decode code 901 = .ok (.iadd, 1) := by decide +kernel
theorem zd_L_law_902 : decode code 902 = .ok (.iaload, 1) := by decide +kernel
theorem zd_L_law_903 : decode code 903 = .ok (.invokevirtual 137, 3) := by decide +kernel
theorem zd_L_law_906 : decode code 906 = .ok (.istore 6, 2) := by decide +kernel
theorem zd_L_law_908 : decode code 908 = .ok (.aload_n 2, 1) := by decide +kernel
theorem zd_L_law_909 : decode code 909 = .ok (.invokevirtual 102, 3) := by decide +kernel
theorem zd_L_law_912 : decode code 912 = .ok (.iload 5, 2) := by decide +kernel
theorem zd_L_law_914 : decode code 914 = .ok (.if_icmp .eq 5, 3) := by decide +kernel
theorem zd_L_law_917 : decode code 917 = .ok (.iconst 0, 1) := by decide +kernel
theorem zd_L_law_918 : decode code 918 = .ok (.ireturn, 1) := by decide +kernel
theorem zd_L_law_919 : decode code 919 = .ok (.iload 5, 2) := by decide +kernel
theorem zd_L_law_921 : decode code 921 = .ok (.ifCond .ne 15, 3) := by decide +kernel
theorem zd_L_law_924 : decode code 924 = .ok (.aload_n 3, 1) := by decide +kernel
theorem zd_L_law_925 : decode code 925 = .ok (.iconst 0, 1) := by decide +kernel
theorem zd_L_law_926 : decode code 926 = .ok (.laload, 1) := by decide +kernel
theorem zd_L_law_927 : decode code 927 = .ok (.iload 6, 2) := by decide +kernel
theorem zd_L_law_929 : decode code 929 = .ok (.i2l, 1) := by decide +kernel
theorem zd_L_law_930 : decode code 930 = .ok (.lcmp, 1) := by decide +kernel
theorem zd_L_law_931 : decode code 931 = .ok (.ifCond .eq 5, 3) := by decide +kernel
theorem zd_L_law_934 : decode code 934 = .ok (.iconst 0, 1) := by decide +kernel
theorem zd_L_law_935 : decode code 935 = .ok (.ireturn, 1) := by decide +kernel
theorem zd_L_law_936 : decode code 936 = .ok (.goto 972, 3) := by decide +kernel
theorem zd_L_law_939 : decode code 939 = .ok (.aload_n 1, 1) := by decide +kernel
theorem zd_L_law_940 : decode code 940 = .ok (.aload_n 0, 1) := by decide +kernel
theorem zd_L_law_941 : decode code 941 = .ok (.iload 4, 2) := by decide +kernel
theorem zd_L_law_943 : decode code 943 = .ok (.iconst 1, 1) := by decide +kernel
theorem zd_L_law_944 : decode code 944 = .ok (.iadd, 1) := by decide +kernel
theorem zd_L_law_945 : decode code 945 = .ok (.iaload, 1) := by decide +kernel
theorem zd_L_law_946 : decode code 946 = .ok (.aload_n 0, 1) := by decide +kernel
theorem zd_L_law_947 : decode code 947 = .ok (.iload 4, 2) := by decide +kernel
theorem zd_L_law_949 : decode code 949 = .ok (.iconst 2, 1) := by decide +kernel
theorem zd_L_law_950 : decode code 950 = .ok (.iadd, 1) := by decide +kernel
theorem zd_L_law_951 : decode code 951 = .ok (.iaload, 1) := by decide +kernel
theorem zd_L_law_952 : decode code 952 = .ok (.aload_n 0, 1) := by decide +kernel
theorem zd_L_law_953 : decode code 953 = .ok (.iload 4, 2) := by decide +kernel
theorem zd_L_law_955 : decode code 955 = .ok (.iconst 3, 1) := by decide +kernel
theorem zd_L_law_956 : decode code 956 = .ok (.iadd, 1) := by decide +kernel
theorem zd_L_law_957 : decode code 957 = .ok (.iaload, 1) := by decide +kernel
theorem zd_L_law_958 : decode code 958 = .ok (.aload_n 3, 1) := by decide +kernel
theorem zd_L_law_959 : decode code 959 = .ok (.invokestatic 138, 3) := by decide +kernel
theorem zd_L_law_962 : decode code 962 = .ok (.istore 5, 2) := by decide +kernel
theorem zd_L_law_964 : decode code 964 = .ok (.aload_n 2, 1) := by decide +kernel
theorem zd_L_law_965 : decode code 965 = .ok (.aload_n 0, 1) := by decide +kernel
theorem zd_L_law_966 : decode code 966 = .ok (.iload 4, 2) := by decide +kernel
theorem zd_L_law_968 : decode code 968 = .ok (.iconst 1, 1) := by decide +kernel
theorem zd_L_law_969 : decode code 969 = .ok (.iadd, 1) := by decide +kernel
theorem zd_L_law_970 : decode code 970 = .ok (.iaload, 1) := by decide +kernel
theorem zd_L_law_971 : decode code 971 = .ok (.aload_n 0, 1) := by decide +kernel
theorem zd_L_law_972 : decode code 972 = .ok (.iload 4, 2) := by decide +kernel
theorem zd_L_law_974 : decode code 974 = .ok (.iconst 2, 1) := by decide +kernel
theorem zd_L_law_975 : decode code 975 = .ok (.iadd, 1) := by decide +kernel
theorem zd_L_law_976 : decode code 976 = .ok (.iaload, 1) := by decide +kernel
theorem zd_L_law_977 : decode code 977 = .ok (.aload_n 0, 1) := by decide +kernel
theorem zd_L_law_978 : decode code 978 = .ok (.iload 4, 2) := by decide +kernel
theorem zd_L_law_980 : decode code 980 = .ok (.iconst 3, 1) := by decide +kernel
theorem zd_L_law_981 : decode code 981 = .ok (.iadd, 1) := by decide +kernel
theorem zd_L_law_982 : decode code 982 = .ok (.iaload, 1) := by decide +kernel
theorem zd_L_law_983 : decode code 983 = .ok (.invokevirtual 140, 3) := by decide +kernel
theorem zd_L_law_986 : decode code 986 = .ok (.istore 6, 2) := by decide +kernel
theorem zd_L_law_988 : decode code 988 = .ok (.aload_n 2, 1) := by decide +kernel
theorem zd_L_law_989 : decode code 989 = .ok (.invokevirtual 102, 3) := by decide +kernel
theorem zd_L_law_992 : decode code 992 = .ok (.iload 5, 2) := by decide +kernel
theorem zd_L_law_994 : decode code 994 = .ok (.if_icmp .eq 5, 3) := by decide +kernel
theorem zd_L_law_997 : decode code 997 = .ok (.iconst 0, 1) := by decide +kernel
theorem zd_L_law_998 : decode code 998 = .ok (.ireturn, 1) := by decide +kernel
theorem zd_L_law_999 : decode code 999 = .ok (.iload 5, 2) := by decide +kernel
theorem zd_L_law_1001 : decode code 1001 = .ok (.ifCond .ne 15, 3) := by decide +kernel
theorem zd_L_law_1004 : decode code 1004 = .ok (.aload_n 3, 1) := by decide +kernel
theorem zd_L_law_1005 : decode code 1005 = .ok (.iconst 0, 1) := by decide +kernel
theorem zd_L_law_1006 : decode code 1006 = .ok (.laload, 1) := by decide +kernel
theorem zd_L_law_1007 : decode code 1007 = .ok (.iload 6, 2) := by decide +kernel
theorem zd_L_law_1009 : decode code 1009 = .ok (.i2l, 1) := by decide +kernel
theorem zd_L_law_1010 : decode code 1010 = .ok (.lcmp, 1) := by decide +kernel
theorem zd_L_law_1011 : decode code 1011 = .ok (.ifCond .eq 5, 3) := by decide +kernel
theorem zd_L_law_1014 : decode code 1014 = .ok (.iconst 0, 1) := by decide +kernel
theorem zd_L_law_1015 : decode code 1015 = .ok (.ireturn, 1) := by decide +kernel
theorem zd_L_law_1016 : decode code 1016 = .ok (.goto 892, 3) := by decide +kernel
theorem zd_L_law_1019 : decode code 1019 = .ok (.aload_n 1, 1) := by decide +kernel
theorem zd_L_law_1020 : decode code 1020 = .ok (.aload_n 0, 1) := by decide +kernel
theorem zd_L_law_1021 : decode code 1021 = .ok (.iload 4, 2) := by decide +kernel
theorem zd_L_law_1023 : decode code 1023 = .ok (.iconst 1, 1) := by decide +kernel
theorem zd_L_law_1024 : decode code 1024 = .ok (.iadd, 1) := by decide +kernel
theorem zd_L_law_1025 : decode code 1025 = .ok (.iaload, 1) := by decide +kernel
theorem zd_L_law_1026 : decode code 1026 = .ok (.aload_n 0, 1) := by decide +kernel
theorem zd_L_law_1027 : decode code 1027 = .ok (.iload 4, 2) := by decide +kernel
theorem zd_L_law_1029 : decode code 1029 = .ok (.iconst 2, 1) := by decide +kernel
theorem zd_L_law_1030 : decode code 1030 = .ok (.iadd, 1) := by decide +kernel
theorem zd_L_law_1031 : decode code 1031 = .ok (.iaload, 1) := by decide +kernel
theorem zd_L_law_1032 : decode code 1032 = .ok (.invokestatic 141, 3) := by decide +kernel
theorem zd_L_law_1035 : decode code 1035 = .ok (.istore 5, 2) := by decide +kernel
theorem zd_L_law_1037 : decode code 1037 = .ok (.aload_n 2, 1) := by decide +kernel
theorem zd_L_law_1038 : decode code 1038 = .ok (.aload_n 0, 1) := by decide +kernel
theorem zd_L_law_1039 : decode code 1039 = .ok (.iload 4, 2) := by decide +kernel
theorem zd_L_law_1041 : decode code 1041 = .ok (.iconst 1, 1) := by decide +kernel
theorem zd_L_law_1042 : decode code 1042 = .ok (.iadd, 1) := by decide +kernel
theorem zd_L_law_1043 : decode code 1043 = .ok (.iaload, 1) := by decide +kernel
theorem zd_L_law_1044 : decode code 1044 = .ok (.aload_n 0, 1) := by decide +kernel
theorem zd_L_law_1045 : decode code 1045 = .ok (.iload 4, 2) := by decide +kernel
theorem zd_L_law_1047 : decode code 1047 = .ok (.iconst 2, 1) := by decide +kernel
theorem zd_L_law_1048 : decode code 1048 = .ok (.iadd, 1) := by decide +kernel
theorem zd_L_law_1049 : decode code 1049 = .ok (.iaload, 1) := by decide +kernel
theorem zd_L_law_1050 : decode code 1050 = .ok (.invokevirtual 144, 3) := by decide +kernel
theorem zd_L_law_1053 : decode code 1053 = .ok (.aload_n 2, 1) := by decide +kernel
theorem zd_L_law_1054 : decode code 1054 = .ok (.invokevirtual 102, 3) := by decide +kernel
theorem zd_L_law_1057 : decode code 1057 = .ok (.iload 5, 2) := by decide +kernel
theorem zd_L_law_1059 : decode code 1059 = .ok (.if_icmp .eq 5, 3) := by decide +kernel
theorem zd_L_law_1062 : decode code 1062 = .ok (.iconst 0, 1) := by decide +kernel
theorem zd_L_law_1063 : decode code 1063 = .ok (.ireturn, 1) := by decide +kernel
theorem zd_L_law_1064 : decode code 1064 = .ok (.goto 844, 3) := by decide +kernel
theorem zd_L_law_1067 : decode code 1067 = .ok (.aload_n 1, 1) := by decide +kernel
theorem zd_L_law_1068 : decode code 1068 = .ok (.aload_n 0, 1) := by decide +kernel
theorem zd_L_law_1069 : decode code 1069 = .ok (.iload 4, 2) := by decide +kernel
theorem zd_L_law_1071 : decode code 1071 = .ok (.iconst 1, 1) := by decide +kernel
theorem zd_L_law_1072 : decode code 1072 = .ok (.iadd, 1) := by decide +kernel
theorem zd_L_law_1073 : decode code 1073 = .ok (.iaload, 1) := by decide +kernel
theorem zd_L_law_1074 : decode code 1074 = .ok (.aload_n 0, 1) := by decide +kernel
theorem zd_L_law_1075 : decode code 1075 = .ok (.iload 4, 2) := by decide +kernel
theorem zd_L_law_1077 : decode code 1077 = .ok (.iconst 2, 1) := by decide +kernel
theorem zd_L_law_1078 : decode code 1078 = .ok (.iadd, 1) := by decide +kernel
theorem zd_L_law_1079 : decode code 1079 = .ok (.iaload, 1) := by decide +kernel
theorem zd_L_law_1080 : decode code 1080 = .ok (.aload_n 3, 1) := by decide +kernel
theorem zd_L_law_1081 : decode code 1081 = .ok (.invokestatic 145, 3) := by decide +kernel
theorem zd_L_law_1084 : decode code 1084 = .ok (.istore 5, 2) := by decide +kernel
theorem zd_L_law_1086 : decode code 1086 = .ok (.aload_n 2, 1) := by decide +kernel
theorem zd_L_law_1087 : decode code 1087 = .ok (.aload_n 0, 1) := by decide +kernel
theorem zd_L_law_1088 : decode code 1088 = .ok (.iload 4, 2) := by decide +kernel
theorem zd_L_law_1090 : decode code 1090 = .ok (.iconst 1, 1) := by decide +kernel
theorem zd_L_law_1091 : decode code 1091 = .ok (.iadd, 1) := by decide +kernel
theorem zd_L_law_1092 : decode code 1092 = .ok (.iaload, 1) := by decide +kernel
theorem zd_L_law_1093 : decode code 1093 = .ok (.aload_n 0, 1) := by decide +kernel
theorem zd_L_law_1094 : decode code 1094 = .ok (.iload 4, 2) := by decide +kernel
theorem zd_L_law_1096 : decode code 1096 = .ok (.iconst 2, 1) := by decide +kernel
theorem zd_L_law_1097 : decode code 1097 = .ok (.iadd, 1) := by decide +kernel
theorem zd_L_law_1098 : decode code 1098 = .ok (.iaload, 1) := by decide +kernel
theorem zd_L_law_1099 : decode code 1099 = .ok (.invokevirtual 148, 3) := by decide +kernel
theorem zd_L_law_1102 : decode code 1102 = .ok (.istore 6, 2) := by decide +kernel
theorem zd_L_law_1104 : decode code 1104 = .ok (.aload_n 2, 1) := by decide +kernel
theorem zd_L_law_1105 : decode code 1105 = .ok (.invokevirtual 102, 3) := by decide +kernel
theorem zd_L_law_1108 : decode code 1108 = .ok (.iload 5, 2) := by decide +kernel
theorem zd_L_law_1110 : decode code 1110 = .ok (.if_icmp .eq 5, 3) := by decide +kernel
theorem zd_L_law_1113 : decode code 1113 = .ok (.iconst 0, 1) := by decide +kernel
theorem zd_L_law_1114 : decode code 1114 = .ok (.ireturn, 1) := by decide +kernel
theorem zd_L_law_1115 : decode code 1115 = .ok (.iload 5, 2) := by decide +kernel
theorem zd_L_law_1117 : decode code 1117 = .ok (.ifCond .ne 22, 3) := by decide +kernel
theorem zd_L_law_1120 : decode code 1120 = .ok (.aload_n 3, 1) := by decide +kernel
theorem zd_L_law_1121 : decode code 1121 = .ok (.iconst 0, 1) := by decide +kernel
theorem zd_L_law_1122 : decode code 1122 = .ok (.laload, 1) := by decide +kernel
theorem zd_L_law_1123 : decode code 1123 = .ok (.iload 6, 2) := by decide +kernel
theorem zd_L_law_1125 : decode code 1125 = .ok (.ifCond .eq 7, 3) := by decide +kernel
theorem zd_L_law_1128 : decode code 1128 = .ok (.lconst 1, 1) := by decide +kernel
theorem zd_L_law_1129 : decode code 1129 = .ok (.goto 4, 3) := by decide +kernel
theorem zd_L_law_1132 : decode code 1132 = .ok (.lconst 0, 1) := by decide +kernel
theorem zd_L_law_1133 : decode code 1133 = .ok (.lcmp, 1) := by decide +kernel
theorem zd_L_law_1134 : decode code 1134 = .ok (.ifCond .eq 5, 3) := by decide +kernel
theorem zd_L_law_1137 : decode code 1137 = .ok (.iconst 0, 1) := by decide +kernel
theorem zd_L_law_1138 : decode code 1138 = .ok (.ireturn, 1) := by decide +kernel
theorem zd_L_law_1139 : decode code 1139 = .ok (.goto 769, 3) := by decide +kernel
theorem zd_L_law_1142 : decode code 1142 = .ok (.aload_n 1, 1) := by decide +kernel
theorem zd_L_law_1143 : decode code 1143 = .ok (.aload_n 0, 1) := by decide +kernel
theorem zd_L_law_1144 : decode code 1144 = .ok (.iload 4, 2) := by decide +kernel
theorem zd_L_law_1146 : decode code 1146 = .ok (.iconst 1, 1) := by decide +kernel
theorem zd_L_law_1147 : decode code 1147 = .ok (.iadd, 1) := by decide +kernel
theorem zd_L_law_1148 : decode code 1148 = .ok (.iaload, 1) := by decide +kernel
theorem zd_L_law_1149 : decode code 1149 = .ok (.aload_n 0, 1) := by decide +kernel
theorem zd_L_law_1150 : decode code 1150 = .ok (.iload 4, 2) := by decide +kernel
theorem zd_L_law_1152 : decode code 1152 = .ok (.iconst 2, 1) := by decide +kernel
theorem zd_L_law_1153 : decode code 1153 = .ok (.iadd, 1) := by decide +kernel
theorem zd_L_law_1154 : decode code 1154 = .ok (.iaload, 1) := by decide +kernel
theorem zd_L_law_1155 : decode code 1155 = .ok (.aload_n 0, 1) := by decide +kernel
theorem zd_L_law_1156 : decode code 1156 = .ok (.iload 4, 2) := by decide +kernel
theorem zd_L_law_1158 : decode code 1158 = .ok (.iconst 3, 1) := by decide +kernel
theorem zd_L_law_1159 : decode code 1159 = .ok (.iadd, 1) := by decide +kernel
theorem zd_L_law_1160 : decode code 1160 = .ok (.iaload, 1) := by decide +kernel
theorem zd_L_law_1161 : decode code 1161 = .ok (.invokestatic 149, 3) := by decide +kernel
theorem zd_L_law_1164 : decode code 1164 = .ok (.istore 5, 2) := by decide +kernel
theorem zd_L_law_1166 : decode code 1166 = .ok (.aload_n 2, 1) := by decide +kernel
theorem zd_L_law_1167 : decode code 1167 = .ok (.aload_n 0, 1) := by decide +kernel
theorem zd_L_law_1168 : decode code 1168 = .ok (.iload 4, 2) := by decide +kernel
theorem zd_L_law_1170 : decode code 1170 = .ok (.iconst 1, 1) := by decide +kernel
theorem zd_L_law_1171 : decode code 1171 = .ok (.iadd, 1) := by decide +kernel
theorem zd_L_law_1172 : decode code 1172 = .ok (.iaload, 1) := by decide +kernel
theorem zd_L_law_1173 : decode code 1173 = .ok (.aload_n 0, 1) := by decide +kernel
theorem zd_L_law_1174 : decode code 1174 = .ok (.iload 4, 2) := by decide +kernel
theorem zd_L_law_1176 : decode code 1176 = .ok (.iconst 2, 1) := by decide +kernel
theorem zd_L_law_1177 : decode code 1177 = .ok (.iadd, 1) := by decide +kernel
theorem zd_L_law_1178 : decode code 1178 = .ok (.iaload, 1) := by decide +kernel
theorem zd_L_law_1179 : decode code 1179 = .ok (.aload_n 0, 1) := by decide +kernel
theorem zd_L_law_1180 : decode code 1180 = .ok (.iload 4, 2) := by decide +kernel
theorem zd_L_law_1182 : decode code 1182 = .ok (.iconst 3, 1) := by decide +kernel
theorem zd_L_law_1183 : decode code 1183 = .ok (.iadd, 1) := by decide +kernel
theorem zd_L_law_1184 : decode code 1184 = .ok (.iaload, 1) := by decide +kernel
theorem zd_L_law_1185 : decode code 1185 = .ok (.invokevirtual 151, 3) := by decide +kernel
theorem zd_L_law_1188 : decode code 1188 = .ok (.aload_n 2, 1) := by decide +kernel
theorem zd_L_law_1189 : decode code 1189 = .ok (.invokevirtual 102, 3) := by decide +kernel
theorem zd_L_law_1192 : decode code 1192 = .ok (.iload 5, 2) := by decide +kernel
theorem zd_L_law_1194 : decode code 1194 = .ok (.if_icmp .eq 5, 3) := by decide +kernel
theorem zd_L_law_1197 : decode code 1197 = .ok (.iconst 0, 1) := by decide +kernel
theorem zd_L_law_1198 : decode code 1198 = .ok (.ireturn, 1) := by decide +kernel
theorem zd_L_law_1199 : decode code 1199 = .ok (.goto 709, 3) := by decide +kernel
theorem zd_L_law_1202 : decode code 1202 = .ok (.aload_n 1, 1) := by decide +kernel
theorem zd_L_law_1203 : decode code 1203 = .ok (.aload_n 0, 1) := by decide +kernel
theorem zd_L_law_1204 : decode code 1204 = .ok (.iload 4, 2) := by decide +kernel
theorem zd_L_law_1206 : decode code 1206 = .ok (.iconst 1, 1) := by decide +kernel
theorem zd_L_law_1207 : decode code 1207 = .ok (.iadd, 1) := by decide +kernel
theorem zd_L_law_1208 : decode code 1208 = .ok (.iaload, 1) := by decide +kernel
theorem zd_L_law_1209 : decode code 1209 = .ok (.aload_n 0, 1) := by decide +kernel
theorem zd_L_law_1210 : decode code 1210 = .ok (.iload 4, 2) := by decide +kernel
theorem zd_L_law_1212 : decode code 1212 = .ok (.iconst 2, 1) := by decide +kernel
theorem zd_L_law_1213 : decode code 1213 = .ok (.iadd, 1) := by decide +kernel
theorem zd_L_law_1214 : decode code 1214 = .ok (.iaload, 1) := by decide +kernel
theorem zd_L_law_1215 : decode code 1215 = .ok (.aload_n 0, 1) := by decide +kernel
theorem zd_L_law_1216 : decode code 1216 = .ok (.iload 4, 2) := by decide +kernel
theorem zd_L_law_1218 : decode code 1218 = .ok (.iconst 3, 1) := by decide +kernel
theorem zd_L_law_1219 : decode code 1219 = .ok (.iadd, 1) := by decide +kernel
theorem zd_L_law_1220 : decode code 1220 = .ok (.iaload, 1) := by decide +kernel
theorem zd_L_law_1221 : decode code 1221 = .ok (.aload_n 3, 1) := by decide +kernel
theorem zd_L_law_1222 : decode code 1222 = .ok (.invokestatic 152, 3) := by decide +kernel
theorem zd_L_law_1225 : decode code 1225 = .ok (.istore 5, 2) := by decide +kernel
theorem zd_L_law_1227 : decode code 1227 = .ok (.aload_n 2, 1) := by decide +kernel
theorem zd_L_law_1228 : decode code 1228 = .ok (.aload_n 0, 1) := by decide +kernel
theorem zd_L_law_1229 : decode code 1229 = .ok (.iload 4, 2) := by decide +kernel
theorem zd_L_law_1231 : decode code 1231 = .ok (.iconst 1, 1) := by decide +kernel
theorem zd_L_law_1232 : decode code 1232 = .ok (.iadd, 1) := by decide +kernel
theorem zd_L_law_1233 : decode code 1233 = .ok (.iaload, 1) := by decide +kernel
theorem zd_L_law_1234 : decode code 1234 = .ok (.aload_n 0, 1) := by decide +kernel
theorem zd_L_law_1235 : decode code 1235 = .ok (.iload 4, 2) := by decide +kernel
theorem zd_L_law_1237 : decode code 1237 = .ok (.iconst 2, 1) := by decide +kernel
theorem zd_L_law_1238 : decode code 1238 = .ok (.iadd, 1) := by decide +kernel
theorem zd_L_law_1239 : decode code 1239 = .ok (.iaload, 1) := by decide +kernel
theorem zd_L_law_1240 : decode code 1240 = .ok (.aload_n 0, 1) := by decide +kernel
theorem zd_L_law_1241 : decode code 1241 = .ok (.iload 4, 2) := by decide +kernel
theorem zd_L_law_1243 : decode code 1243 = .ok (.iconst 3, 1) := by decide +kernel
theorem zd_L_law_1244 : decode code 1244 = .ok (.iadd, 1) := by decide +kernel
theorem zd_L_law_1245 : decode code 1245 = .ok (.iaload, 1) := by decide +kernel
theorem zd_L_law_1246 : decode code 1246 = .ok (.invokevirtual 154, 3) := by decide +kernel
theorem zd_L_law_1249 : decode code 1249 = .ok (.istore 6, 2) := by decide +kernel
theorem zd_L_law_1251 : decode code 1251 = .ok (.aload_n 2, 1) := by decide +kernel
theorem zd_L_law_1252 : decode code 1252 = .ok (.invokevirtual 102, 3) := by decide +kernel
theorem zd_L_law_1255 : decode code 1255 = .ok (.iload 5, 2) := by decide +kernel
theorem zd_L_law_1257 : decode code 1257 = .ok (.if_icmp .eq 5, 3) := by decide +kernel
theorem zd_L_law_1260 : decode code 1260 = .ok (.iconst 0, 1) := by decide +kernel
theorem zd_L_law_1261 : decode code 1261 = .ok (.ireturn, 1) := by decide +kernel
theorem zd_L_law_1262 : decode code 1262 = .ok (.iload 5, 2) := by decide +kernel
theorem zd_L_law_1264 : decode code 1264 = .ok (.ifCond .ne 15, 3) := by decide +kernel
theorem zd_L_law_1267 : decode code 1267 = .ok (.aload_n 3, 1) := by decide +kernel
theorem zd_L_law_1268 : decode code 1268 = .ok (.iconst 0, 1) := by decide +kernel
theorem zd_L_law_1269 : decode code 1269 = .ok (.laload, 1) := by decide +kernel
theorem zd_L_law_1270 : decode code 1270 = .ok (.iload 6, 2) := by decide +kernel
theorem zd_L_law_1272 : decode code 1272 = .ok (.i2l, 1) := by decide +kernel
theorem zd_L_law_1273 : decode code 1273 = .ok (.lcmp, 1) := by decide +kernel
theorem zd_L_law_1274 : decode code 1274 = .ok (.ifCond .eq 5, 3) := by decide +kernel
theorem zd_L_law_1277 : decode code 1277 = .ok (.iconst 0, 1) := by decide +kernel
theorem zd_L_law_1278 : decode code 1278 = .ok (.ireturn, 1) := by decide +kernel
theorem zd_L_law_1279 : decode code 1279 = .ok (.goto 629, 3) := by decide +kernel
theorem zd_L_law_1282 : decode code 1282 = .ok (.aload_n 1, 1) := by decide +kernel
theorem zd_L_law_1283 : decode code 1283 = .ok (.aload_n 0, 1) := by decide +kernel
theorem zd_L_law_1284 : decode code 1284 = .ok (.iload 4, 2) := by decide +kernel
theorem zd_L_law_1286 : decode code 1286 = .ok (.iconst 1, 1) := by decide +kernel
theorem zd_L_law_1287 : decode code 1287 = .ok (.iadd, 1) := by decide +kernel
theorem zd_L_law_1288 : decode code 1288 = .ok (.iaload, 1) := by decide +kernel
theorem zd_L_law_1289 : decode code 1289 = .ok (.aload_n 0, 1) := by decide +kernel
theorem zd_L_law_1290 : decode code 1290 = .ok (.iload 4, 2) := by decide +kernel
theorem zd_L_law_1292 : decode code 1292 = .ok (.iconst 2, 1) := by decide +kernel
theorem zd_L_law_1293 : decode code 1293 = .ok (.iadd, 1) := by decide +kernel
theorem zd_L_law_1294 : decode code 1294 = .ok (.iaload, 1) := by decide +kernel
theorem zd_L_law_1295 : decode code 1295 = .ok (.aload_n 0, 1) := by decide +kernel
theorem zd_L_law_1296 : decode code 1296 = .ok (.iload 4, 2) := by decide +kernel
theorem zd_L_law_1298 : decode code 1298 = .ok (.iconst 3, 1) := by decide +kernel
theorem zd_L_law_1299 : decode code 1299 = .ok (.iadd, 1) := by decide +kernel
theorem zd_L_law_1300 : decode code 1300 = .ok (.iaload, 1) := by decide +kernel
theorem zd_L_law_1301 : decode code 1301 = .ok (.aload_n 0, 1) := by decide +kernel
theorem zd_L_law_1302 : decode code 1302 = .ok (.iload 4, 2) := by decide +kernel
theorem zd_L_law_1304 : decode code 1304 = .ok (.iconst 4, 1) := by decide +kernel
theorem zd_L_law_1305 : decode code 1305 = .ok (.iadd, 1) := by decide +kernel
theorem zd_L_law_1306 : decode code 1306 = .ok (.iaload, 1) := by decide +kernel
theorem zd_L_law_1307 : decode code 1307 = .ok (.aload_n 3, 1) := by decide +kernel
theorem zd_L_law_1308 : decode code 1308 = .ok (.invokestatic 155, 3) := by decide +kernel
theorem zd_L_law_1311 : decode code 1311 = .ok (.istore 5, 2) := by decide +kernel
theorem zd_L_law_1313 : decode code 1313 = .ok (.aload_n 2, 1) := by decide +kernel
theorem zd_L_law_1314 : decode code 1314 = .ok (.aload_n 0, 1) := by decide +kernel
theorem zd_L_law_1315 : decode code 1315 = .ok (.iload 4, 2) := by decide +kernel
theorem zd_L_law_1317 : decode code 1317 = .ok (.iconst 1, 1) := by decide +kernel
theorem zd_L_law_1318 : decode code 1318 = .ok (.iadd, 1) := by decide +kernel
theorem zd_L_law_1319 : decode code 1319 = .ok (.iaload, 1) := by decide +kernel
theorem zd_L_law_1320 : decode code 1320 = .ok (.aload_n 0, 1) := by decide +kernel
theorem zd_L_law_1321 : decode code 1321 = .ok (.iload 4, 2) := by decide +kernel
theorem zd_L_law_1323 : decode code 1323 = .ok (.iconst 2, 1) := by decide +kernel
theorem zd_L_law_1324 : decode code 1324 = .ok (.iadd, 1) := by decide +kernel
theorem zd_L_law_1325 : decode code 1325 = .ok (.iaload, 1) := by decide +kernel
theorem zd_L_law_1326 : decode code 1326 = .ok (.aload_n 0, 1) := by decide +kernel
theorem zd_L_law_1327 : decode code 1327 = .ok (.iload 4, 2) := by decide +kernel
theorem zd_L_law_1329 : decode code 1329 = .ok (.iconst 3, 1) := by decide +kernel
theorem zd_L_law_1330 : decode code 1330 = .ok (.iadd, 1) := by decide +kernel
theorem zd_L_law_1331 : decode code 1331 = .ok (.iaload, 1) := by decide +kernel
theorem zd_L_law_1332 : decode code 1332 = .ok (.aload_n 0, 1) := by decide +kernel
theorem zd_L_law_1333 : decode code 1333 = .ok (.iload 4, 2) := by decide +kernel
theorem zd_L_law_1335 : decode code 1335 = .ok (.iconst 4, 1) := by decide +kernel
theorem zd_L_law_1336 : decode code 1336 = .ok (.iadd, 1) := by decide +kernel
theorem zd_L_law_1337 : decode code 1337 = .ok (.iaload, 1) := by decide +kernel
theorem zd_L_law_1338 : decode code 1338 = .ok (.invokevirtual 157, 3) := by decide +kernel
theorem zd_L_law_1341 : decode code 1341 = .ok (.istore 6, 2) := by decide +kernel
theorem zd_L_law_1343 : decode code 1343 = .ok (.aload_n 2, 1) := by decide +kernel
theorem zd_L_law_1344 : decode code 1344 = .ok (.invokevirtual 102, 3) := by decide +kernel
theorem zd_L_law_1347 : decode code 1347 = .ok (.iload 5, 2) := by decide +kernel
theorem zd_L_law_1349 : decode code 1349 = .ok (.if_icmp .eq 5, 3) := by decide +kernel
theorem zd_L_law_1352 : decode code 1352 = .ok (.iconst 0, 1) := by decide +kernel
theorem zd_L_law_1353 : decode code 1353 = .ok (.ireturn, 1) := by decide +kernel
theorem zd_L_law_1354 : decode code 1354 = .ok (.iload 5, 2) := by decide +kernel
theorem zd_L_law_1356 : decode code 1356 = .ok (.ifCond .ne 15, 3) := by decide +kernel
theorem zd_L_law_1359 : decode code 1359 = .ok (.aload_n 3, 1) := by decide +kernel
theorem zd_L_law_1360 : decode code 1360 = .ok (.iconst 0, 1) := by decide +kernel
theorem zd_L_law_1361 : decode code 1361 = .ok (.laload, 1) := by decide +kernel
theorem zd_L_law_1362 : decode code 1362 = .ok (.iload 6, 2) := by decide +kernel
theorem zd_L_law_1364 : decode code 1364 = .ok (.i2l, 1) := by decide +kernel
theorem zd_L_law_1365 : decode code 1365 = .ok (.lcmp, 1) := by decide +kernel
theorem zd_L_law_1366 : decode code 1366 = .ok (.ifCond .eq 5, 3) := by decide +kernel
theorem zd_L_law_1369 : decode code 1369 = .ok (.iconst 0, 1) := by decide +kernel
theorem zd_L_law_1370 : decode code 1370 = .ok (.ireturn, 1) := by decide +kernel
theorem zd_L_law_1371 : decode code 1371 = .ok (.goto 537, 3) := by decide +kernel
theorem zd_L_law_1374 : decode code 1374 = .ok (.aload_n 1, 1) := by decide +kernel
theorem zd_L_law_1375 : decode code 1375 = .ok (.aload_n 0, 1) := by decide +kernel
theorem zd_L_law_1376 : decode code 1376 = .ok (.iload 4, 2) := by decide +kernel
theorem zd_L_law_1378 : decode code 1378 = .ok (.iconst 1, 1) := by decide +kernel
theorem zd_L_law_1379 : decode code 1379 = .ok (.iadd, 1) := by decide +kernel
theorem zd_L_law_1380 : decode code 1380 = .ok (.iaload, 1) := by decide +kernel
theorem zd_L_law_1381 : decode code 1381 = .ok (.aload_n 0, 1) := by decide +kernel
theorem zd_L_law_1382 : decode code 1382 = .ok (.iload 4, 2) := by decide +kernel
theorem zd_L_law_1384 : decode code 1384 = .ok (.iconst 2, 1) := by decide +kernel
theorem zd_L_law_1385 : decode code 1385 = .ok (.iadd, 1) := by decide +kernel
theorem zd_L_law_1386 : decode code 1386 = .ok (.iaload, 1) := by decide +kernel
theorem zd_L_law_1387 : decode code 1387 = .ok (.aload_n 0, 1) := by decide +kernel
theorem zd_L_law_1388 : decode code 1388 = .ok (.iload 4, 2) := by decide +kernel
theorem zd_L_law_1390 : decode code 1390 = .ok (.iconst 3, 1) := by decide +kernel
theorem zd_L_law_1391 : decode code 1391 = .ok (.iadd, 1) := by decide +kernel
theorem zd_L_law_1392 : decode code 1392 = .ok (.iaload, 1) := by decide +kernel
theorem zd_L_law_1393 : decode code 1393 = .ok (.aload_n 3, 1) := by decide +kernel
theorem zd_L_law_1394 : decode code 1394 = .ok (.invokestatic 158, 3) := by decide +kernel
theorem zd_L_law_1397 : decode code 1397 = .ok (.istore 5, 2) := by decide +kernel
theorem zd_L_law_1399 : decode code 1399 = .ok (.aload_n 2, 1) := by decide +kernel
theorem zd_L_law_1400 : decode code 1400 = .ok (.aload_n 0, 1) := by decide +kernel
theorem zd_L_law_1401 : decode code 1401 = .ok (.iload 4, 2) := by decide +kernel
theorem zd_L_law_1403 : decode code 1403 = .ok (.iconst 1, 1) := by decide +kernel
theorem zd_L_law_1404 : decode code 1404 = .ok (.iadd, 1) := by decide +kernel
theorem zd_L_law_1405 : decode code 1405 = .ok (.iaload, 1) := by decide +kernel
theorem zd_L_law_1406 : decode code 1406 = .ok (.aload_n 0, 1) := by decide +kernel
theorem zd_L_law_1407 : decode code 1407 = .ok (.iload 4, 2) := by decide +kernel
theorem zd_L_law_1409 : decode code 1409 = .ok (.iconst 2, 1) := by decide +kernel
theorem zd_L_law_1410 : decode code 1410 = .ok (.iadd, 1) := by decide +kernel
theorem zd_L_law_1411 : decode code 1411 = .ok (.iaload, 1) := by decide +kernel
theorem zd_L_law_1412 : decode code 1412 = .ok (.aload_n 0, 1) := by decide +kernel
theorem zd_L_law_1413 : decode code 1413 = .ok (.iload 4, 2) := by decide +kernel
theorem zd_L_law_1415 : decode code 1415 = .ok (.iconst 3, 1) := by decide +kernel
theorem zd_L_law_1416 : decode code 1416 = .ok (.iadd, 1) := by decide +kernel
theorem zd_L_law_1417 : decode code 1417 = .ok (.iaload, 1) := by decide +kernel
theorem zd_L_law_1418 : decode code 1418 = .ok (.invokevirtual 160, 3) := by decide +kernel
theorem zd_L_law_1421 : decode code 1421 = .ok (.istore 6, 2) := by decide +kernel
theorem zd_L_law_1423 : decode code 1423 = .ok (.aload_n 2, 1) := by decide +kernel
theorem zd_L_law_1424 : decode code 1424 = .ok (.invokevirtual 102, 3) := by decide +kernel
theorem zd_L_law_1427 : decode code 1427 = .ok (.iload 5, 2) := by decide +kernel
theorem zd_L_law_1429 : decode code 1429 = .ok (.if_icmp .eq 5, 3) := by decide +kernel
theorem zd_L_law_1432 : decode code 1432 = .ok (.iconst 0, 1) := by decide +kernel
theorem zd_L_law_1433 : decode code 1433 = .ok (.ireturn, 1) := by decide +kernel
theorem zd_L_law_1434 : decode code 1434 = .ok (.iload 5, 2) := by decide +kernel
theorem zd_L_law_1436 : decode code 1436 = .ok (.ifCond .ne 22, 3) := by decide +kernel
theorem zd_L_law_1439 : decode code 1439 = .ok (.aload_n 3, 1) := by decide +kernel
theorem zd_L_law_1440 : decode code 1440 = .ok (.iconst 0, 1) := by decide +kernel
theorem zd_L_law_1441 : decode code 1441 = .ok (.laload, 1) := by decide +kernel
theorem zd_L_law_1442 : decode code 1442 = .ok (.iload 6, 2) := by decide +kernel
theorem zd_L_law_1444 : decode code 1444 = .ok (.ifCond .eq 7, 3) := by decide +kernel
theorem zd_L_law_1447 : decode code 1447 = .ok (.lconst 1, 1) := by decide +kernel
theorem zd_L_law_1448 : decode code 1448 = .ok (.goto 4, 3) := by decide +kernel
theorem zd_L_law_1451 : decode code 1451 = .ok (.lconst 0, 1) := by decide +kernel
theorem zd_L_law_1452 : decode code 1452 = .ok (.lcmp, 1) := by decide +kernel
theorem zd_L_law_1453 : decode code 1453 = .ok (.ifCond .eq 5, 3) := by decide +kernel
theorem zd_L_law_1456 : decode code 1456 = .ok (.iconst 0, 1) := by decide +kernel
theorem zd_L_law_1457 : decode code 1457 = .ok (.ireturn, 1) := by decide +kernel
theorem zd_L_law_1458 : decode code 1458 = .ok (.goto 450, 3) := by decide +kernel
theorem zd_L_law_1461 : decode code 1461 = .ok (.aload_n 1, 1) := by decide +kernel
theorem zd_L_law_1462 : decode code 1462 = .ok (.aload_n 0, 1) := by decide +kernel
theorem zd_L_law_1463 : decode code 1463 = .ok (.iload 4, 2) := by decide +kernel
theorem zd_L_law_1465 : decode code 1465 = .ok (.iconst 1, 1) := by decide +kernel
theorem zd_L_law_1466 : decode code 1466 = .ok (.iadd, 1) := by decide +kernel
theorem zd_L_law_1467 : decode code 1467 = .ok (.iaload, 1) := by decide +kernel
theorem zd_L_law_1468 : decode code 1468 = .ok (.aload_n 0, 1) := by decide +kernel
theorem zd_L_law_1469 : decode code 1469 = .ok (.iload 4, 2) := by decide +kernel
theorem zd_L_law_1471 : decode code 1471 = .ok (.iconst 2, 1) := by decide +kernel
theorem zd_L_law_1472 : decode code 1472 = .ok (.iadd, 1) := by decide +kernel
theorem zd_L_law_1473 : decode code 1473 = .ok (.iaload, 1) := by decide +kernel
theorem zd_L_law_1474 : decode code 1474 = .ok (.aload_n 0, 1) := by decide +kernel
theorem zd_L_law_1475 : decode code 1475 = .ok (.iload 4, 2) := by decide +kernel
theorem zd_L_law_1477 : decode code 1477 = .ok (.iconst 3, 1) := by decide +kernel
theorem zd_L_law_1478 : decode code 1478 = .ok (.iadd, 1) := by decide +kernel
theorem zd_L_law_1479 : decode code 1479 = .ok (.iaload, 1) := by decide +kernel
theorem zd_L_law_1480 : decode code 1480 = .ok (.ifCond .eq 7, 3) := by decide +kernel
theorem zd_L_law_1483 : decode code 1483 = .ok (.iconst 1, 1) := by decide +kernel
theorem zd_L_law_1484 : decode code 1484 = .ok (.goto 4, 3) := by decide +kernel
theorem zd_L_law_1487 : decode code 1487 = .ok (.iconst 0, 1) := by decide +kernel
theorem zd_L_law_1488 : decode code 1488 = .ok (.aload_n 3, 1) := by decide +kernel
theorem zd_L_law_1489 : decode code 1489 = .ok (.invokestatic 161, 3) := by decide +kernel
theorem zd_L_law_1492 : decode code 1492 = .ok (.istore 5, 2) := by decide +kernel
theorem zd_L_law_1494 : decode code 1494 = .ok (.aload_n 2, 1) := by decide +kernel
theorem zd_L_law_1495 : decode code 1495 = .ok (.aload_n 0, 1) := by decide +kernel
theorem zd_L_law_1496 : decode code 1496 = .ok (.iload 4, 2) := by decide +kernel
theorem zd_L_law_1498 : decode code 1498 = .ok (.iconst 1, 1) := by decide +kernel
theorem zd_L_law_1499 : decode code 1499 = .ok (.iadd, 1) := by decide +kernel
theorem zd_L_law_1500 : decode code 1500 = .ok (.iaload, 1) := by decide +kernel
theorem zd_L_law_1501 : decode code 1501 = .ok (.aload_n 0, 1) := by decide +kernel
theorem zd_L_law_1502 : decode code 1502 = .ok (.iload 4, 2) := by decide +kernel
theorem zd_L_law_1504 : decode code 1504 = .ok (.iconst 2, 1) := by decide +kernel
theorem zd_L_law_1505 : decode code 1505 = .ok (.iadd, 1) := by decide +kernel
theorem zd_L_law_1506 : decode code 1506 = .ok (.iaload, 1) := by decide +kernel
theorem zd_L_law_1507 : decode code 1507 = .ok (.aload_n 0, 1) := by decide +kernel
theorem zd_L_law_1508 : decode code 1508 = .ok (.iload 4, 2) := by decide +kernel
theorem zd_L_law_1510 : decode code 1510 = .ok (.iconst 3, 1) := by decide +kernel
theorem zd_L_law_1511 : decode code 1511 = .ok (.iadd, 1) := by decide +kernel
theorem zd_L_law_1512 : decode code 1512 = .ok (.iaload, 1) := by decide +kernel
theorem zd_L_law_1513 : decode code 1513 = .ok (.ifCond .eq 7, 3) := by decide +kernel
theorem zd_L_law_1516 : decode code 1516 = .ok (.iconst 1, 1) := by decide +kernel
theorem zd_L_law_1517 : decode code 1517 = .ok (.goto 4, 3) := by decide +kernel
theorem zd_L_law_1520 : decode code 1520 = .ok (.iconst 0, 1) := by decide +kernel
theorem zd_L_law_1521 : decode code 1521 = .ok (.invokevirtual 164, 3) := by decide +kernel
theorem zd_L_law_1524 : decode code 1524 = .ok (.istore 6, 2) := by decide +kernel
theorem zd_L_law_1526 : decode code 1526 = .ok (.aload_n 2, 1) := by decide +kernel
theorem zd_L_law_1527 : decode code 1527 = .ok (.invokevirtual 102, 3) := by decide +kernel
theorem zd_L_law_1530 : decode code 1530 = .ok (.iload 5, 2) := by decide +kernel
theorem zd_L_law_1532 : decode code 1532 = .ok (.if_icmp .eq 5, 3) := by decide +kernel
theorem zd_L_law_1535 : decode code 1535 = .ok (.iconst 0, 1) := by decide +kernel
theorem zd_L_law_1536 : decode code 1536 = .ok (.ireturn, 1) := by decide +kernel
theorem zd_L_law_1537 : decode code 1537 = .ok (.iload 5, 2) := by decide +kernel
theorem zd_L_law_1539 : decode code 1539 = .ok (.ifCond .ne 22, 3) := by decide +kernel
theorem zd_L_law_1542 : decode code 1542 = .ok (.aload_n 3, 1) := by decide +kernel
theorem zd_L_law_1543 : decode code 1543 = .ok (.iconst 0, 1) := by decide +kernel
theorem zd_L_law_1544 : decode code 1544 = .ok (.laload, 1) := by decide +kernel
theorem zd_L_law_1545 : decode code 1545 = .ok (.iload 6, 2) := by decide +kernel
theorem zd_L_law_1547 : decode code 1547 = .ok (.ifCond .eq 7, 3) := by decide +kernel
theorem zd_L_law_1550 : decode code 1550 = .ok (.lconst 1, 1) := by decide +kernel
theorem zd_L_law_1551 : decode code 1551 = .ok (.goto 4, 3) := by decide +kernel
theorem zd_L_law_1554 : decode code 1554 = .ok (.lconst 0, 1) := by decide +kernel
theorem zd_L_law_1555 : decode code 1555 = .ok (.lcmp, 1) := by decide +kernel
theorem zd_L_law_1556 : decode code 1556 = .ok (.ifCond .eq 5, 3) := by decide +kernel
theorem zd_L_law_1559 : decode code 1559 = .ok (.iconst 0, 1) := by decide +kernel
theorem zd_L_law_1560 : decode code 1560 = .ok (.ireturn, 1) := by decide +kernel
theorem zd_L_law_1561 : decode code 1561 = .ok (.goto 347, 3) := by decide +kernel
theorem zd_L_law_1564 : decode code 1564 = .ok (.aload_n 1, 1) := by decide +kernel
theorem zd_L_law_1565 : decode code 1565 = .ok (.aload_n 0, 1) := by decide +kernel
theorem zd_L_law_1566 : decode code 1566 = .ok (.iload 4, 2) := by decide +kernel
theorem zd_L_law_1568 : decode code 1568 = .ok (.iconst 1, 1) := by decide +kernel
theorem zd_L_law_1569 : decode code 1569 = .ok (.iadd, 1) := by decide +kernel
theorem zd_L_law_1570 : decode code 1570 = .ok (.iaload, 1) := by decide +kernel
theorem zd_L_law_1571 : decode code 1571 = .ok (.aload_n 0, 1) := by decide +kernel
theorem zd_L_law_1572 : decode code 1572 = .ok (.iload 4, 2) := by decide +kernel
theorem zd_L_law_1574 : decode code 1574 = .ok (.iconst 2, 1) := by decide +kernel
theorem zd_L_law_1575 : decode code 1575 = .ok (.iadd, 1) := by decide +kernel
theorem zd_L_law_1576 : decode code 1576 = .ok (.iaload, 1) := by decide +kernel
theorem zd_L_law_1577 : decode code 1577 = .ok (.aload_n 0, 1) := by decide +kernel
theorem zd_L_law_1578 : decode code 1578 = .ok (.iload 4, 2) := by decide +kernel
theorem zd_L_law_1580 : decode code 1580 = .ok (.iconst 3, 1) := by decide +kernel
theorem zd_L_law_1581 : decode code 1581 = .ok (.iadd, 1) := by decide +kernel
theorem zd_L_law_1582 : decode code 1582 = .ok (.iaload, 1) := by decide +kernel
theorem zd_L_law_1583 : decode code 1583 = .ok (.aload_n 0, 1) := by decide +kernel
theorem zd_L_law_1584 : decode code 1584 = .ok (.iload 4, 2) := by decide +kernel
theorem zd_L_law_1586 : decode code 1586 = .ok (.iconst 4, 1) := by decide +kernel
theorem zd_L_law_1587 : decode code 1587 = .ok (.iadd, 1) := by decide +kernel
theorem zd_L_law_1588 : decode code 1588 = .ok (.iaload, 1) := by decide +kernel
theorem zd_L_law_1589 : decode code 1589 = .ok (.aload_n 3, 1) := by decide +kernel
theorem zd_L_law_1590 : decode code 1590 = .ok (.invokestatic 165, 3) := by decide +kernel
theorem zd_L_law_1593 : decode code 1593 = .ok (.istore 5, 2) := by decide +kernel
theorem zd_L_law_1595 : decode code 1595 = .ok (.aload_n 2, 1) := by decide +kernel
theorem zd_L_law_1596 : decode code 1596 = .ok (.aload_n 0, 1) := by decide +kernel
theorem zd_L_law_1597 : decode code 1597 = .ok (.iload 4, 2) := by decide +kernel
theorem zd_L_law_1599 : decode code 1599 = .ok (.iconst 1, 1) := by decide +kernel
theorem zd_L_law_1600 : decode code 1600 = .ok (.iadd, 1) := by decide +kernel
theorem zd_L_law_1601 : decode code 1601 = .ok (.iaload, 1) := by decide +kernel
theorem zd_L_law_1602 : decode code 1602 = .ok (.aload_n 0, 1) := by decide +kernel
theorem zd_L_law_1603 : decode code 1603 = .ok (.iload 4, 2) := by decide +kernel
theorem zd_L_law_1605 : decode code 1605 = .ok (.iconst 2, 1) := by decide +kernel
theorem zd_L_law_1606 : decode code 1606 = .ok (.iadd, 1) := by decide +kernel
theorem zd_L_law_1607 : decode code 1607 = .ok (.iaload, 1) := by decide +kernel
theorem zd_L_law_1608 : decode code 1608 = .ok (.aload_n 0, 1) := by decide +kernel
theorem zd_L_law_1609 : decode code 1609 = .ok (.iload 4, 2) := by decide +kernel
theorem zd_L_law_1611 : decode code 1611 = .ok (.iconst 3, 1) := by decide +kernel
theorem zd_L_law_1612 : decode code 1612 = .ok (.iadd, 1) := by decide +kernel
theorem zd_L_law_1613 : decode code 1613 = .ok (.iaload, 1) := by decide +kernel
theorem zd_L_law_1614 : decode code 1614 = .ok (.aload_n 0, 1) := by decide +kernel
theorem zd_L_law_1615 : decode code 1615 = .ok (.iload 4, 2) := by decide +kernel
theorem zd_L_law_1617 : decode code 1617 = .ok (.iconst 4, 1) := by decide +kernel
theorem zd_L_law_1618 : decode code 1618 = .ok (.iadd, 1) := by decide +kernel
theorem zd_L_law_1619 : decode code 1619 = .ok (.iaload, 1) := by decide +kernel
theorem zd_L_law_1620 : decode code 1620 = .ok (.invokevirtual 167, 3) := by decide +kernel
theorem zd_L_law_1623 : decode code 1623 = .ok (.istore 6, 2) := by decide +kernel
theorem zd_L_law_1625 : decode code 1625 = .ok (.aload_n 2, 1) := by decide +kernel
theorem zd_L_law_1626 : decode code 1626 = .ok (.invokevirtual 102, 3) := by decide +kernel
theorem zd_L_law_1629 : decode code 1629 = .ok (.iload 5, 2) := by decide +kernel
theorem zd_L_law_1631 : decode code 1631 = .ok (.if_icmp .eq 5, 3) := by decide +kernel
theorem zd_L_law_1634 : decode code 1634 = .ok (.iconst 0, 1) := by decide +kernel
theorem zd_L_law_1635 : decode code 1635 = .ok (.ireturn, 1) := by decide +kernel
theorem zd_L_law_1636 : decode code 1636 = .ok (.iload 5, 2) := by decide +kernel
theorem zd_L_law_1638 : decode code 1638 = .ok (.ifCond .ne 15, 3) := by decide +kernel
theorem zd_L_law_1641 : decode code 1641 = .ok (.aload_n 3, 1) := by decide +kernel
theorem zd_L_law_1642 : decode code 1642 = .ok (.iconst 0, 1) := by decide +kernel
theorem zd_L_law_1643 : decode code 1643 = .ok (.laload, 1) := by decide +kernel
theorem zd_L_law_1644 : decode code 1644 = .ok (.iload 6, 2) := by decide +kernel
theorem zd_L_law_1646 : decode code 1646 = .ok (.i2l, 1) := by decide +kernel
theorem zd_L_law_1647 : decode code 1647 = .ok (.lcmp, 1) := by decide +kernel
theorem zd_L_law_1648 : decode code 1648 = .ok (.ifCond .eq 5, 3) := by decide +kernel
theorem zd_L_law_1651 : decode code 1651 = .ok (.iconst 0, 1) := by decide +kernel
theorem zd_L_law_1652 : decode code 1652 = .ok (.ireturn, 1) := by decide +kernel
theorem zd_L_law_1653 : decode code 1653 = .ok (.goto 255, 3) := by decide +kernel
theorem zd_L_law_1656 : decode code 1656 = .ok (.aload_n 1, 1) := by decide +kernel
theorem zd_L_law_1657 : decode code 1657 = .ok (.aload_n 0, 1) := by decide +kernel
theorem zd_L_law_1658 : decode code 1658 = .ok (.iload 4, 2) := by decide +kernel
theorem zd_L_law_1660 : decode code 1660 = .ok (.iconst 1, 1) := by decide +kernel
theorem zd_L_law_1661 : decode code 1661 = .ok (.iadd, 1) := by decide +kernel
theorem zd_L_law_1662 : decode code 1662 = .ok (.iaload, 1) := by decide +kernel
theorem zd_L_law_1663 : decode code 1663 = .ok (.aload_n 0, 1) := by decide +kernel
theorem zd_L_law_1664 : decode code 1664 = .ok (.iload 4, 2) := by decide +kernel
theorem zd_L_law_1666 : decode code 1666 = .ok (.iconst 2, 1) := by decide +kernel
theorem zd_L_law_1667 : decode code 1667 = .ok (.iadd, 1) := by decide +kernel
theorem zd_L_law_1668 : decode code 1668 = .ok (.iaload, 1) := by decide +kernel
theorem zd_L_law_1669 : decode code 1669 = .ok (.aload_n 0, 1) := by decide +kernel
theorem zd_L_law_1670 : decode code 1670 = .ok (.iload 4, 2) := by decide +kernel
theorem zd_L_law_1672 : decode code 1672 = .ok (.iconst 3, 1) := by decide +kernel
theorem zd_L_law_1673 : decode code 1673 = .ok (.iadd, 1) := by decide +kernel
theorem zd_L_law_1674 : decode code 1674 = .ok (.iaload, 1) := by decide +kernel
theorem zd_L_law_1675 : decode code 1675 = .ok (.aload_n 0, 1) := by decide +kernel
theorem zd_L_law_1676 : decode code 1676 = .ok (.iload 4, 2) := by decide +kernel
theorem zd_L_law_1678 : decode code 1678 = .ok (.iconst 4, 1) := by decide +kernel
theorem zd_L_law_1679 : decode code 1679 = .ok (.iadd, 1) := by decide +kernel
theorem zd_L_law_1680 : decode code 1680 = .ok (.iaload, 1) := by decide +kernel
theorem zd_L_law_1681 : decode code 1681 = .ok (.aload_n 3, 1) := by decide +kernel
theorem zd_L_law_1682 : decode code 1682 = .ok (.invokestatic 168, 3) := by decide +kernel
theorem zd_L_law_1685 : decode code 1685 = .ok (.istore 5, 2) := by decide +kernel
theorem zd_L_law_1687 : decode code 1687 = .ok (.aload_n 2, 1) := by decide +kernel
theorem zd_L_law_1688 : decode code 1688 = .ok (.aload_n 0, 1) := by decide +kernel
theorem zd_L_law_1689 : decode code 1689 = .ok (.iload 4, 2) := by decide +kernel
theorem zd_L_law_1691 : decode code 1691 = .ok (.iconst 1, 1) := by decide +kernel
theorem zd_L_law_1692 : decode code 1692 = .ok (.iadd, 1) := by decide +kernel
theorem zd_L_law_1693 : decode code 1693 = .ok (.iaload, 1) := by decide +kernel
theorem zd_L_law_1694 : decode code 1694 = .ok (.aload_n 0, 1) := by decide +kernel
theorem zd_L_law_1695 : decode code 1695 = .ok (.iload 4, 2) := by decide +kernel
theorem zd_L_law_1697 : decode code 1697 = .ok (.iconst 2, 1) := by decide +kernel
theorem zd_L_law_1698 : decode code 1698 = .ok (.iadd, 1) := by decide +kernel
theorem zd_L_law_1699 : decode code 1699 = .ok (.iaload, 1) := by decide +kernel
theorem zd_L_law_1700 : decode code 1700 = .ok (.aload_n 0, 1) := by decide +kernel
theorem zd_L_law_1701 : decode code 1701 = .ok (.iload 4, 2) := by decide +kernel
theorem zd_L_law_1703 : decode code 1703 = .ok (.iconst 3, 1) := by decide +kernel
theorem zd_L_law_1704 : decode code 1704 = .ok (.iadd, 1) := by decide +kernel
theorem zd_L_law_1705 : decode code 1705 = .ok (.iaload, 1) := by decide +kernel
theorem zd_L_law_1706 : decode code 1706 = .ok (.aload_n 0, 1) := by decide +kernel
theorem zd_L_law_1707 : decode code 1707 = .ok (.iload 4, 2) := by decide +kernel
theorem zd_L_law_1709 : decode code 1709 = .ok (.iconst 4, 1) := by decide +kernel
theorem zd_L_law_1710 : decode code 1710 = .ok (.iadd, 1) := by decide +kernel
theorem zd_L_law_1711 : decode code 1711 = .ok (.iaload, 1) := by decide +kernel
theorem zd_L_law_1712 : decode code 1712 = .ok (.invokevirtual 170, 3) := by decide +kernel
theorem zd_L_law_1715 : decode code 1715 = .ok (.istore 6, 2) := by decide +kernel
theorem zd_L_law_1717 : decode code 1717 = .ok (.aload_n 2, 1) := by decide +kernel
theorem zd_L_law_1718 : decode code 1718 = .ok (.invokevirtual 102, 3) := by decide +kernel
theorem zd_L_law_1721 : decode code 1721 = .ok (.iload 5, 2) := by decide +kernel
theorem zd_L_law_1723 : decode code 1723 = .ok (.if_icmp .eq 5, 3) := by decide +kernel
theorem zd_L_law_1726 : decode code 1726 = .ok (.iconst 0, 1) := by decide +kernel
theorem zd_L_law_1727 : decode code 1727 = .ok (.ireturn, 1) := by decide +kernel
theorem zd_L_law_1728 : decode code 1728 = .ok (.iload 5, 2) := by decide +kernel
theorem zd_L_law_1730 : decode code 1730 = .ok (.ifCond .ne 15, 3) := by decide +kernel
theorem zd_L_law_1733 : decode code 1733 = .ok (.aload_n 3, 1) := by decide +kernel
theorem zd_L_law_1734 : decode code 1734 = .ok (.iconst 0, 1) := by decide +kernel
theorem zd_L_law_1735 : decode code 1735 = .ok (.laload, 1) := by decide +kernel
theorem zd_L_law_1736 : decode code 1736 = .ok (.iload 6, 2) := by decide +kernel
theorem zd_L_law_1738 : decode code 1738 = .ok (.i2l, 1) := by decide +kernel
theorem zd_L_law_1739 : decode code 1739 = .ok (.lcmp, 1) := by decide +kernel
theorem zd_L_law_1740 : decode code 1740 = .ok (.ifCond .eq 5, 3) := by decide +kernel
theorem zd_L_law_1743 : decode code 1743 = .ok (.iconst 0, 1) := by decide +kernel
theorem zd_L_law_1744 : decode code 1744 = .ok (.ireturn, 1) := by decide +kernel
theorem zd_L_law_1745 : decode code 1745 = .ok (.goto 163, 3) := by decide +kernel
theorem zd_L_law_1748 : decode code 1748 = .ok (.aload_n 1, 1) := by decide +kernel
theorem zd_L_law_1749 : decode code 1749 = .ok (.aload_n 0, 1) := by decide +kernel
theorem zd_L_law_1750 : decode code 1750 = .ok (.iload 4, 2) := by decide +kernel
theorem zd_L_law_1752 : decode code 1752 = .ok (.iconst 1, 1) := by decide +kernel
theorem zd_L_law_1753 : decode code 1753 = .ok (.iadd, 1) := by decide +kernel
theorem zd_L_law_1754 : decode code 1754 = .ok (.iaload, 1) := by decide +kernel
theorem zd_L_law_1755 : decode code 1755 = .ok (.aload_n 0, 1) := by decide +kernel
theorem zd_L_law_1756 : decode code 1756 = .ok (.iload 4, 2) := by decide +kernel
theorem zd_L_law_1758 : decode code 1758 = .ok (.iconst 2, 1) := by decide +kernel
theorem zd_L_law_1759 : decode code 1759 = .ok (.iadd, 1) := by decide +kernel
theorem zd_L_law_1760 : decode code 1760 = .ok (.iaload, 1) := by decide +kernel
theorem zd_L_law_1761 : decode code 1761 = .ok (.aload_n 0, 1) := by decide +kernel
theorem zd_L_law_1762 : decode code 1762 = .ok (.iload 4, 2) := by decide +kernel
theorem zd_L_law_1764 : decode code 1764 = .ok (.iconst 3, 1) := by decide +kernel
theorem zd_L_law_1765 : decode code 1765 = .ok (.iadd, 1) := by decide +kernel
theorem zd_L_law_1766 : decode code 1766 = .ok (.iaload, 1) := by decide +kernel
theorem zd_L_law_1767 : decode code 1767 = .ok (.aload_n 3, 1) := by decide +kernel
theorem zd_L_law_1768 : decode code 1768 = .ok (.invokestatic 171, 3) := by decide +kernel
theorem zd_L_law_1771 : decode code 1771 = .ok (.istore 5, 2) := by decide +kernel
theorem zd_L_law_1773 : decode code 1773 = .ok (.aload_n 2, 1) := by decide +kernel
theorem zd_L_law_1774 : decode code 1774 = .ok (.aload_n 0, 1) := by decide +kernel
theorem zd_L_law_1775 : decode code 1775 = .ok (.iload 4, 2) := by decide +kernel
theorem zd_L_law_1777 : decode code 1777 = .ok (.iconst 1, 1) := by decide +kernel
theorem zd_L_law_1778 : decode code 1778 = .ok (.iadd, 1) := by decide +kernel
theorem zd_L_law_1779 : decode code 1779 = .ok (.iaload, 1) := by decide +kernel
theorem zd_L_law_1780 : decode code 1780 = .ok (.aload_n 0, 1) := by decide +kernel
theorem zd_L_law_1781 : decode code 1781 = .ok (.iload 4, 2) := by decide +kernel
theorem zd_L_law_1783 : decode code 1783 = .ok (.iconst 2, 1) := by decide +kernel
theorem zd_L_law_1784 : decode code 1784 = .ok (.iadd, 1) := by decide +kernel
theorem zd_L_law_1785 : decode code 1785 = .ok (.iaload, 1) := by decide +kernel
theorem zd_L_law_1786 : decode code 1786 = .ok (.aload_n 0, 1) := by decide +kernel
theorem zd_L_law_1787 : decode code 1787 = .ok (.iload 4, 2) := by decide +kernel
theorem zd_L_law_1789 : decode code 1789 = .ok (.iconst 3, 1) := by decide +kernel
theorem zd_L_law_1790 : decode code 1790 = .ok (.iadd, 1) := by decide +kernel
theorem zd_L_law_1791 : decode code 1791 = .ok (.iaload, 1) := by decide +kernel
theorem zd_L_law_1792 : decode code 1792 = .ok (.invokevirtual 173, 3) := by decide +kernel
theorem zd_L_law_1795 : decode code 1795 = .ok (.istore 6, 2) := by decide +kernel
theorem zd_L_law_1797 : decode code 1797 = .ok (.aload_n 2, 1) := by decide +kernel
theorem zd_L_law_1798 : decode code 1798 = .ok (.invokevirtual 102, 3) := by decide +kernel
theorem zd_L_law_1801 : decode code 1801 = .ok (.iload 5, 2) := by decide +kernel
theorem zd_L_law_1803 : decode code 1803 = .ok (.if_icmp .eq 5, 3) := by decide +kernel
theorem zd_L_law_1806 : decode code 1806 = .ok (.iconst 0, 1) := by decide +kernel
theorem zd_L_law_1807 : decode code 1807 = .ok (.ireturn, 1) := by decide +kernel
theorem zd_L_law_1808 : decode code 1808 = .ok (.iload 5, 2) := by decide +kernel
theorem zd_L_law_1810 : decode code 1810 = .ok (.ifCond .ne 15, 3) := by decide +kernel
theorem zd_L_law_1813 : decode code 1813 = .ok (.aload_n 3, 1) := by decide +kernel
theorem zd_L_law_1814 : decode code 1814 = .ok (.iconst 0, 1) := by decide +kernel
theorem zd_L_law_1815 : decode code 1815 = .ok (.laload, 1) := by decide +kernel
theorem zd_L_law_1816 : decode code 1816 = .ok (.iload 6, 2) := by decide +kernel
theorem zd_L_law_1818 : decode code 1818 = .ok (.i2l, 1) := by decide +kernel
theorem zd_L_law_1819 : decode code 1819 = .ok (.lcmp, 1) := by decide +kernel
theorem zd_L_law_1820 : decode code 1820 = .ok (.ifCond .eq 5, 3) := by decide +kernel
theorem zd_L_law_1823 : decode code 1823 = .ok (.iconst 0, 1) := by decide +kernel
theorem zd_L_law_1824 : decode code 1824 = .ok (.ireturn, 1) := by decide +kernel
theorem zd_L_law_1825 : decode code 1825 = .ok (.goto 83, 3) := by decide +kernel
theorem zd_L_law_1828 : decode code 1828 = .ok (.aload_n 1, 1) := by decide +kernel
theorem zd_L_law_1829 : decode code 1829 = .ok (.aload_n 0, 1) := by decide +kernel
theorem zd_L_law_1830 : decode code 1830 = .ok (.iload 4, 2) := by decide +kernel
theorem zd_L_law_1832 : decode code 1832 = .ok (.iconst 1, 1) := by decide +kernel
theorem zd_L_law_1833 : decode code 1833 = .ok (.iadd, 1) := by decide +kernel
theorem zd_L_law_1834 : decode code 1834 = .ok (.iaload, 1) := by decide +kernel
theorem zd_L_law_1835 : decode code 1835 = .ok (.aload_n 0, 1) := by decide +kernel
theorem zd_L_law_1836 : decode code 1836 = .ok (.iload 4, 2) := by decide +kernel
theorem zd_L_law_1838 : decode code 1838 = .ok (.iconst 2, 1) := by decide +kernel
theorem zd_L_law_1839 : decode code 1839 = .ok (.iadd, 1) := by decide +kernel
theorem zd_L_law_1840 : decode code 1840 = .ok (.iaload, 1) := by decide +kernel
theorem zd_L_law_1841 : decode code 1841 = .ok (.aload_n 0, 1) := by decide +kernel
theorem zd_L_law_1842 : decode code 1842 = .ok (.iload 4, 2) := by decide +kernel
theorem zd_L_law_1844 : decode code 1844 = .ok (.iconst 3, 1) := by decide +kernel
theorem zd_L_law_1845 : decode code 1845 = .ok (.iadd, 1) := by decide +kernel
theorem zd_L_law_1846 : decode code 1846 = .ok (.iaload, 1) := by decide +kernel
theorem zd_L_law_1847 : decode code 1847 = .ok (.aload_n 3, 1) := by decide +kernel
theorem zd_L_law_1848 : decode code 1848 = .ok (.invokestatic 174, 3) := by decide +kernel
theorem zd_L_law_1851 : decode code 1851 = .ok (.istore 5, 2) := by decide +kernel
theorem zd_L_law_1853 : decode code 1853 = .ok (.aload_n 2, 1) := by decide +kernel
theorem zd_L_law_1854 : decode code 1854 = .ok (.aload_n 0, 1) := by decide +kernel
theorem zd_L_law_1855 : decode code 1855 = .ok (.iload 4, 2) := by decide +kernel
theorem zd_L_law_1857 : decode code 1857 = .ok (.iconst 1, 1) := by decide +kernel
theorem zd_L_law_1858 : decode code 1858 = .ok (.iadd, 1) := by decide +kernel
theorem zd_L_law_1859 : decode code 1859 = .ok (.iaload, 1) := by decide +kernel
theorem zd_L_law_1860 : decode code 1860 = .ok (.aload_n 0, 1) := by decide +kernel
theorem zd_L_law_1861 : decode code 1861 = .ok (.iload 4, 2) := by decide +kernel
theorem zd_L_law_1863 : decode code 1863 = .ok (.iconst 2, 1) := by decide +kernel
theorem zd_L_law_1864 : decode code 1864 = .ok (.iadd, 1) := by decide +kernel
theorem zd_L_law_1865 : decode code 1865 = .ok (.iaload, 1) := by decide +kernel
theorem zd_L_law_1866 : decode code 1866 = .ok (.aload_n 0, 1) := by decide +kernel
theorem zd_L_law_1867 : decode code 1867 = .ok (.iload 4, 2) := by decide +kernel
theorem zd_L_law_1869 : decode code 1869 = .ok (.iconst 3, 1) := by decide +kernel
theorem zd_L_law_1870 : decode code 1870 = .ok (.iadd, 1) := by decide +kernel
theorem zd_L_law_1871 : decode code 1871 = .ok (.iaload, 1) := by decide +kernel
theorem zd_L_law_1872 : decode code 1872 = .ok (.invokevirtual 176, 3) := by decide +kernel
theorem zd_L_law_1875 : decode code 1875 = .ok (.istore 6, 2) := by decide +kernel
theorem zd_L_law_1877 : decode code 1877 = .ok (.aload_n 2, 1) := by decide +kernel
theorem zd_L_law_1878 : decode code 1878 = .ok (.invokevirtual 102, 3) := by decide +kernel
theorem zd_L_law_1881 : decode code 1881 = .ok (.iload 5, 2) := by decide +kernel
theorem zd_L_law_1883 : decode code 1883 = .ok (.if_icmp .eq 5, 3) := by decide +kernel
theorem zd_L_law_1886 : decode code 1886 = .ok (.iconst 0, 1) := by decide +kernel
theorem zd_L_law_1887 : decode code 1887 = .ok (.ireturn, 1) := by decide +kernel
theorem zd_L_law_1888 : decode code 1888 = .ok (.iload 5, 2) := by decide +kernel
theorem zd_L_law_1890 : decode code 1890 = .ok (.ifCond .ne 15, 3) := by decide +kernel
theorem zd_L_law_1893 : decode code 1893 = .ok (.aload_n 3, 1) := by decide +kernel
theorem zd_L_law_1894 : decode code 1894 = .ok (.iconst 0, 1) := by decide +kernel
theorem zd_L_law_1895 : decode code 1895 = .ok (.laload, 1) := by decide +kernel
theorem zd_L_law_1896 : decode code 1896 = .ok (.iload 6, 2) := by decide +kernel
theorem zd_L_law_1898 : decode code 1898 = .ok (.i2l, 1) := by decide +kernel
theorem zd_L_law_1899 : decode code 1899 = .ok (.lcmp, 1) := by decide +kernel
theorem zd_L_law_1900 : decode code 1900 = .ok (.ifCond .eq 5, 3) := by decide +kernel
theorem zd_L_law_1903 : decode code 1903 = .ok (.iconst 0, 1) := by decide +kernel
theorem zd_L_law_1904 : decode code 1904 = .ok (.ireturn, 1) := by decide +kernel
theorem zd_L_law_1905 : decode code 1905 = .ok (.goto 3, 3) := by decide +kernel
theorem zd_L_law_1908 : decode code 1908 = .ok (.iinc 4 6, 3) := by decide +kernel
theorem zd_L_law_1911 : decode code 1911 = .ok (.goto (-1888), 3) := by decide +kernel
theorem zd_L_law_1914 : decode code 1914 = .ok (.iconst 1, 1) := by decide +kernel
theorem zd_L_law_1915 : decode code 1915 = .ok (.ireturn, 1) := by decide +kernel
