/-! what stands at each place of the code (by wip/whole/gen17.py) -/
theorem d0_0 : decode (cod 0) 0 = .ok (.new 7, 3) := by decide +kernel
theorem d0_3 : decode (cod 0) 3 = .ok (.dup, 1) := by decide +kernel
theorem d0_4 : decode (cod 0) 4 = .ok (.invokespecial 9, 3) := by decide +kernel
theorem d0_7 : decode (cod 0) 7 = .ok (.astore_n 1, 1) := by decide +kernel
theorem d0_8 : decode (cod 0) 8 = .ok (.new 10, 3) := by decide +kernel
theorem d0_11 : decode (cod 0) 11 = .ok (.dup, 1) := by decide +kernel
theorem d0_12 : decode (cod 0) 12 = .ok (.invokespecial 12, 3) := by decide +kernel
theorem d0_15 : decode (cod 0) 15 = .ok (.astore_n 2, 1) := by decide +kernel
theorem d0_16 : decode (cod 0) 16 = .ok (.iconst 0, 1) := by decide +kernel
theorem d0_17 : decode (cod 0) 17 = .ok (.istore_n 3, 1) := by decide +kernel
theorem d0_18 : decode (cod 0) 18 = .ok (.iload_n 3, 1) := by decide +kernel
theorem d0_19 : decode (cod 0) 19 = .ok (.aload_n 0, 1) := by decide +kernel
theorem d0_20 : decode (cod 0) 20 = .ok (.arraylength, 1) := by decide +kernel
theorem d0_21 : decode (cod 0) 21 = .ok (.iconst 4, 1) := by decide +kernel
theorem d0_22 : decode (cod 0) 22 = .ok (.isub, 1) := by decide +kernel
theorem d0_23 : decode (cod 0) 23 = .ok (.if_icmp .gt 1378, 3) := by decide +kernel
theorem d0_26 : decode (cod 0) 26 = .ok (.aload_n 0, 1) := by decide +kernel
theorem d0_27 : decode (cod 0) 27 = .ok (.iload_n 3, 1) := by decide +kernel
theorem d0_28 : decode (cod 0) 28 = .ok (.iaload, 1) := by decide +kernel
theorem d0_29 : decode (cod 0) 29 = .ok (.bipush 63, 2) := by decide +kernel
theorem d0_31 : decode (cod 0) 31 = .ok (.iand, 1) := by decide +kernel
theorem d0_32 : decode (cod 0) 32 = .ok (.tableswitch 1363 0 34 #[156, 199, 242, 275, 298, 341, 404, 427, 470, 513, 556, 599, 632, 665, 688, 721, 754, 777, 836, 869, 928, 961, 984, 1027, 1060, 1083, 1126, 1159, 1202, 1245, 1268, 1281, 1314, 1327, 1340], 156) := by decide +kernel
theorem d0_188 : decode (cod 0) 188 = .ok (.aload_n 1, 1) := by decide +kernel
theorem d0_189 : decode (cod 0) 189 = .ok (.aload_n 0, 1) := by decide +kernel
theorem d0_190 : decode (cod 0) 190 = .ok (.iload_n 3, 1) := by decide +kernel
theorem d0_191 : decode (cod 0) 191 = .ok (.iconst 1, 1) := by decide +kernel
theorem d0_192 : decode (cod 0) 192 = .ok (.iadd, 1) := by decide +kernel
theorem d0_193 : decode (cod 0) 193 = .ok (.iaload, 1) := by decide +kernel
theorem d0_194 : decode (cod 0) 194 = .ok (.aload_n 0, 1) := by decide +kernel
theorem d0_195 : decode (cod 0) 195 = .ok (.iload_n 3, 1) := by decide +kernel
theorem d0_196 : decode (cod 0) 196 = .ok (.iconst 2, 1) := by decide +kernel
theorem d0_197 : decode (cod 0) 197 = .ok (.iadd, 1) := by decide +kernel
theorem d0_198 : decode (cod 0) 198 = .ok (.iaload, 1) := by decide +kernel
theorem d0_199 : decode (cod 0) 199 = .ok (.aload_n 0, 1) := by decide +kernel
theorem d0_200 : decode (cod 0) 200 = .ok (.iload_n 3, 1) := by decide +kernel
theorem d0_201 : decode (cod 0) 201 = .ok (.iconst 3, 1) := by decide +kernel
theorem d0_202 : decode (cod 0) 202 = .ok (.iadd, 1) := by decide +kernel
theorem d0_203 : decode (cod 0) 203 = .ok (.iaload, 1) := by decide +kernel
theorem d0_204 : decode (cod 0) 204 = .ok (.invokevirtual 13, 3) := by decide +kernel
theorem d0_207 : decode (cod 0) 207 = .ok (.aload_n 2, 1) := by decide +kernel
theorem d0_208 : decode (cod 0) 208 = .ok (.aload_n 0, 1) := by decide +kernel
theorem d0_209 : decode (cod 0) 209 = .ok (.iload_n 3, 1) := by decide +kernel
theorem d0_210 : decode (cod 0) 210 = .ok (.iconst 1, 1) := by decide +kernel
theorem d0_211 : decode (cod 0) 211 = .ok (.iadd, 1) := by decide +kernel
theorem d0_212 : decode (cod 0) 212 = .ok (.iaload, 1) := by decide +kernel
theorem d0_213 : decode (cod 0) 213 = .ok (.aload_n 0, 1) := by decide +kernel
theorem d0_214 : decode (cod 0) 214 = .ok (.iload_n 3, 1) := by decide +kernel
theorem d0_215 : decode (cod 0) 215 = .ok (.iconst 2, 1) := by decide +kernel
theorem d0_216 : decode (cod 0) 216 = .ok (.iadd, 1) := by decide +kernel
theorem d0_217 : decode (cod 0) 217 = .ok (.iaload, 1) := by decide +kernel
theorem d0_218 : decode (cod 0) 218 = .ok (.aload_n 0, 1) := by decide +kernel
theorem d0_219 : decode (cod 0) 219 = .ok (.iload_n 3, 1) := by decide +kernel
theorem d0_220 : decode (cod 0) 220 = .ok (.iconst 3, 1) := by decide +kernel
theorem d0_221 : decode (cod 0) 221 = .ok (.iadd, 1) := by decide +kernel
theorem d0_222 : decode (cod 0) 222 = .ok (.iaload, 1) := by decide +kernel
theorem d0_223 : decode (cod 0) 223 = .ok (.invokevirtual 17, 3) := by decide +kernel
theorem d0_226 : decode (cod 0) 226 = .ok (.if_icmp .eq 1169, 3) := by decide +kernel
theorem d0_229 : decode (cod 0) 229 = .ok (.iconst 0, 1) := by decide +kernel
theorem d0_230 : decode (cod 0) 230 = .ok (.ireturn, 1) := by decide +kernel
theorem d0_231 : decode (cod 0) 231 = .ok (.aload_n 1, 1) := by decide +kernel
theorem d0_232 : decode (cod 0) 232 = .ok (.aload_n 0, 1) := by decide +kernel
theorem d0_233 : decode (cod 0) 233 = .ok (.iload_n 3, 1) := by decide +kernel
theorem d0_234 : decode (cod 0) 234 = .ok (.iconst 1, 1) := by decide +kernel
theorem d0_235 : decode (cod 0) 235 = .ok (.iadd, 1) := by decide +kernel
theorem d0_236 : decode (cod 0) 236 = .ok (.iaload, 1) := by decide +kernel
theorem d0_237 : decode (cod 0) 237 = .ok (.aload_n 0, 1) := by decide +kernel
theorem d0_238 : decode (cod 0) 238 = .ok (.iload_n 3, 1) := by decide +kernel
theorem d0_239 : decode (cod 0) 239 = .ok (.iconst 2, 1) := by decide +kernel
theorem d0_240 : decode (cod 0) 240 = .ok (.iadd, 1) := by decide +kernel
theorem d0_241 : decode (cod 0) 241 = .ok (.iaload, 1) := by decide +kernel
theorem d0_242 : decode (cod 0) 242 = .ok (.aload_n 0, 1) := by decide +kernel
theorem d0_243 : decode (cod 0) 243 = .ok (.iload_n 3, 1) := by decide +kernel
theorem d0_244 : decode (cod 0) 244 = .ok (.iconst 3, 1) := by decide +kernel
theorem d0_245 : decode (cod 0) 245 = .ok (.iadd, 1) := by decide +kernel
theorem d0_246 : decode (cod 0) 246 = .ok (.iaload, 1) := by decide +kernel
theorem d0_247 : decode (cod 0) 247 = .ok (.invokevirtual 18, 3) := by decide +kernel
theorem d0_250 : decode (cod 0) 250 = .ok (.aload_n 2, 1) := by decide +kernel
theorem d0_251 : decode (cod 0) 251 = .ok (.aload_n 0, 1) := by decide +kernel
theorem d0_252 : decode (cod 0) 252 = .ok (.iload_n 3, 1) := by decide +kernel
theorem d0_253 : decode (cod 0) 253 = .ok (.iconst 1, 1) := by decide +kernel
theorem d0_254 : decode (cod 0) 254 = .ok (.iadd, 1) := by decide +kernel
theorem d0_255 : decode (cod 0) 255 = .ok (.iaload, 1) := by decide +kernel
theorem d0_256 : decode (cod 0) 256 = .ok (.aload_n 0, 1) := by decide +kernel
theorem d0_257 : decode (cod 0) 257 = .ok (.iload_n 3, 1) := by decide +kernel
theorem d0_258 : decode (cod 0) 258 = .ok (.iconst 2, 1) := by decide +kernel
theorem d0_259 : decode (cod 0) 259 = .ok (.iadd, 1) := by decide +kernel
theorem d0_260 : decode (cod 0) 260 = .ok (.iaload, 1) := by decide +kernel
theorem d0_261 : decode (cod 0) 261 = .ok (.aload_n 0, 1) := by decide +kernel
theorem d0_262 : decode (cod 0) 262 = .ok (.iload_n 3, 1) := by decide +kernel
theorem d0_263 : decode (cod 0) 263 = .ok (.iconst 3, 1) := by decide +kernel
theorem d0_264 : decode (cod 0) 264 = .ok (.iadd, 1) := by decide +kernel
theorem d0_265 : decode (cod 0) 265 = .ok (.iaload, 1) := by decide +kernel
theorem d0_266 : decode (cod 0) 266 = .ok (.invokevirtual 21, 3) := by decide +kernel
theorem d0_269 : decode (cod 0) 269 = .ok (.if_icmp .eq 1126, 3) := by decide +kernel
theorem d0_272 : decode (cod 0) 272 = .ok (.iconst 0, 1) := by decide +kernel
theorem d0_273 : decode (cod 0) 273 = .ok (.ireturn, 1) := by decide +kernel
theorem d0_274 : decode (cod 0) 274 = .ok (.aload_n 1, 1) := by decide +kernel
theorem d0_275 : decode (cod 0) 275 = .ok (.aload_n 0, 1) := by decide +kernel
theorem d0_276 : decode (cod 0) 276 = .ok (.iload_n 3, 1) := by decide +kernel
theorem d0_277 : decode (cod 0) 277 = .ok (.iconst 1, 1) := by decide +kernel
theorem d0_278 : decode (cod 0) 278 = .ok (.iadd, 1) := by decide +kernel
theorem d0_279 : decode (cod 0) 279 = .ok (.iaload, 1) := by decide +kernel
theorem d0_280 : decode (cod 0) 280 = .ok (.aload_n 0, 1) := by decide +kernel
theorem d0_281 : decode (cod 0) 281 = .ok (.iload_n 3, 1) := by decide +kernel
theorem d0_282 : decode (cod 0) 282 = .ok (.iconst 2, 1) := by decide +kernel
theorem d0_283 : decode (cod 0) 283 = .ok (.iadd, 1) := by decide +kernel
theorem d0_284 : decode (cod 0) 284 = .ok (.iaload, 1) := by decide +kernel
theorem d0_285 : decode (cod 0) 285 = .ok (.invokevirtual 22, 3) := by decide +kernel
theorem d0_288 : decode (cod 0) 288 = .ok (.aload_n 2, 1) := by decide +kernel
theorem d0_289 : decode (cod 0) 289 = .ok (.aload_n 0, 1) := by decide +kernel
theorem d0_290 : decode (cod 0) 290 = .ok (.iload_n 3, 1) := by decide +kernel
theorem d0_291 : decode (cod 0) 291 = .ok (.iconst 1, 1) := by decide +kernel
theorem d0_292 : decode (cod 0) 292 = .ok (.iadd, 1) := by decide +kernel
theorem d0_293 : decode (cod 0) 293 = .ok (.iaload, 1) := by decide +kernel
theorem d0_294 : decode (cod 0) 294 = .ok (.aload_n 0, 1) := by decide +kernel
theorem d0_295 : decode (cod 0) 295 = .ok (.iload_n 3, 1) := by decide +kernel
theorem d0_296 : decode (cod 0) 296 = .ok (.iconst 2, 1) := by decide +kernel
theorem d0_297 : decode (cod 0) 297 = .ok (.iadd, 1) := by decide +kernel
theorem d0_298 : decode (cod 0) 298 = .ok (.iaload, 1) := by decide +kernel
theorem d0_299 : decode (cod 0) 299 = .ok (.invokevirtual 26, 3) := by decide +kernel
theorem d0_302 : decode (cod 0) 302 = .ok (.if_icmp .eq 1093, 3) := by decide +kernel
theorem d0_305 : decode (cod 0) 305 = .ok (.iconst 0, 1) := by decide +kernel
theorem d0_306 : decode (cod 0) 306 = .ok (.ireturn, 1) := by decide +kernel
theorem d0_307 : decode (cod 0) 307 = .ok (.aload_n 1, 1) := by decide +kernel
theorem d0_308 : decode (cod 0) 308 = .ok (.aload_n 0, 1) := by decide +kernel
theorem d0_309 : decode (cod 0) 309 = .ok (.iload_n 3, 1) := by decide +kernel
theorem d0_310 : decode (cod 0) 310 = .ok (.iconst 1, 1) := by decide +kernel
theorem d0_311 : decode (cod 0) 311 = .ok (.iadd, 1) := by decide +kernel
theorem d0_312 : decode (cod 0) 312 = .ok (.iaload, 1) := by decide +kernel
theorem d0_313 : decode (cod 0) 313 = .ok (.invokevirtual 27, 3) := by decide +kernel
theorem d0_316 : decode (cod 0) 316 = .ok (.aload_n 2, 1) := by decide +kernel
theorem d0_317 : decode (cod 0) 317 = .ok (.aload_n 0, 1) := by decide +kernel
theorem d0_318 : decode (cod 0) 318 = .ok (.iload_n 3, 1) := by decide +kernel
theorem d0_319 : decode (cod 0) 319 = .ok (.iconst 1, 1) := by decide +kernel
theorem d0_320 : decode (cod 0) 320 = .ok (.iadd, 1) := by decide +kernel
theorem d0_321 : decode (cod 0) 321 = .ok (.iaload, 1) := by decide +kernel
theorem d0_322 : decode (cod 0) 322 = .ok (.invokevirtual 31, 3) := by decide +kernel
theorem d0_325 : decode (cod 0) 325 = .ok (.if_icmp .eq 1070, 3) := by decide +kernel
theorem d0_328 : decode (cod 0) 328 = .ok (.iconst 0, 1) := by decide +kernel
theorem d0_329 : decode (cod 0) 329 = .ok (.ireturn, 1) := by decide +kernel
theorem d0_330 : decode (cod 0) 330 = .ok (.aload_n 1, 1) := by decide +kernel
theorem d0_331 : decode (cod 0) 331 = .ok (.aload_n 0, 1) := by decide +kernel
theorem d0_332 : decode (cod 0) 332 = .ok (.iload_n 3, 1) := by decide +kernel
theorem d0_333 : decode (cod 0) 333 = .ok (.iconst 1, 1) := by decide +kernel
theorem d0_334 : decode (cod 0) 334 = .ok (.iadd, 1) := by decide +kernel
theorem d0_335 : decode (cod 0) 335 = .ok (.iaload, 1) := by decide +kernel
theorem d0_336 : decode (cod 0) 336 = .ok (.aload_n 0, 1) := by decide +kernel
theorem d0_337 : decode (cod 0) 337 = .ok (.iload_n 3, 1) := by decide +kernel
theorem d0_338 : decode (cod 0) 338 = .ok (.iconst 2, 1) := by decide +kernel
theorem d0_339 : decode (cod 0) 339 = .ok (.iadd, 1) := by decide +kernel
theorem d0_340 : decode (cod 0) 340 = .ok (.iaload, 1) := by decide +kernel
theorem d0_341 : decode (cod 0) 341 = .ok (.aload_n 0, 1) := by decide +kernel
theorem d0_342 : decode (cod 0) 342 = .ok (.iload_n 3, 1) := by decide +kernel
theorem d0_343 : decode (cod 0) 343 = .ok (.iconst 3, 1) := by decide +kernel
theorem d0_344 : decode (cod 0) 344 = .ok (.iadd, 1) := by decide +kernel
theorem d0_345 : decode (cod 0) 345 = .ok (.iaload, 1) := by decide +kernel
theorem d0_346 : decode (cod 0) 346 = .ok (.invokevirtual 32, 3) := by decide +kernel
theorem d0_349 : decode (cod 0) 349 = .ok (.aload_n 2, 1) := by decide +kernel
theorem d0_350 : decode (cod 0) 350 = .ok (.aload_n 0, 1) := by decide +kernel
theorem d0_351 : decode (cod 0) 351 = .ok (.iload_n 3, 1) := by decide +kernel
theorem d0_352 : decode (cod 0) 352 = .ok (.iconst 1, 1) := by decide +kernel
theorem d0_353 : decode (cod 0) 353 = .ok (.iadd, 1) := by decide +kernel
theorem d0_354 : decode (cod 0) 354 = .ok (.iaload, 1) := by decide +kernel
theorem d0_355 : decode (cod 0) 355 = .ok (.aload_n 0, 1) := by decide +kernel
theorem d0_356 : decode (cod 0) 356 = .ok (.iload_n 3, 1) := by decide +kernel
theorem d0_357 : decode (cod 0) 357 = .ok (.iconst 2, 1) := by decide +kernel
theorem d0_358 : decode (cod 0) 358 = .ok (.iadd, 1) := by decide +kernel
theorem d0_359 : decode (cod 0) 359 = .ok (.iaload, 1) := by decide +kernel
theorem d0_360 : decode (cod 0) 360 = .ok (.aload_n 0, 1) := by decide +kernel
theorem d0_361 : decode (cod 0) 361 = .ok (.iload_n 3, 1) := by decide +kernel
theorem d0_362 : decode (cod 0) 362 = .ok (.iconst 3, 1) := by decide +kernel
theorem d0_363 : decode (cod 0) 363 = .ok (.iadd, 1) := by decide +kernel
theorem d0_364 : decode (cod 0) 364 = .ok (.iaload, 1) := by decide +kernel
theorem d0_365 : decode (cod 0) 365 = .ok (.invokevirtual 35, 3) := by decide +kernel
theorem d0_368 : decode (cod 0) 368 = .ok (.if_icmp .eq 1027, 3) := by decide +kernel
theorem d0_371 : decode (cod 0) 371 = .ok (.iconst 0, 1) := by decide +kernel
theorem d0_372 : decode (cod 0) 372 = .ok (.ireturn, 1) := by decide +kernel
theorem d0_373 : decode (cod 0) 373 = .ok (.aload_n 1, 1) := by decide +kernel
theorem d0_374 : decode (cod 0) 374 = .ok (.aload_n 0, 1) := by decide +kernel
theorem d0_375 : decode (cod 0) 375 = .ok (.iload_n 3, 1) := by decide +kernel
theorem d0_376 : decode (cod 0) 376 = .ok (.iconst 1, 1) := by decide +kernel
theorem d0_377 : decode (cod 0) 377 = .ok (.iadd, 1) := by decide +kernel
theorem d0_378 : decode (cod 0) 378 = .ok (.iaload, 1) := by decide +kernel
theorem d0_379 : decode (cod 0) 379 = .ok (.i2l, 1) := by decide +kernel
theorem d0_380 : decode (cod 0) 380 = .ok (.bipush 32, 2) := by decide +kernel
theorem d0_382 : decode (cod 0) 382 = .ok (.lshl, 1) := by decide +kernel
theorem d0_383 : decode (cod 0) 383 = .ok (.aload_n 0, 1) := by decide +kernel
theorem d0_384 : decode (cod 0) 384 = .ok (.iload_n 3, 1) := by decide +kernel
theorem d0_385 : decode (cod 0) 385 = .ok (.iconst 2, 1) := by decide +kernel
theorem d0_386 : decode (cod 0) 386 = .ok (.iadd, 1) := by decide +kernel
theorem d0_387 : decode (cod 0) 387 = .ok (.iaload, 1) := by decide +kernel
theorem d0_388 : decode (cod 0) 388 = .ok (.i2l, 1) := by decide +kernel
theorem d0_389 : decode (cod 0) 389 = .ok (.ldc2_w 36, 3) := by decide +kernel
theorem d0_392 : decode (cod 0) 392 = .ok (.land, 1) := by decide +kernel
theorem d0_393 : decode (cod 0) 393 = .ok (.lor, 1) := by decide +kernel
theorem d0_394 : decode (cod 0) 394 = .ok (.aload_n 0, 1) := by decide +kernel
theorem d0_395 : decode (cod 0) 395 = .ok (.iload_n 3, 1) := by decide +kernel
theorem d0_396 : decode (cod 0) 396 = .ok (.iconst 3, 1) := by decide +kernel
theorem d0_397 : decode (cod 0) 397 = .ok (.iadd, 1) := by decide +kernel
theorem d0_398 : decode (cod 0) 398 = .ok (.iaload, 1) := by decide +kernel
theorem d0_399 : decode (cod 0) 399 = .ok (.invokevirtual 38, 3) := by decide +kernel
theorem d0_402 : decode (cod 0) 402 = .ok (.aload_n 2, 1) := by decide +kernel
theorem d0_403 : decode (cod 0) 403 = .ok (.aload_n 0, 1) := by decide +kernel
theorem d0_404 : decode (cod 0) 404 = .ok (.iload_n 3, 1) := by decide +kernel
theorem d0_405 : decode (cod 0) 405 = .ok (.iconst 1, 1) := by decide +kernel
theorem d0_406 : decode (cod 0) 406 = .ok (.iadd, 1) := by decide +kernel
theorem d0_407 : decode (cod 0) 407 = .ok (.iaload, 1) := by decide +kernel
theorem d0_408 : decode (cod 0) 408 = .ok (.i2l, 1) := by decide +kernel
theorem d0_409 : decode (cod 0) 409 = .ok (.bipush 32, 2) := by decide +kernel
theorem d0_411 : decode (cod 0) 411 = .ok (.lshl, 1) := by decide +kernel
theorem d0_412 : decode (cod 0) 412 = .ok (.aload_n 0, 1) := by decide +kernel
theorem d0_413 : decode (cod 0) 413 = .ok (.iload_n 3, 1) := by decide +kernel
theorem d0_414 : decode (cod 0) 414 = .ok (.iconst 2, 1) := by decide +kernel
theorem d0_415 : decode (cod 0) 415 = .ok (.iadd, 1) := by decide +kernel
theorem d0_416 : decode (cod 0) 416 = .ok (.iaload, 1) := by decide +kernel
theorem d0_417 : decode (cod 0) 417 = .ok (.i2l, 1) := by decide +kernel
theorem d0_418 : decode (cod 0) 418 = .ok (.ldc2_w 36, 3) := by decide +kernel
theorem d0_421 : decode (cod 0) 421 = .ok (.land, 1) := by decide +kernel
theorem d0_422 : decode (cod 0) 422 = .ok (.lor, 1) := by decide +kernel
theorem d0_423 : decode (cod 0) 423 = .ok (.aload_n 0, 1) := by decide +kernel
theorem d0_424 : decode (cod 0) 424 = .ok (.iload_n 3, 1) := by decide +kernel
theorem d0_425 : decode (cod 0) 425 = .ok (.iconst 3, 1) := by decide +kernel
theorem d0_426 : decode (cod 0) 426 = .ok (.iadd, 1) := by decide +kernel
theorem d0_427 : decode (cod 0) 427 = .ok (.iaload, 1) := by decide +kernel
theorem d0_428 : decode (cod 0) 428 = .ok (.invokevirtual 42, 3) := by decide +kernel
theorem d0_431 : decode (cod 0) 431 = .ok (.if_icmp .eq 964, 3) := by decide +kernel
theorem d0_434 : decode (cod 0) 434 = .ok (.iconst 0, 1) := by decide +kernel
theorem d0_435 : decode (cod 0) 435 = .ok (.ireturn, 1) := by decide +kernel
theorem d0_436 : decode (cod 0) 436 = .ok (.aload_n 1, 1) := by decide +kernel
theorem d0_437 : decode (cod 0) 437 = .ok (.aload_n 0, 1) := by decide +kernel
theorem d0_438 : decode (cod 0) 438 = .ok (.iload_n 3, 1) := by decide +kernel
theorem d0_439 : decode (cod 0) 439 = .ok (.iconst 1, 1) := by decide +kernel
theorem d0_440 : decode (cod 0) 440 = .ok (.iadd, 1) := by decide +kernel
theorem d0_441 : decode (cod 0) 441 = .ok (.iaload, 1) := by decide +kernel
theorem d0_442 : decode (cod 0) 442 = .ok (.invokevirtual 43, 3) := by decide +kernel
theorem d0_445 : decode (cod 0) 445 = .ok (.aload_n 2, 1) := by decide +kernel
theorem d0_446 : decode (cod 0) 446 = .ok (.aload_n 0, 1) := by decide +kernel
theorem d0_447 : decode (cod 0) 447 = .ok (.iload_n 3, 1) := by decide +kernel
theorem d0_448 : decode (cod 0) 448 = .ok (.iconst 1, 1) := by decide +kernel
theorem d0_449 : decode (cod 0) 449 = .ok (.iadd, 1) := by decide +kernel
theorem d0_450 : decode (cod 0) 450 = .ok (.iaload, 1) := by decide +kernel
theorem d0_451 : decode (cod 0) 451 = .ok (.invokevirtual 46, 3) := by decide +kernel
theorem d0_454 : decode (cod 0) 454 = .ok (.if_icmp .eq 941, 3) := by decide +kernel
theorem d0_457 : decode (cod 0) 457 = .ok (.iconst 0, 1) := by decide +kernel
theorem d0_458 : decode (cod 0) 458 = .ok (.ireturn, 1) := by decide +kernel
theorem d0_459 : decode (cod 0) 459 = .ok (.aload_n 1, 1) := by decide +kernel
theorem d0_460 : decode (cod 0) 460 = .ok (.aload_n 0, 1) := by decide +kernel
theorem d0_461 : decode (cod 0) 461 = .ok (.iload_n 3, 1) := by decide +kernel
theorem d0_462 : decode (cod 0) 462 = .ok (.iconst 1, 1) := by decide +kernel
theorem d0_463 : decode (cod 0) 463 = .ok (.iadd, 1) := by decide +kernel
theorem d0_464 : decode (cod 0) 464 = .ok (.iaload, 1) := by decide +kernel
theorem d0_465 : decode (cod 0) 465 = .ok (.aload_n 0, 1) := by decide +kernel
theorem d0_466 : decode (cod 0) 466 = .ok (.iload_n 3, 1) := by decide +kernel
theorem d0_467 : decode (cod 0) 467 = .ok (.iconst 2, 1) := by decide +kernel
theorem d0_468 : decode (cod 0) 468 = .ok (.iadd, 1) := by decide +kernel
theorem d0_469 : decode (cod 0) 469 = .ok (.iaload, 1) := by decide +kernel
theorem d0_470 : decode (cod 0) 470 = .ok (.aload_n 0, 1) := by decide +kernel
theorem d0_471 : decode (cod 0) 471 = .ok (.iload_n 3, 1) := by decide +kernel
theorem d0_472 : decode (cod 0) 472 = .ok (.iconst 3, 1) := by decide +kernel
theorem d0_473 : decode (cod 0) 473 = .ok (.iadd, 1) := by decide +kernel
theorem d0_474 : decode (cod 0) 474 = .ok (.iaload, 1) := by decide +kernel
theorem d0_475 : decode (cod 0) 475 = .ok (.invokevirtual 47, 3) := by decide +kernel
theorem d0_478 : decode (cod 0) 478 = .ok (.aload_n 2, 1) := by decide +kernel
theorem d0_479 : decode (cod 0) 479 = .ok (.aload_n 0, 1) := by decide +kernel
theorem d0_480 : decode (cod 0) 480 = .ok (.iload_n 3, 1) := by decide +kernel
theorem d0_481 : decode (cod 0) 481 = .ok (.iconst 1, 1) := by decide +kernel
theorem d0_482 : decode (cod 0) 482 = .ok (.iadd, 1) := by decide +kernel
theorem d0_483 : decode (cod 0) 483 = .ok (.iaload, 1) := by decide +kernel
theorem d0_484 : decode (cod 0) 484 = .ok (.aload_n 0, 1) := by decide +kernel
theorem d0_485 : decode (cod 0) 485 = .ok (.iload_n 3, 1) := by decide +kernel
theorem d0_486 : decode (cod 0) 486 = .ok (.iconst 2, 1) := by decide +kernel
theorem d0_487 : decode (cod 0) 487 = .ok (.iadd, 1) := by decide +kernel
theorem d0_488 : decode (cod 0) 488 = .ok (.iaload, 1) := by decide +kernel
theorem d0_489 : decode (cod 0) 489 = .ok (.aload_n 0, 1) := by decide +kernel
theorem d0_490 : decode (cod 0) 490 = .ok (.iload_n 3, 1) := by decide +kernel
theorem d0_491 : decode (cod 0) 491 = .ok (.iconst 3, 1) := by decide +kernel
theorem d0_492 : decode (cod 0) 492 = .ok (.iadd, 1) := by decide +kernel
theorem d0_493 : decode (cod 0) 493 = .ok (.iaload, 1) := by decide +kernel
theorem d0_494 : decode (cod 0) 494 = .ok (.invokevirtual 50, 3) := by decide +kernel
theorem d0_497 : decode (cod 0) 497 = .ok (.if_icmp .eq 898, 3) := by decide +kernel
theorem d0_500 : decode (cod 0) 500 = .ok (.iconst 0, 1) := by decide +kernel
theorem d0_501 : decode (cod 0) 501 = .ok (.ireturn, 1) := by decide +kernel
theorem d0_502 : decode (cod 0) 502 = .ok (.aload_n 1, 1) := by decide +kernel
theorem d0_503 : decode (cod 0) 503 = .ok (.aload_n 0, 1) := by decide +kernel
theorem d0_504 : decode (cod 0) 504 = .ok (.iload_n 3, 1) := by decide +kernel
theorem d0_505 : decode (cod 0) 505 = .ok (.iconst 1, 1) := by decide +kernel
theorem d0_506 : decode (cod 0) 506 = .ok (.iadd, 1) := by decide +kernel
theorem d0_507 : decode (cod 0) 507 = .ok (.iaload, 1) := by decide +kernel
theorem d0_508 : decode (cod 0) 508 = .ok (.aload_n 0, 1) := by decide +kernel
theorem d0_509 : decode (cod 0) 509 = .ok (.iload_n 3, 1) := by decide +kernel
theorem d0_510 : decode (cod 0) 510 = .ok (.iconst 2, 1) := by decide +kernel
theorem d0_511 : decode (cod 0) 511 = .ok (.iadd, 1) := by decide +kernel
theorem d0_512 : decode (cod 0) 512 = .ok (.iaload, 1) := by decide +kernel
theorem d0_513 : decode (cod 0) 513 = .ok (.aload_n 0, 1) := by decide +kernel
theorem d0_514 : decode (cod 0) 514 = .ok (.iload_n 3, 1) := by decide +kernel
theorem d0_515 : decode (cod 0) 515 = .ok (.iconst 3, 1) := by decide +kernel
theorem d0_516 : decode (cod 0) 516 = .ok (.iadd, 1) := by decide +kernel
theorem d0_517 : decode (cod 0) 517 = .ok (.iaload, 1) := by decide +kernel
theorem d0_518 : decode (cod 0) 518 = .ok (.invokevirtual 51, 3) := by decide +kernel
theorem d0_521 : decode (cod 0) 521 = .ok (.aload_n 2, 1) := by decide +kernel
theorem d0_522 : decode (cod 0) 522 = .ok (.aload_n 0, 1) := by decide +kernel
theorem d0_523 : decode (cod 0) 523 = .ok (.iload_n 3, 1) := by decide +kernel
theorem d0_524 : decode (cod 0) 524 = .ok (.iconst 1, 1) := by decide +kernel
theorem d0_525 : decode (cod 0) 525 = .ok (.iadd, 1) := by decide +kernel
theorem d0_526 : decode (cod 0) 526 = .ok (.iaload, 1) := by decide +kernel
theorem d0_527 : decode (cod 0) 527 = .ok (.aload_n 0, 1) := by decide +kernel
theorem d0_528 : decode (cod 0) 528 = .ok (.iload_n 3, 1) := by decide +kernel
theorem d0_529 : decode (cod 0) 529 = .ok (.iconst 2, 1) := by decide +kernel
theorem d0_530 : decode (cod 0) 530 = .ok (.iadd, 1) := by decide +kernel
theorem d0_531 : decode (cod 0) 531 = .ok (.iaload, 1) := by decide +kernel
theorem d0_532 : decode (cod 0) 532 = .ok (.aload_n 0, 1) := by decide +kernel
theorem d0_533 : decode (cod 0) 533 = .ok (.iload_n 3, 1) := by decide +kernel
theorem d0_534 : decode (cod 0) 534 = .ok (.iconst 3, 1) := by decide +kernel
theorem d0_535 : decode (cod 0) 535 = .ok (.iadd, 1) := by decide +kernel
theorem d0_536 : decode (cod 0) 536 = .ok (.iaload, 1) := by decide +kernel
theorem d0_537 : decode (cod 0) 537 = .ok (.invokevirtual 54, 3) := by decide +kernel
theorem d0_540 : decode (cod 0) 540 = .ok (.if_icmp .eq 855, 3) := by decide +kernel
theorem d0_543 : decode (cod 0) 543 = .ok (.iconst 0, 1) := by decide +kernel
theorem d0_544 : decode (cod 0) 544 = .ok (.ireturn, 1) := by decide +kernel
theorem d0_545 : decode (cod 0) 545 = .ok (.aload_n 1, 1) := by decide +kernel
theorem d0_546 : decode (cod 0) 546 = .ok (.aload_n 0, 1) := by decide +kernel
theorem d0_547 : decode (cod 0) 547 = .ok (.iload_n 3, 1) := by decide +kernel
theorem d0_548 : decode (cod 0) 548 = .ok (.iconst 1, 1) := by decide +kernel
theorem d0_549 : decode (cod 0) 549 = .ok (.iadd, 1) := by decide +kernel
theorem d0_550 : decode (cod 0) 550 = .ok (.iaload, 1) := by decide +kernel
theorem d0_551 : decode (cod 0) 551 = .ok (.aload_n 0, 1) := by decide +kernel
theorem d0_552 : decode (cod 0) 552 = .ok (.iload_n 3, 1) := by decide +kernel
theorem d0_553 : decode (cod 0) 553 = .ok (.iconst 2, 1) := by decide +kernel
theorem d0_554 : decode (cod 0) 554 = .ok (.iadd, 1) := by decide +kernel
theorem d0_555 : decode (cod 0) 555 = .ok (.iaload, 1) := by decide +kernel
theorem d0_556 : decode (cod 0) 556 = .ok (.aload_n 0, 1) := by decide +kernel
theorem d0_557 : decode (cod 0) 557 = .ok (.iload_n 3, 1) := by decide +kernel
theorem d0_558 : decode (cod 0) 558 = .ok (.iconst 3, 1) := by decide +kernel
theorem d0_559 : decode (cod 0) 559 = .ok (.iadd, 1) := by decide +kernel
theorem d0_560 : decode (cod 0) 560 = .ok (.iaload, 1) := by decide +kernel
theorem d0_561 : decode (cod 0) 561 = .ok (.invokevirtual 55, 3) := by decide +kernel
theorem d0_564 : decode (cod 0) 564 = .ok (.aload_n 2, 1) := by decide +kernel
theorem d0_565 : decode (cod 0) 565 = .ok (.aload_n 0, 1) := by decide +kernel
theorem d0_566 : decode (cod 0) 566 = .ok (.iload_n 3, 1) := by decide +kernel
theorem d0_567 : decode (cod 0) 567 = .ok (.iconst 1, 1) := by decide +kernel
theorem d0_568 : decode (cod 0) 568 = .ok (.iadd, 1) := by decide +kernel
theorem d0_569 : decode (cod 0) 569 = .ok (.iaload, 1) := by decide +kernel
theorem d0_570 : decode (cod 0) 570 = .ok (.aload_n 0, 1) := by decide +kernel
theorem d0_571 : decode (cod 0) 571 = .ok (.iload_n 3, 1) := by decide +kernel
theorem d0_572 : decode (cod 0) 572 = .ok (.iconst 2, 1) := by decide +kernel
theorem d0_573 : decode (cod 0) 573 = .ok (.iadd, 1) := by decide +kernel
theorem d0_574 : decode (cod 0) 574 = .ok (.iaload, 1) := by decide +kernel
theorem d0_575 : decode (cod 0) 575 = .ok (.aload_n 0, 1) := by decide +kernel
theorem d0_576 : decode (cod 0) 576 = .ok (.iload_n 3, 1) := by decide +kernel
theorem d0_577 : decode (cod 0) 577 = .ok (.iconst 3, 1) := by decide +kernel
theorem d0_578 : decode (cod 0) 578 = .ok (.iadd, 1) := by decide +kernel
theorem d0_579 : decode (cod 0) 579 = .ok (.iaload, 1) := by decide +kernel
theorem d0_580 : decode (cod 0) 580 = .ok (.invokevirtual 58, 3) := by decide +kernel
theorem d0_583 : decode (cod 0) 583 = .ok (.if_icmp .eq 812, 3) := by decide +kernel
theorem d0_586 : decode (cod 0) 586 = .ok (.iconst 0, 1) := by decide +kernel
theorem d0_587 : decode (cod 0) 587 = .ok (.ireturn, 1) := by decide +kernel
theorem d0_588 : decode (cod 0) 588 = .ok (.aload_n 1, 1) := by decide +kernel
theorem d0_589 : decode (cod 0) 589 = .ok (.aload_n 0, 1) := by decide +kernel
theorem d0_590 : decode (cod 0) 590 = .ok (.iload_n 3, 1) := by decide +kernel
theorem d0_591 : decode (cod 0) 591 = .ok (.iconst 1, 1) := by decide +kernel
theorem d0_592 : decode (cod 0) 592 = .ok (.iadd, 1) := by decide +kernel
theorem d0_593 : decode (cod 0) 593 = .ok (.iaload, 1) := by decide +kernel
theorem d0_594 : decode (cod 0) 594 = .ok (.aload_n 0, 1) := by decide +kernel
theorem d0_595 : decode (cod 0) 595 = .ok (.iload_n 3, 1) := by decide +kernel
theorem d0_596 : decode (cod 0) 596 = .ok (.iconst 2, 1) := by decide +kernel
theorem d0_597 : decode (cod 0) 597 = .ok (.iadd, 1) := by decide +kernel
theorem d0_598 : decode (cod 0) 598 = .ok (.iaload, 1) := by decide +kernel
theorem d0_599 : decode (cod 0) 599 = .ok (.aload_n 0, 1) := by decide +kernel
theorem d0_600 : decode (cod 0) 600 = .ok (.iload_n 3, 1) := by decide +kernel
theorem d0_601 : decode (cod 0) 601 = .ok (.iconst 3, 1) := by decide +kernel
theorem d0_602 : decode (cod 0) 602 = .ok (.iadd, 1) := by decide +kernel
theorem d0_603 : decode (cod 0) 603 = .ok (.iaload, 1) := by decide +kernel
theorem d0_604 : decode (cod 0) 604 = .ok (.invokevirtual 59, 3) := by decide +kernel
theorem d0_607 : decode (cod 0) 607 = .ok (.aload_n 2, 1) := by decide +kernel
theorem d0_608 : decode (cod 0) 608 = .ok (.aload_n 0, 1) := by decide +kernel
theorem d0_609 : decode (cod 0) 609 = .ok (.iload_n 3, 1) := by decide +kernel
theorem d0_610 : decode (cod 0) 610 = .ok (.iconst 1, 1) := by decide +kernel
theorem d0_611 : decode (cod 0) 611 = .ok (.iadd, 1) := by decide +kernel
theorem d0_612 : decode (cod 0) 612 = .ok (.iaload, 1) := by decide +kernel
theorem d0_613 : decode (cod 0) 613 = .ok (.aload_n 0, 1) := by decide +kernel
theorem d0_614 : decode (cod 0) 614 = .ok (.iload_n 3, 1) := by decide +kernel
theorem d0_615 : decode (cod 0) 615 = .ok (.iconst 2, 1) := by decide +kernel
theorem d0_616 : decode (cod 0) 616 = .ok (.iadd, 1) := by decide +kernel
theorem d0_617 : decode (cod 0) 617 = .ok (.iaload, 1) := by decide +kernel
theorem d0_618 : decode (cod 0) 618 = .ok (.aload_n 0, 1) := by decide +kernel
theorem d0_619 : decode (cod 0) 619 = .ok (.iload_n 3, 1) := by decide +kernel
theorem d0_620 : decode (cod 0) 620 = .ok (.iconst 3, 1) := by decide +kernel
theorem d0_621 : decode (cod 0) 621 = .ok (.iadd, 1) := by decide +kernel
theorem d0_622 : decode (cod 0) 622 = .ok (.iaload, 1) := by decide +kernel
theorem d0_623 : decode (cod 0) 623 = .ok (.invokevirtual 62, 3) := by decide +kernel
theorem d0_626 : decode (cod 0) 626 = .ok (.if_icmp .eq 769, 3) := by decide +kernel
theorem d0_629 : decode (cod 0) 629 = .ok (.iconst 0, 1) := by decide +kernel
theorem d0_630 : decode (cod 0) 630 = .ok (.ireturn, 1) := by decide +kernel
theorem d0_631 : decode (cod 0) 631 = .ok (.aload_n 1, 1) := by decide +kernel
theorem d0_632 : decode (cod 0) 632 = .ok (.aload_n 0, 1) := by decide +kernel
theorem d0_633 : decode (cod 0) 633 = .ok (.iload_n 3, 1) := by decide +kernel
theorem d0_634 : decode (cod 0) 634 = .ok (.iconst 1, 1) := by decide +kernel
theorem d0_635 : decode (cod 0) 635 = .ok (.iadd, 1) := by decide +kernel
theorem d0_636 : decode (cod 0) 636 = .ok (.iaload, 1) := by decide +kernel
theorem d0_637 : decode (cod 0) 637 = .ok (.aload_n 0, 1) := by decide +kernel
theorem d0_638 : decode (cod 0) 638 = .ok (.iload_n 3, 1) := by decide +kernel
theorem d0_639 : decode (cod 0) 639 = .ok (.iconst 2, 1) := by decide +kernel
theorem d0_640 : decode (cod 0) 640 = .ok (.iadd, 1) := by decide +kernel
theorem d0_641 : decode (cod 0) 641 = .ok (.iaload, 1) := by decide +kernel
theorem d0_642 : decode (cod 0) 642 = .ok (.invokevirtual 63, 3) := by decide +kernel
theorem d0_645 : decode (cod 0) 645 = .ok (.aload_n 2, 1) := by decide +kernel
theorem d0_646 : decode (cod 0) 646 = .ok (.aload_n 0, 1) := by decide +kernel
theorem d0_647 : decode (cod 0) 647 = .ok (.iload_n 3, 1) := by decide +kernel
theorem d0_648 : decode (cod 0) 648 = .ok (.iconst 1, 1) := by decide +kernel
theorem d0_649 : decode (cod 0) 649 = .ok (.iadd, 1) := by decide +kernel
theorem d0_650 : decode (cod 0) 650 = .ok (.iaload, 1) := by decide +kernel
theorem d0_651 : decode (cod 0) 651 = .ok (.aload_n 0, 1) := by decide +kernel
theorem d0_652 : decode (cod 0) 652 = .ok (.iload_n 3, 1) := by decide +kernel
theorem d0_653 : decode (cod 0) 653 = .ok (.iconst 2, 1) := by decide +kernel
theorem d0_654 : decode (cod 0) 654 = .ok (.iadd, 1) := by decide +kernel
theorem d0_655 : decode (cod 0) 655 = .ok (.iaload, 1) := by decide +kernel
theorem d0_656 : decode (cod 0) 656 = .ok (.invokevirtual 66, 3) := by decide +kernel
theorem d0_659 : decode (cod 0) 659 = .ok (.if_icmp .eq 736, 3) := by decide +kernel
theorem d0_662 : decode (cod 0) 662 = .ok (.iconst 0, 1) := by decide +kernel
theorem d0_663 : decode (cod 0) 663 = .ok (.ireturn, 1) := by decide +kernel
theorem d0_664 : decode (cod 0) 664 = .ok (.aload_n 1, 1) := by decide +kernel
theorem d0_665 : decode (cod 0) 665 = .ok (.aload_n 0, 1) := by decide +kernel
theorem d0_666 : decode (cod 0) 666 = .ok (.iload_n 3, 1) := by decide +kernel
theorem d0_667 : decode (cod 0) 667 = .ok (.iconst 1, 1) := by decide +kernel
theorem d0_668 : decode (cod 0) 668 = .ok (.iadd, 1) := by decide +kernel
theorem d0_669 : decode (cod 0) 669 = .ok (.iaload, 1) := by decide +kernel
theorem d0_670 : decode (cod 0) 670 = .ok (.aload_n 0, 1) := by decide +kernel
theorem d0_671 : decode (cod 0) 671 = .ok (.iload_n 3, 1) := by decide +kernel
theorem d0_672 : decode (cod 0) 672 = .ok (.iconst 2, 1) := by decide +kernel
theorem d0_673 : decode (cod 0) 673 = .ok (.iadd, 1) := by decide +kernel
theorem d0_674 : decode (cod 0) 674 = .ok (.iaload, 1) := by decide +kernel
theorem d0_675 : decode (cod 0) 675 = .ok (.invokevirtual 67, 3) := by decide +kernel
theorem d0_678 : decode (cod 0) 678 = .ok (.aload_n 2, 1) := by decide +kernel
theorem d0_679 : decode (cod 0) 679 = .ok (.aload_n 0, 1) := by decide +kernel
theorem d0_680 : decode (cod 0) 680 = .ok (.iload_n 3, 1) := by decide +kernel
theorem d0_681 : decode (cod 0) 681 = .ok (.iconst 1, 1) := by decide +kernel
theorem d0_682 : decode (cod 0) 682 = .ok (.iadd, 1) := by decide +kernel
theorem d0_683 : decode (cod 0) 683 = .ok (.iaload, 1) := by decide +kernel
theorem d0_684 : decode (cod 0) 684 = .ok (.aload_n 0, 1) := by decide +kernel
theorem d0_685 : decode (cod 0) 685 = .ok (.iload_n 3, 1) := by decide +kernel
theorem d0_686 : decode (cod 0) 686 = .ok (.iconst 2, 1) := by decide +kernel
theorem d0_687 : decode (cod 0) 687 = .ok (.iadd, 1) := by decide +kernel
theorem d0_688 : decode (cod 0) 688 = .ok (.iaload, 1) := by decide +kernel
theorem d0_689 : decode (cod 0) 689 = .ok (.invokevirtual 70, 3) := by decide +kernel
theorem d0_692 : decode (cod 0) 692 = .ok (.if_icmp .eq 703, 3) := by decide +kernel
theorem d0_695 : decode (cod 0) 695 = .ok (.iconst 0, 1) := by decide +kernel
theorem d0_696 : decode (cod 0) 696 = .ok (.ireturn, 1) := by decide +kernel
theorem d0_697 : decode (cod 0) 697 = .ok (.aload_n 1, 1) := by decide +kernel
theorem d0_698 : decode (cod 0) 698 = .ok (.aload_n 0, 1) := by decide +kernel
theorem d0_699 : decode (cod 0) 699 = .ok (.iload_n 3, 1) := by decide +kernel
theorem d0_700 : decode (cod 0) 700 = .ok (.iconst 1, 1) := by decide +kernel
theorem d0_701 : decode (cod 0) 701 = .ok (.iadd, 1) := by decide +kernel
theorem d0_702 : decode (cod 0) 702 = .ok (.iaload, 1) := by decide +kernel
theorem d0_703 : decode (cod 0) 703 = .ok (.invokevirtual 71, 3) := by decide +kernel
theorem d0_706 : decode (cod 0) 706 = .ok (.aload_n 2, 1) := by decide +kernel
theorem d0_707 : decode (cod 0) 707 = .ok (.aload_n 0, 1) := by decide +kernel
theorem d0_708 : decode (cod 0) 708 = .ok (.iload_n 3, 1) := by decide +kernel
theorem d0_709 : decode (cod 0) 709 = .ok (.iconst 1, 1) := by decide +kernel
theorem d0_710 : decode (cod 0) 710 = .ok (.iadd, 1) := by decide +kernel
theorem d0_711 : decode (cod 0) 711 = .ok (.iaload, 1) := by decide +kernel
theorem d0_712 : decode (cod 0) 712 = .ok (.invokevirtual 74, 3) := by decide +kernel
theorem d0_715 : decode (cod 0) 715 = .ok (.if_icmp .eq 680, 3) := by decide +kernel
theorem d0_718 : decode (cod 0) 718 = .ok (.iconst 0, 1) := by decide +kernel
theorem d0_719 : decode (cod 0) 719 = .ok (.ireturn, 1) := by decide +kernel
theorem d0_720 : decode (cod 0) 720 = .ok (.aload_n 1, 1) := by decide +kernel
theorem d0_721 : decode (cod 0) 721 = .ok (.aload_n 0, 1) := by decide +kernel
theorem d0_722 : decode (cod 0) 722 = .ok (.iload_n 3, 1) := by decide +kernel
theorem d0_723 : decode (cod 0) 723 = .ok (.iconst 1, 1) := by decide +kernel
theorem d0_724 : decode (cod 0) 724 = .ok (.iadd, 1) := by decide +kernel
theorem d0_725 : decode (cod 0) 725 = .ok (.iaload, 1) := by decide +kernel
theorem d0_726 : decode (cod 0) 726 = .ok (.aload_n 0, 1) := by decide +kernel
theorem d0_727 : decode (cod 0) 727 = .ok (.iload_n 3, 1) := by decide +kernel
theorem d0_728 : decode (cod 0) 728 = .ok (.iconst 2, 1) := by decide +kernel
theorem d0_729 : decode (cod 0) 729 = .ok (.iadd, 1) := by decide +kernel
theorem d0_730 : decode (cod 0) 730 = .ok (.iaload, 1) := by decide +kernel
theorem d0_731 : decode (cod 0) 731 = .ok (.invokevirtual 75, 3) := by decide +kernel
theorem d0_734 : decode (cod 0) 734 = .ok (.aload_n 2, 1) := by decide +kernel
theorem d0_735 : decode (cod 0) 735 = .ok (.aload_n 0, 1) := by decide +kernel
theorem d0_736 : decode (cod 0) 736 = .ok (.iload_n 3, 1) := by decide +kernel
theorem d0_737 : decode (cod 0) 737 = .ok (.iconst 1, 1) := by decide +kernel
theorem d0_738 : decode (cod 0) 738 = .ok (.iadd, 1) := by decide +kernel
theorem d0_739 : decode (cod 0) 739 = .ok (.iaload, 1) := by decide +kernel
theorem d0_740 : decode (cod 0) 740 = .ok (.aload_n 0, 1) := by decide +kernel
theorem d0_741 : decode (cod 0) 741 = .ok (.iload_n 3, 1) := by decide +kernel
theorem d0_742 : decode (cod 0) 742 = .ok (.iconst 2, 1) := by decide +kernel
theorem d0_743 : decode (cod 0) 743 = .ok (.iadd, 1) := by decide +kernel
theorem d0_744 : decode (cod 0) 744 = .ok (.iaload, 1) := by decide +kernel
theorem d0_745 : decode (cod 0) 745 = .ok (.invokevirtual 78, 3) := by decide +kernel
theorem d0_748 : decode (cod 0) 748 = .ok (.if_icmp .eq 647, 3) := by decide +kernel
theorem d0_751 : decode (cod 0) 751 = .ok (.iconst 0, 1) := by decide +kernel
theorem d0_752 : decode (cod 0) 752 = .ok (.ireturn, 1) := by decide +kernel
theorem d0_753 : decode (cod 0) 753 = .ok (.aload_n 1, 1) := by decide +kernel
theorem d0_754 : decode (cod 0) 754 = .ok (.aload_n 0, 1) := by decide +kernel
theorem d0_755 : decode (cod 0) 755 = .ok (.iload_n 3, 1) := by decide +kernel
theorem d0_756 : decode (cod 0) 756 = .ok (.iconst 1, 1) := by decide +kernel
theorem d0_757 : decode (cod 0) 757 = .ok (.iadd, 1) := by decide +kernel
theorem d0_758 : decode (cod 0) 758 = .ok (.iaload, 1) := by decide +kernel
theorem d0_759 : decode (cod 0) 759 = .ok (.aload_n 0, 1) := by decide +kernel
theorem d0_760 : decode (cod 0) 760 = .ok (.iload_n 3, 1) := by decide +kernel
theorem d0_761 : decode (cod 0) 761 = .ok (.iconst 2, 1) := by decide +kernel
theorem d0_762 : decode (cod 0) 762 = .ok (.iadd, 1) := by decide +kernel
theorem d0_763 : decode (cod 0) 763 = .ok (.iaload, 1) := by decide +kernel
theorem d0_764 : decode (cod 0) 764 = .ok (.invokevirtual 79, 3) := by decide +kernel
theorem d0_767 : decode (cod 0) 767 = .ok (.aload_n 2, 1) := by decide +kernel
theorem d0_768 : decode (cod 0) 768 = .ok (.aload_n 0, 1) := by decide +kernel
theorem d0_769 : decode (cod 0) 769 = .ok (.iload_n 3, 1) := by decide +kernel
theorem d0_770 : decode (cod 0) 770 = .ok (.iconst 1, 1) := by decide +kernel
theorem d0_771 : decode (cod 0) 771 = .ok (.iadd, 1) := by decide +kernel
theorem d0_772 : decode (cod 0) 772 = .ok (.iaload, 1) := by decide +kernel
theorem d0_773 : decode (cod 0) 773 = .ok (.aload_n 0, 1) := by decide +kernel
theorem d0_774 : decode (cod 0) 774 = .ok (.iload_n 3, 1) := by decide +kernel
theorem d0_775 : decode (cod 0) 775 = .ok (.iconst 2, 1) := by decide +kernel
theorem d0_776 : decode (cod 0) 776 = .ok (.iadd, 1) := by decide +kernel
theorem d0_777 : decode (cod 0) 777 = .ok (.iaload, 1) := by decide +kernel
theorem d0_778 : decode (cod 0) 778 = .ok (.invokevirtual 82, 3) := by decide +kernel
theorem d0_781 : decode (cod 0) 781 = .ok (.if_icmp .eq 614, 3) := by decide +kernel
theorem d0_784 : decode (cod 0) 784 = .ok (.iconst 0, 1) := by decide +kernel
theorem d0_785 : decode (cod 0) 785 = .ok (.ireturn, 1) := by decide +kernel
theorem d0_786 : decode (cod 0) 786 = .ok (.aload_n 1, 1) := by decide +kernel
theorem d0_787 : decode (cod 0) 787 = .ok (.aload_n 0, 1) := by decide +kernel
theorem d0_788 : decode (cod 0) 788 = .ok (.iload_n 3, 1) := by decide +kernel
theorem d0_789 : decode (cod 0) 789 = .ok (.iconst 1, 1) := by decide +kernel
theorem d0_790 : decode (cod 0) 790 = .ok (.iadd, 1) := by decide +kernel
theorem d0_791 : decode (cod 0) 791 = .ok (.iaload, 1) := by decide +kernel
theorem d0_792 : decode (cod 0) 792 = .ok (.invokevirtual 83, 3) := by decide +kernel
theorem d0_795 : decode (cod 0) 795 = .ok (.aload_n 2, 1) := by decide +kernel
theorem d0_796 : decode (cod 0) 796 = .ok (.aload_n 0, 1) := by decide +kernel
theorem d0_797 : decode (cod 0) 797 = .ok (.iload_n 3, 1) := by decide +kernel
theorem d0_798 : decode (cod 0) 798 = .ok (.iconst 1, 1) := by decide +kernel
theorem d0_799 : decode (cod 0) 799 = .ok (.iadd, 1) := by decide +kernel
theorem d0_800 : decode (cod 0) 800 = .ok (.iaload, 1) := by decide +kernel
theorem d0_801 : decode (cod 0) 801 = .ok (.invokevirtual 86, 3) := by decide +kernel
theorem d0_804 : decode (cod 0) 804 = .ok (.if_icmp .eq 591, 3) := by decide +kernel
theorem d0_807 : decode (cod 0) 807 = .ok (.iconst 0, 1) := by decide +kernel
theorem d0_808 : decode (cod 0) 808 = .ok (.ireturn, 1) := by decide +kernel
theorem d0_809 : decode (cod 0) 809 = .ok (.aload_n 1, 1) := by decide +kernel
theorem d0_810 : decode (cod 0) 810 = .ok (.aload_n 0, 1) := by decide +kernel
theorem d0_811 : decode (cod 0) 811 = .ok (.iload_n 3, 1) := by decide +kernel
theorem d0_812 : decode (cod 0) 812 = .ok (.iconst 1, 1) := by decide +kernel
theorem d0_813 : decode (cod 0) 813 = .ok (.iadd, 1) := by decide +kernel
theorem d0_814 : decode (cod 0) 814 = .ok (.iaload, 1) := by decide +kernel
theorem d0_815 : decode (cod 0) 815 = .ok (.aload_n 0, 1) := by decide +kernel
theorem d0_816 : decode (cod 0) 816 = .ok (.iload_n 3, 1) := by decide +kernel
theorem d0_817 : decode (cod 0) 817 = .ok (.iconst 2, 1) := by decide +kernel
theorem d0_818 : decode (cod 0) 818 = .ok (.iadd, 1) := by decide +kernel
theorem d0_819 : decode (cod 0) 819 = .ok (.iaload, 1) := by decide +kernel
theorem d0_820 : decode (cod 0) 820 = .ok (.aload_n 0, 1) := by decide +kernel
theorem d0_821 : decode (cod 0) 821 = .ok (.iload_n 3, 1) := by decide +kernel
theorem d0_822 : decode (cod 0) 822 = .ok (.iconst 3, 1) := by decide +kernel
theorem d0_823 : decode (cod 0) 823 = .ok (.iadd, 1) := by decide +kernel
theorem d0_824 : decode (cod 0) 824 = .ok (.iaload, 1) := by decide +kernel
theorem d0_825 : decode (cod 0) 825 = .ok (.ifCond .eq 7, 3) := by decide +kernel
theorem d0_828 : decode (cod 0) 828 = .ok (.iconst 1, 1) := by decide +kernel
theorem d0_829 : decode (cod 0) 829 = .ok (.goto 4, 3) := by decide +kernel
theorem d0_832 : decode (cod 0) 832 = .ok (.iconst 0, 1) := by decide +kernel
theorem d0_833 : decode (cod 0) 833 = .ok (.invokevirtual 87, 3) := by decide +kernel
theorem d0_836 : decode (cod 0) 836 = .ok (.aload_n 2, 1) := by decide +kernel
theorem d0_837 : decode (cod 0) 837 = .ok (.aload_n 0, 1) := by decide +kernel
theorem d0_838 : decode (cod 0) 838 = .ok (.iload_n 3, 1) := by decide +kernel
theorem d0_839 : decode (cod 0) 839 = .ok (.iconst 1, 1) := by decide +kernel
theorem d0_840 : decode (cod 0) 840 = .ok (.iadd, 1) := by decide +kernel
theorem d0_841 : decode (cod 0) 841 = .ok (.iaload, 1) := by decide +kernel
theorem d0_842 : decode (cod 0) 842 = .ok (.aload_n 0, 1) := by decide +kernel
theorem d0_843 : decode (cod 0) 843 = .ok (.iload_n 3, 1) := by decide +kernel
theorem d0_844 : decode (cod 0) 844 = .ok (.iconst 2, 1) := by decide +kernel
theorem d0_845 : decode (cod 0) 845 = .ok (.iadd, 1) := by decide +kernel
theorem d0_846 : decode (cod 0) 846 = .ok (.iaload, 1) := by decide +kernel
theorem d0_847 : decode (cod 0) 847 = .ok (.aload_n 0, 1) := by decide +kernel
theorem d0_848 : decode (cod 0) 848 = .ok (.iload_n 3, 1) := by decide +kernel
theorem d0_849 : decode (cod 0) 849 = .ok (.iconst 3, 1) := by decide +kernel
theorem d0_850 : decode (cod 0) 850 = .ok (.iadd, 1) := by decide +kernel
theorem d0_851 : decode (cod 0) 851 = .ok (.iaload, 1) := by decide +kernel
theorem d0_852 : decode (cod 0) 852 = .ok (.ifCond .eq 7, 3) := by decide +kernel
theorem d0_855 : decode (cod 0) 855 = .ok (.iconst 1, 1) := by decide +kernel
theorem d0_856 : decode (cod 0) 856 = .ok (.goto 4, 3) := by decide +kernel
theorem d0_859 : decode (cod 0) 859 = .ok (.iconst 0, 1) := by decide +kernel
theorem d0_860 : decode (cod 0) 860 = .ok (.invokevirtual 91, 3) := by decide +kernel
theorem d0_863 : decode (cod 0) 863 = .ok (.if_icmp .eq 532, 3) := by decide +kernel
theorem d0_866 : decode (cod 0) 866 = .ok (.iconst 0, 1) := by decide +kernel
theorem d0_867 : decode (cod 0) 867 = .ok (.ireturn, 1) := by decide +kernel
theorem d0_868 : decode (cod 0) 868 = .ok (.aload_n 1, 1) := by decide +kernel
theorem d0_869 : decode (cod 0) 869 = .ok (.aload_n 0, 1) := by decide +kernel
theorem d0_870 : decode (cod 0) 870 = .ok (.iload_n 3, 1) := by decide +kernel
theorem d0_871 : decode (cod 0) 871 = .ok (.iconst 1, 1) := by decide +kernel
theorem d0_872 : decode (cod 0) 872 = .ok (.iadd, 1) := by decide +kernel
theorem d0_873 : decode (cod 0) 873 = .ok (.iaload, 1) := by decide +kernel
theorem d0_874 : decode (cod 0) 874 = .ok (.aload_n 0, 1) := by decide +kernel
theorem d0_875 : decode (cod 0) 875 = .ok (.iload_n 3, 1) := by decide +kernel
theorem d0_876 : decode (cod 0) 876 = .ok (.iconst 2, 1) := by decide +kernel
theorem d0_877 : decode (cod 0) 877 = .ok (.iadd, 1) := by decide +kernel
theorem d0_878 : decode (cod 0) 878 = .ok (.iaload, 1) := by decide +kernel
theorem d0_879 : decode (cod 0) 879 = .ok (.invokevirtual 92, 3) := by decide +kernel
theorem d0_882 : decode (cod 0) 882 = .ok (.aload_n 2, 1) := by decide +kernel
theorem d0_883 : decode (cod 0) 883 = .ok (.aload_n 0, 1) := by decide +kernel
theorem d0_884 : decode (cod 0) 884 = .ok (.iload_n 3, 1) := by decide +kernel
theorem d0_885 : decode (cod 0) 885 = .ok (.iconst 1, 1) := by decide +kernel
theorem d0_886 : decode (cod 0) 886 = .ok (.iadd, 1) := by decide +kernel
theorem d0_887 : decode (cod 0) 887 = .ok (.iaload, 1) := by decide +kernel
theorem d0_888 : decode (cod 0) 888 = .ok (.aload_n 0, 1) := by decide +kernel
theorem d0_889 : decode (cod 0) 889 = .ok (.iload_n 3, 1) := by decide +kernel
theorem d0_890 : decode (cod 0) 890 = .ok (.iconst 2, 1) := by decide +kernel
theorem d0_891 : decode (cod 0) 891 = .ok (.iadd, 1) := by decide +kernel
theorem d0_892 : decode (cod 0) 892 = .ok (.iaload, 1) := by decide +kernel
theorem d0_893 : decode (cod 0) 893 = .ok (.invokevirtual 95, 3) := by decide +kernel
theorem d0_896 : decode (cod 0) 896 = .ok (.if_icmp .eq 499, 3) := by decide +kernel
theorem d0_899 : decode (cod 0) 899 = .ok (.iconst 0, 1) := by decide +kernel
theorem d0_900 : decode (cod 0) 900 = .ok (.ireturn, 1) := by decide +kernel
theorem d0_901 : decode (cod 0) 901 = .ok (.aload_n 1, 1) := by decide +kernel
theorem d0_902 : decode (cod 0) 902 = .ok (.aload_n 0, 1) := by decide +kernel
theorem d0_903 : decode (cod 0) 903 = .ok (.iload_n 3, 1) := by decide +kernel
theorem d0_904 : decode (cod 0) 904 = .ok (.iconst 1, 1) := by decide +kernel
theorem d0_905 : decode (cod 0) 905 = .ok (.iadd, 1) := by decide +kernel
theorem d0_906 : decode (cod 0) 906 = .ok (.iaload, 1) := by decide +kernel
theorem d0_907 : decode (cod 0) 907 = .ok (.aload_n 0, 1) := by decide +kernel
theorem d0_908 : decode (cod 0) 908 = .ok (.iload_n 3, 1) := by decide +kernel
theorem d0_909 : decode (cod 0) 909 = .ok (.iconst 2, 1) := by decide +kernel
theorem d0_910 : decode (cod 0) 910 = .ok (.iadd, 1) := by decide +kernel
theorem d0_911 : decode (cod 0) 911 = .ok (.iaload, 1) := by decide +kernel
theorem d0_912 : decode (cod 0) 912 = .ok (.aload_n 0, 1) := by decide +kernel
theorem d0_913 : decode (cod 0) 913 = .ok (.iload_n 3, 1) := by decide +kernel
theorem d0_914 : decode (cod 0) 914 = .ok (.iconst 3, 1) := by decide +kernel
theorem d0_915 : decode (cod 0) 915 = .ok (.iadd, 1) := by decide +kernel
theorem d0_916 : decode (cod 0) 916 = .ok (.iaload, 1) := by decide +kernel
theorem d0_917 : decode (cod 0) 917 = .ok (.ifCond .eq 7, 3) := by decide +kernel
theorem d0_920 : decode (cod 0) 920 = .ok (.iconst 1, 1) := by decide +kernel
theorem d0_921 : decode (cod 0) 921 = .ok (.goto 4, 3) := by decide +kernel
theorem d0_924 : decode (cod 0) 924 = .ok (.iconst 0, 1) := by decide +kernel
theorem d0_925 : decode (cod 0) 925 = .ok (.invokevirtual 96, 3) := by decide +kernel
theorem d0_928 : decode (cod 0) 928 = .ok (.aload_n 2, 1) := by decide +kernel
theorem d0_929 : decode (cod 0) 929 = .ok (.aload_n 0, 1) := by decide +kernel
theorem d0_930 : decode (cod 0) 930 = .ok (.iload_n 3, 1) := by decide +kernel
theorem d0_931 : decode (cod 0) 931 = .ok (.iconst 1, 1) := by decide +kernel
theorem d0_932 : decode (cod 0) 932 = .ok (.iadd, 1) := by decide +kernel
theorem d0_933 : decode (cod 0) 933 = .ok (.iaload, 1) := by decide +kernel
theorem d0_934 : decode (cod 0) 934 = .ok (.aload_n 0, 1) := by decide +kernel
theorem d0_935 : decode (cod 0) 935 = .ok (.iload_n 3, 1) := by decide +kernel
theorem d0_936 : decode (cod 0) 936 = .ok (.iconst 2, 1) := by decide +kernel
theorem d0_937 : decode (cod 0) 937 = .ok (.iadd, 1) := by decide +kernel
theorem d0_938 : decode (cod 0) 938 = .ok (.iaload, 1) := by decide +kernel
theorem d0_939 : decode (cod 0) 939 = .ok (.aload_n 0, 1) := by decide +kernel
theorem d0_940 : decode (cod 0) 940 = .ok (.iload_n 3, 1) := by decide +kernel
theorem d0_941 : decode (cod 0) 941 = .ok (.iconst 3, 1) := by decide +kernel
theorem d0_942 : decode (cod 0) 942 = .ok (.iadd, 1) := by decide +kernel
theorem d0_943 : decode (cod 0) 943 = .ok (.iaload, 1) := by decide +kernel
theorem d0_944 : decode (cod 0) 944 = .ok (.ifCond .eq 7, 3) := by decide +kernel
theorem d0_947 : decode (cod 0) 947 = .ok (.iconst 1, 1) := by decide +kernel
theorem d0_948 : decode (cod 0) 948 = .ok (.goto 4, 3) := by decide +kernel
theorem d0_951 : decode (cod 0) 951 = .ok (.iconst 0, 1) := by decide +kernel
theorem d0_952 : decode (cod 0) 952 = .ok (.invokevirtual 99, 3) := by decide +kernel
theorem d0_955 : decode (cod 0) 955 = .ok (.if_icmp .eq 440, 3) := by decide +kernel
theorem d0_958 : decode (cod 0) 958 = .ok (.iconst 0, 1) := by decide +kernel
theorem d0_959 : decode (cod 0) 959 = .ok (.ireturn, 1) := by decide +kernel
theorem d0_960 : decode (cod 0) 960 = .ok (.aload_n 1, 1) := by decide +kernel
theorem d0_961 : decode (cod 0) 961 = .ok (.aload_n 0, 1) := by decide +kernel
theorem d0_962 : decode (cod 0) 962 = .ok (.iload_n 3, 1) := by decide +kernel
theorem d0_963 : decode (cod 0) 963 = .ok (.iconst 1, 1) := by decide +kernel
theorem d0_964 : decode (cod 0) 964 = .ok (.iadd, 1) := by decide +kernel
theorem d0_965 : decode (cod 0) 965 = .ok (.iaload, 1) := by decide +kernel
theorem d0_966 : decode (cod 0) 966 = .ok (.aload_n 0, 1) := by decide +kernel
theorem d0_967 : decode (cod 0) 967 = .ok (.iload_n 3, 1) := by decide +kernel
theorem d0_968 : decode (cod 0) 968 = .ok (.iconst 2, 1) := by decide +kernel
theorem d0_969 : decode (cod 0) 969 = .ok (.iadd, 1) := by decide +kernel
theorem d0_970 : decode (cod 0) 970 = .ok (.iaload, 1) := by decide +kernel
theorem d0_971 : decode (cod 0) 971 = .ok (.invokevirtual 100, 3) := by decide +kernel
theorem d0_974 : decode (cod 0) 974 = .ok (.aload_n 2, 1) := by decide +kernel
theorem d0_975 : decode (cod 0) 975 = .ok (.aload_n 0, 1) := by decide +kernel
theorem d0_976 : decode (cod 0) 976 = .ok (.iload_n 3, 1) := by decide +kernel
theorem d0_977 : decode (cod 0) 977 = .ok (.iconst 1, 1) := by decide +kernel
theorem d0_978 : decode (cod 0) 978 = .ok (.iadd, 1) := by decide +kernel
theorem d0_979 : decode (cod 0) 979 = .ok (.iaload, 1) := by decide +kernel
theorem d0_980 : decode (cod 0) 980 = .ok (.aload_n 0, 1) := by decide +kernel
theorem d0_981 : decode (cod 0) 981 = .ok (.iload_n 3, 1) := by decide +kernel
theorem d0_982 : decode (cod 0) 982 = .ok (.iconst 2, 1) := by decide +kernel
theorem d0_983 : decode (cod 0) 983 = .ok (.iadd, 1) := by decide +kernel
theorem d0_984 : decode (cod 0) 984 = .ok (.iaload, 1) := by decide +kernel
theorem d0_985 : decode (cod 0) 985 = .ok (.invokevirtual 103, 3) := by decide +kernel
theorem d0_988 : decode (cod 0) 988 = .ok (.if_icmp .eq 407, 3) := by decide +kernel
theorem d0_991 : decode (cod 0) 991 = .ok (.iconst 0, 1) := by decide +kernel
theorem d0_992 : decode (cod 0) 992 = .ok (.ireturn, 1) := by decide +kernel
theorem d0_993 : decode (cod 0) 993 = .ok (.aload_n 1, 1) := by decide +kernel
theorem d0_994 : decode (cod 0) 994 = .ok (.aload_n 0, 1) := by decide +kernel
theorem d0_995 : decode (cod 0) 995 = .ok (.iload_n 3, 1) := by decide +kernel
theorem d0_996 : decode (cod 0) 996 = .ok (.iconst 1, 1) := by decide +kernel
theorem d0_997 : decode (cod 0) 997 = .ok (.iadd, 1) := by decide +kernel
theorem d0_998 : decode (cod 0) 998 = .ok (.iaload, 1) := by decide +kernel
theorem d0_999 : decode (cod 0) 999 = .ok (.invokevirtual 104, 3) := by decide +kernel
theorem d0_1002 : decode (cod 0) 1002 = .ok (.aload_n 2, 1) := by decide +kernel
theorem d0_1003 : decode (cod 0) 1003 = .ok (.aload_n 0, 1) := by decide +kernel
theorem d0_1004 : decode (cod 0) 1004 = .ok (.iload_n 3, 1) := by decide +kernel
theorem d0_1005 : decode (cod 0) 1005 = .ok (.iconst 1, 1) := by decide +kernel
theorem d0_1006 : decode (cod 0) 1006 = .ok (.iadd, 1) := by decide +kernel
theorem d0_1007 : decode (cod 0) 1007 = .ok (.iaload, 1) := by decide +kernel
theorem d0_1008 : decode (cod 0) 1008 = .ok (.invokevirtual 107, 3) := by decide +kernel
theorem d0_1011 : decode (cod 0) 1011 = .ok (.if_icmp .eq 384, 3) := by decide +kernel
theorem d0_1014 : decode (cod 0) 1014 = .ok (.iconst 0, 1) := by decide +kernel
theorem d0_1015 : decode (cod 0) 1015 = .ok (.ireturn, 1) := by decide +kernel
theorem d0_1016 : decode (cod 0) 1016 = .ok (.aload_n 1, 1) := by decide +kernel
theorem d0_1017 : decode (cod 0) 1017 = .ok (.aload_n 0, 1) := by decide +kernel
theorem d0_1018 : decode (cod 0) 1018 = .ok (.iload_n 3, 1) := by decide +kernel
theorem d0_1019 : decode (cod 0) 1019 = .ok (.iconst 1, 1) := by decide +kernel
theorem d0_1020 : decode (cod 0) 1020 = .ok (.iadd, 1) := by decide +kernel
theorem d0_1021 : decode (cod 0) 1021 = .ok (.iaload, 1) := by decide +kernel
theorem d0_1022 : decode (cod 0) 1022 = .ok (.aload_n 0, 1) := by decide +kernel
theorem d0_1023 : decode (cod 0) 1023 = .ok (.iload_n 3, 1) := by decide +kernel
theorem d0_1024 : decode (cod 0) 1024 = .ok (.iconst 2, 1) := by decide +kernel
theorem d0_1025 : decode (cod 0) 1025 = .ok (.iadd, 1) := by decide +kernel
theorem d0_1026 : decode (cod 0) 1026 = .ok (.iaload, 1) := by decide +kernel
theorem d0_1027 : decode (cod 0) 1027 = .ok (.aload_n 0, 1) := by decide +kernel
theorem d0_1028 : decode (cod 0) 1028 = .ok (.iload_n 3, 1) := by decide +kernel
theorem d0_1029 : decode (cod 0) 1029 = .ok (.iconst 3, 1) := by decide +kernel
theorem d0_1030 : decode (cod 0) 1030 = .ok (.iadd, 1) := by decide +kernel
theorem d0_1031 : decode (cod 0) 1031 = .ok (.iaload, 1) := by decide +kernel
theorem d0_1032 : decode (cod 0) 1032 = .ok (.invokevirtual 108, 3) := by decide +kernel
theorem d0_1035 : decode (cod 0) 1035 = .ok (.aload_n 2, 1) := by decide +kernel
theorem d0_1036 : decode (cod 0) 1036 = .ok (.aload_n 0, 1) := by decide +kernel
theorem d0_1037 : decode (cod 0) 1037 = .ok (.iload_n 3, 1) := by decide +kernel
theorem d0_1038 : decode (cod 0) 1038 = .ok (.iconst 1, 1) := by decide +kernel
theorem d0_1039 : decode (cod 0) 1039 = .ok (.iadd, 1) := by decide +kernel
theorem d0_1040 : decode (cod 0) 1040 = .ok (.iaload, 1) := by decide +kernel
theorem d0_1041 : decode (cod 0) 1041 = .ok (.aload_n 0, 1) := by decide +kernel
theorem d0_1042 : decode (cod 0) 1042 = .ok (.iload_n 3, 1) := by decide +kernel
theorem d0_1043 : decode (cod 0) 1043 = .ok (.iconst 2, 1) := by decide +kernel
theorem d0_1044 : decode (cod 0) 1044 = .ok (.iadd, 1) := by decide +kernel
theorem d0_1045 : decode (cod 0) 1045 = .ok (.iaload, 1) := by decide +kernel
theorem d0_1046 : decode (cod 0) 1046 = .ok (.aload_n 0, 1) := by decide +kernel
theorem d0_1047 : decode (cod 0) 1047 = .ok (.iload_n 3, 1) := by decide +kernel
theorem d0_1048 : decode (cod 0) 1048 = .ok (.iconst 3, 1) := by decide +kernel
theorem d0_1049 : decode (cod 0) 1049 = .ok (.iadd, 1) := by decide +kernel
theorem d0_1050 : decode (cod 0) 1050 = .ok (.iaload, 1) := by decide +kernel
theorem d0_1051 : decode (cod 0) 1051 = .ok (.invokevirtual 111, 3) := by decide +kernel
theorem d0_1054 : decode (cod 0) 1054 = .ok (.if_icmp .eq 341, 3) := by decide +kernel
theorem d0_1057 : decode (cod 0) 1057 = .ok (.iconst 0, 1) := by decide +kernel
theorem d0_1058 : decode (cod 0) 1058 = .ok (.ireturn, 1) := by decide +kernel
theorem d0_1059 : decode (cod 0) 1059 = .ok (.aload_n 1, 1) := by decide +kernel
theorem d0_1060 : decode (cod 0) 1060 = .ok (.aload_n 0, 1) := by decide +kernel
theorem d0_1061 : decode (cod 0) 1061 = .ok (.iload_n 3, 1) := by decide +kernel
theorem d0_1062 : decode (cod 0) 1062 = .ok (.iconst 1, 1) := by decide +kernel
theorem d0_1063 : decode (cod 0) 1063 = .ok (.iadd, 1) := by decide +kernel
theorem d0_1064 : decode (cod 0) 1064 = .ok (.iaload, 1) := by decide +kernel
theorem d0_1065 : decode (cod 0) 1065 = .ok (.aload_n 0, 1) := by decide +kernel
theorem d0_1066 : decode (cod 0) 1066 = .ok (.iload_n 3, 1) := by decide +kernel
theorem d0_1067 : decode (cod 0) 1067 = .ok (.iconst 2, 1) := by decide +kernel
theorem d0_1068 : decode (cod 0) 1068 = .ok (.iadd, 1) := by decide +kernel
theorem d0_1069 : decode (cod 0) 1069 = .ok (.iaload, 1) := by decide +kernel
theorem d0_1070 : decode (cod 0) 1070 = .ok (.invokevirtual 112, 3) := by decide +kernel
theorem d0_1073 : decode (cod 0) 1073 = .ok (.aload_n 2, 1) := by decide +kernel
theorem d0_1074 : decode (cod 0) 1074 = .ok (.aload_n 0, 1) := by decide +kernel
theorem d0_1075 : decode (cod 0) 1075 = .ok (.iload_n 3, 1) := by decide +kernel
theorem d0_1076 : decode (cod 0) 1076 = .ok (.iconst 1, 1) := by decide +kernel
theorem d0_1077 : decode (cod 0) 1077 = .ok (.iadd, 1) := by decide +kernel
theorem d0_1078 : decode (cod 0) 1078 = .ok (.iaload, 1) := by decide +kernel
theorem d0_1079 : decode (cod 0) 1079 = .ok (.aload_n 0, 1) := by decide +kernel
theorem d0_1080 : decode (cod 0) 1080 = .ok (.iload_n 3, 1) := by decide +kernel
theorem d0_1081 : decode (cod 0) 1081 = .ok (.iconst 2, 1) := by decide +kernel
theorem d0_1082 : decode (cod 0) 1082 = .ok (.iadd, 1) := by decide +kernel
theorem d0_1083 : decode (cod 0) 1083 = .ok (.iaload, 1) := by decide +kernel
theorem d0_1084 : decode (cod 0) 1084 = .ok (.invokevirtual 115, 3) := by decide +kernel
theorem d0_1087 : decode (cod 0) 1087 = .ok (.if_icmp .eq 308, 3) := by decide +kernel
theorem d0_1090 : decode (cod 0) 1090 = .ok (.iconst 0, 1) := by decide +kernel
theorem d0_1091 : decode (cod 0) 1091 = .ok (.ireturn, 1) := by decide +kernel
theorem d0_1092 : decode (cod 0) 1092 = .ok (.aload_n 1, 1) := by decide +kernel
theorem d0_1093 : decode (cod 0) 1093 = .ok (.aload_n 0, 1) := by decide +kernel
theorem d0_1094 : decode (cod 0) 1094 = .ok (.iload_n 3, 1) := by decide +kernel
theorem d0_1095 : decode (cod 0) 1095 = .ok (.iconst 1, 1) := by decide +kernel
theorem d0_1096 : decode (cod 0) 1096 = .ok (.iadd, 1) := by decide +kernel
theorem d0_1097 : decode (cod 0) 1097 = .ok (.iaload, 1) := by decide +kernel
theorem d0_1098 : decode (cod 0) 1098 = .ok (.invokevirtual 116, 3) := by decide +kernel
theorem d0_1101 : decode (cod 0) 1101 = .ok (.aload_n 2, 1) := by decide +kernel
theorem d0_1102 : decode (cod 0) 1102 = .ok (.aload_n 0, 1) := by decide +kernel
theorem d0_1103 : decode (cod 0) 1103 = .ok (.iload_n 3, 1) := by decide +kernel
theorem d0_1104 : decode (cod 0) 1104 = .ok (.iconst 1, 1) := by decide +kernel
theorem d0_1105 : decode (cod 0) 1105 = .ok (.iadd, 1) := by decide +kernel
theorem d0_1106 : decode (cod 0) 1106 = .ok (.iaload, 1) := by decide +kernel
theorem d0_1107 : decode (cod 0) 1107 = .ok (.invokevirtual 119, 3) := by decide +kernel
theorem d0_1110 : decode (cod 0) 1110 = .ok (.if_icmp .eq 285, 3) := by decide +kernel
theorem d0_1113 : decode (cod 0) 1113 = .ok (.iconst 0, 1) := by decide +kernel
theorem d0_1114 : decode (cod 0) 1114 = .ok (.ireturn, 1) := by decide +kernel
theorem d0_1115 : decode (cod 0) 1115 = .ok (.aload_n 1, 1) := by decide +kernel
theorem d0_1116 : decode (cod 0) 1116 = .ok (.aload_n 0, 1) := by decide +kernel
theorem d0_1117 : decode (cod 0) 1117 = .ok (.iload_n 3, 1) := by decide +kernel
theorem d0_1118 : decode (cod 0) 1118 = .ok (.iconst 1, 1) := by decide +kernel
theorem d0_1119 : decode (cod 0) 1119 = .ok (.iadd, 1) := by decide +kernel
theorem d0_1120 : decode (cod 0) 1120 = .ok (.iaload, 1) := by decide +kernel
theorem d0_1121 : decode (cod 0) 1121 = .ok (.aload_n 0, 1) := by decide +kernel
theorem d0_1122 : decode (cod 0) 1122 = .ok (.iload_n 3, 1) := by decide +kernel
theorem d0_1123 : decode (cod 0) 1123 = .ok (.iconst 2, 1) := by decide +kernel
theorem d0_1124 : decode (cod 0) 1124 = .ok (.iadd, 1) := by decide +kernel
theorem d0_1125 : decode (cod 0) 1125 = .ok (.iaload, 1) := by decide +kernel
theorem d0_1126 : decode (cod 0) 1126 = .ok (.aload_n 0, 1) := by decide +kernel
theorem d0_1127 : decode (cod 0) 1127 = .ok (.iload_n 3, 1) := by decide +kernel
theorem d0_1128 : decode (cod 0) 1128 = .ok (.iconst 3, 1) := by decide +kernel
theorem d0_1129 : decode (cod 0) 1129 = .ok (.iadd, 1) := by decide +kernel
theorem d0_1130 : decode (cod 0) 1130 = .ok (.iaload, 1) := by decide +kernel
theorem d0_1131 : decode (cod 0) 1131 = .ok (.invokevirtual 120, 3) := by decide +kernel
theorem d0_1134 : decode (cod 0) 1134 = .ok (.aload_n 2, 1) := by decide +kernel
theorem d0_1135 : decode (cod 0) 1135 = .ok (.aload_n 0, 1) := by decide +kernel
theorem d0_1136 : decode (cod 0) 1136 = .ok (.iload_n 3, 1) := by decide +kernel
theorem d0_1137 : decode (cod 0) 1137 = .ok (.iconst 1, 1) := by decide +kernel
theorem d0_1138 : decode (cod 0) 1138 = .ok (.iadd, 1) := by decide +kernel
theorem d0_1139 : decode (cod 0) 1139 = .ok (.iaload, 1) := by decide +kernel
theorem d0_1140 : decode (cod 0) 1140 = .ok (.aload_n 0, 1) := by decide +kernel
theorem d0_1141 : decode (cod 0) 1141 = .ok (.iload_n 3, 1) := by decide +kernel
theorem d0_1142 : decode (cod 0) 1142 = .ok (.iconst 2, 1) := by decide +kernel
theorem d0_1143 : decode (cod 0) 1143 = .ok (.iadd, 1) := by decide +kernel
theorem d0_1144 : decode (cod 0) 1144 = .ok (.iaload, 1) := by decide +kernel
theorem d0_1145 : decode (cod 0) 1145 = .ok (.aload_n 0, 1) := by decide +kernel
theorem d0_1146 : decode (cod 0) 1146 = .ok (.iload_n 3, 1) := by decide +kernel
theorem d0_1147 : decode (cod 0) 1147 = .ok (.iconst 3, 1) := by decide +kernel
theorem d0_1148 : decode (cod 0) 1148 = .ok (.iadd, 1) := by decide +kernel
theorem d0_1149 : decode (cod 0) 1149 = .ok (.iaload, 1) := by decide +kernel
theorem d0_1150 : decode (cod 0) 1150 = .ok (.invokevirtual 123, 3) := by decide +kernel
theorem d0_1153 : decode (cod 0) 1153 = .ok (.if_icmp .eq 242, 3) := by decide +kernel
theorem d0_1156 : decode (cod 0) 1156 = .ok (.iconst 0, 1) := by decide +kernel
theorem d0_1157 : decode (cod 0) 1157 = .ok (.ireturn, 1) := by decide +kernel
theorem d0_1158 : decode (cod 0) 1158 = .ok (.aload_n 1, 1) := by decide +kernel
theorem d0_1159 : decode (cod 0) 1159 = .ok (.aload_n 0, 1) := by decide +kernel
theorem d0_1160 : decode (cod 0) 1160 = .ok (.iload_n 3, 1) := by decide +kernel
theorem d0_1161 : decode (cod 0) 1161 = .ok (.iconst 1, 1) := by decide +kernel
theorem d0_1162 : decode (cod 0) 1162 = .ok (.iadd, 1) := by decide +kernel
theorem d0_1163 : decode (cod 0) 1163 = .ok (.iaload, 1) := by decide +kernel
theorem d0_1164 : decode (cod 0) 1164 = .ok (.aload_n 0, 1) := by decide +kernel
theorem d0_1165 : decode (cod 0) 1165 = .ok (.iload_n 3, 1) := by decide +kernel
theorem d0_1166 : decode (cod 0) 1166 = .ok (.iconst 2, 1) := by decide +kernel
theorem d0_1167 : decode (cod 0) 1167 = .ok (.iadd, 1) := by decide +kernel
theorem d0_1168 : decode (cod 0) 1168 = .ok (.iaload, 1) := by decide +kernel
theorem d0_1169 : decode (cod 0) 1169 = .ok (.invokevirtual 124, 3) := by decide +kernel
theorem d0_1172 : decode (cod 0) 1172 = .ok (.aload_n 2, 1) := by decide +kernel
theorem d0_1173 : decode (cod 0) 1173 = .ok (.aload_n 0, 1) := by decide +kernel
theorem d0_1174 : decode (cod 0) 1174 = .ok (.iload_n 3, 1) := by decide +kernel
theorem d0_1175 : decode (cod 0) 1175 = .ok (.iconst 1, 1) := by decide +kernel
theorem d0_1176 : decode (cod 0) 1176 = .ok (.iadd, 1) := by decide +kernel
theorem d0_1177 : decode (cod 0) 1177 = .ok (.iaload, 1) := by decide +kernel
theorem d0_1178 : decode (cod 0) 1178 = .ok (.aload_n 0, 1) := by decide +kernel
theorem d0_1179 : decode (cod 0) 1179 = .ok (.iload_n 3, 1) := by decide +kernel
theorem d0_1180 : decode (cod 0) 1180 = .ok (.iconst 2, 1) := by decide +kernel
theorem d0_1181 : decode (cod 0) 1181 = .ok (.iadd, 1) := by decide +kernel
theorem d0_1182 : decode (cod 0) 1182 = .ok (.iaload, 1) := by decide +kernel
theorem d0_1183 : decode (cod 0) 1183 = .ok (.invokevirtual 127, 3) := by decide +kernel
theorem d0_1186 : decode (cod 0) 1186 = .ok (.if_icmp .eq 209, 3) := by decide +kernel
theorem d0_1189 : decode (cod 0) 1189 = .ok (.iconst 0, 1) := by decide +kernel
theorem d0_1190 : decode (cod 0) 1190 = .ok (.ireturn, 1) := by decide +kernel
theorem d0_1191 : decode (cod 0) 1191 = .ok (.aload_n 1, 1) := by decide +kernel
theorem d0_1192 : decode (cod 0) 1192 = .ok (.aload_n 0, 1) := by decide +kernel
theorem d0_1193 : decode (cod 0) 1193 = .ok (.iload_n 3, 1) := by decide +kernel
theorem d0_1194 : decode (cod 0) 1194 = .ok (.iconst 1, 1) := by decide +kernel
theorem d0_1195 : decode (cod 0) 1195 = .ok (.iadd, 1) := by decide +kernel
theorem d0_1196 : decode (cod 0) 1196 = .ok (.iaload, 1) := by decide +kernel
theorem d0_1197 : decode (cod 0) 1197 = .ok (.aload_n 0, 1) := by decide +kernel
theorem d0_1198 : decode (cod 0) 1198 = .ok (.iload_n 3, 1) := by decide +kernel
theorem d0_1199 : decode (cod 0) 1199 = .ok (.iconst 2, 1) := by decide +kernel
theorem d0_1200 : decode (cod 0) 1200 = .ok (.iadd, 1) := by decide +kernel
theorem d0_1201 : decode (cod 0) 1201 = .ok (.iaload, 1) := by decide +kernel
theorem d0_1202 : decode (cod 0) 1202 = .ok (.aload_n 0, 1) := by decide +kernel
theorem d0_1203 : decode (cod 0) 1203 = .ok (.iload_n 3, 1) := by decide +kernel
theorem d0_1204 : decode (cod 0) 1204 = .ok (.iconst 3, 1) := by decide +kernel
theorem d0_1205 : decode (cod 0) 1205 = .ok (.iadd, 1) := by decide +kernel
theorem d0_1206 : decode (cod 0) 1206 = .ok (.iaload, 1) := by decide +kernel
theorem d0_1207 : decode (cod 0) 1207 = .ok (.invokevirtual 128, 3) := by decide +kernel
theorem d0_1210 : decode (cod 0) 1210 = .ok (.aload_n 2, 1) := by decide +kernel
theorem d0_1211 : decode (cod 0) 1211 = .ok (.aload_n 0, 1) := by decide +kernel
theorem d0_1212 : decode (cod 0) 1212 = .ok (.iload_n 3, 1) := by decide +kernel
theorem d0_1213 : decode (cod 0) 1213 = .ok (.iconst 1, 1) := by decide +kernel
theorem d0_1214 : decode (cod 0) 1214 = .ok (.iadd, 1) := by decide +kernel
theorem d0_1215 : decode (cod 0) 1215 = .ok (.iaload, 1) := by decide +kernel
theorem d0_1216 : decode (cod 0) 1216 = .ok (.aload_n 0, 1) := by decide +kernel
theorem d0_1217 : decode (cod 0) 1217 = .ok (.iload_n 3, 1) := by decide +kernel
theorem d0_1218 : decode (cod 0) 1218 = .ok (.iconst 2, 1) := by decide +kernel
theorem d0_1219 : decode (cod 0) 1219 = .ok (.iadd, 1) := by decide +kernel
theorem d0_1220 : decode (cod 0) 1220 = .ok (.iaload, 1) := by decide +kernel
theorem d0_1221 : decode (cod 0) 1221 = .ok (.aload_n 0, 1) := by decide +kernel
theorem d0_1222 : decode (cod 0) 1222 = .ok (.iload_n 3, 1) := by decide +kernel
theorem d0_1223 : decode (cod 0) 1223 = .ok (.iconst 3, 1) := by decide +kernel
theorem d0_1224 : decode (cod 0) 1224 = .ok (.iadd, 1) := by decide +kernel
theorem d0_1225 : decode (cod 0) 1225 = .ok (.iaload, 1) := by decide +kernel
theorem d0_1226 : decode (cod 0) 1226 = .ok (.invokevirtual 131, 3) := by decide +kernel
theorem d0_1229 : decode (cod 0) 1229 = .ok (.if_icmp .eq 166, 3) := by decide +kernel
theorem d0_1232 : decode (cod 0) 1232 = .ok (.iconst 0, 1) := by decide +kernel
theorem d0_1233 : decode (cod 0) 1233 = .ok (.ireturn, 1) := by decide +kernel
theorem d0_1234 : decode (cod 0) 1234 = .ok (.aload_n 1, 1) := by decide +kernel
theorem d0_1235 : decode (cod 0) 1235 = .ok (.aload_n 0, 1) := by decide +kernel
theorem d0_1236 : decode (cod 0) 1236 = .ok (.iload_n 3, 1) := by decide +kernel
theorem d0_1237 : decode (cod 0) 1237 = .ok (.iconst 1, 1) := by decide +kernel
theorem d0_1238 : decode (cod 0) 1238 = .ok (.iadd, 1) := by decide +kernel
theorem d0_1239 : decode (cod 0) 1239 = .ok (.iaload, 1) := by decide +kernel
theorem d0_1240 : decode (cod 0) 1240 = .ok (.aload_n 0, 1) := by decide +kernel
theorem d0_1241 : decode (cod 0) 1241 = .ok (.iload_n 3, 1) := by decide +kernel
theorem d0_1242 : decode (cod 0) 1242 = .ok (.iconst 2, 1) := by decide +kernel
theorem d0_1243 : decode (cod 0) 1243 = .ok (.iadd, 1) := by decide +kernel
theorem d0_1244 : decode (cod 0) 1244 = .ok (.iaload, 1) := by decide +kernel
theorem d0_1245 : decode (cod 0) 1245 = .ok (.aload_n 0, 1) := by decide +kernel
theorem d0_1246 : decode (cod 0) 1246 = .ok (.iload_n 3, 1) := by decide +kernel
theorem d0_1247 : decode (cod 0) 1247 = .ok (.iconst 3, 1) := by decide +kernel
theorem d0_1248 : decode (cod 0) 1248 = .ok (.iadd, 1) := by decide +kernel
theorem d0_1249 : decode (cod 0) 1249 = .ok (.iaload, 1) := by decide +kernel
theorem d0_1250 : decode (cod 0) 1250 = .ok (.invokevirtual 132, 3) := by decide +kernel
theorem d0_1253 : decode (cod 0) 1253 = .ok (.aload_n 2, 1) := by decide +kernel
theorem d0_1254 : decode (cod 0) 1254 = .ok (.aload_n 0, 1) := by decide +kernel
theorem d0_1255 : decode (cod 0) 1255 = .ok (.iload_n 3, 1) := by decide +kernel
theorem d0_1256 : decode (cod 0) 1256 = .ok (.iconst 1, 1) := by decide +kernel
theorem d0_1257 : decode (cod 0) 1257 = .ok (.iadd, 1) := by decide +kernel
theorem d0_1258 : decode (cod 0) 1258 = .ok (.iaload, 1) := by decide +kernel
theorem d0_1259 : decode (cod 0) 1259 = .ok (.aload_n 0, 1) := by decide +kernel
theorem d0_1260 : decode (cod 0) 1260 = .ok (.iload_n 3, 1) := by decide +kernel
theorem d0_1261 : decode (cod 0) 1261 = .ok (.iconst 2, 1) := by decide +kernel
theorem d0_1262 : decode (cod 0) 1262 = .ok (.iadd, 1) := by decide +kernel
theorem d0_1263 : decode (cod 0) 1263 = .ok (.iaload, 1) := by decide +kernel
theorem d0_1264 : decode (cod 0) 1264 = .ok (.aload_n 0, 1) := by decide +kernel
theorem d0_1265 : decode (cod 0) 1265 = .ok (.iload_n 3, 1) := by decide +kernel
theorem d0_1266 : decode (cod 0) 1266 = .ok (.iconst 3, 1) := by decide +kernel
theorem d0_1267 : decode (cod 0) 1267 = .ok (.iadd, 1) := by decide +kernel
theorem d0_1268 : decode (cod 0) 1268 = .ok (.iaload, 1) := by decide +kernel
theorem d0_1269 : decode (cod 0) 1269 = .ok (.invokevirtual 135, 3) := by decide +kernel
theorem d0_1272 : decode (cod 0) 1272 = .ok (.if_icmp .eq 123, 3) := by decide +kernel
theorem d0_1275 : decode (cod 0) 1275 = .ok (.iconst 0, 1) := by decide +kernel
theorem d0_1276 : decode (cod 0) 1276 = .ok (.ireturn, 1) := by decide +kernel
theorem d0_1277 : decode (cod 0) 1277 = .ok (.aload_n 1, 1) := by decide +kernel
theorem d0_1278 : decode (cod 0) 1278 = .ok (.aload_n 0, 1) := by decide +kernel
theorem d0_1279 : decode (cod 0) 1279 = .ok (.iload_n 3, 1) := by decide +kernel
theorem d0_1280 : decode (cod 0) 1280 = .ok (.iconst 1, 1) := by decide +kernel
theorem d0_1281 : decode (cod 0) 1281 = .ok (.iadd, 1) := by decide +kernel
theorem d0_1282 : decode (cod 0) 1282 = .ok (.iaload, 1) := by decide +kernel
theorem d0_1283 : decode (cod 0) 1283 = .ok (.invokevirtual 136, 3) := by decide +kernel
theorem d0_1286 : decode (cod 0) 1286 = .ok (.aload_n 2, 1) := by decide +kernel
theorem d0_1287 : decode (cod 0) 1287 = .ok (.aload_n 0, 1) := by decide +kernel
theorem d0_1288 : decode (cod 0) 1288 = .ok (.iload_n 3, 1) := by decide +kernel
theorem d0_1289 : decode (cod 0) 1289 = .ok (.iconst 1, 1) := by decide +kernel
theorem d0_1290 : decode (cod 0) 1290 = .ok (.iadd, 1) := by decide +kernel
theorem d0_1291 : decode (cod 0) 1291 = .ok (.iaload, 1) := by decide +kernel
theorem d0_1292 : decode (cod 0) 1292 = .ok (.invokevirtual 139, 3) := by decide +kernel
theorem d0_1295 : decode (cod 0) 1295 = .ok (.if_icmp .eq 100, 3) := by decide +kernel
theorem d0_1298 : decode (cod 0) 1298 = .ok (.iconst 0, 1) := by decide +kernel
theorem d0_1299 : decode (cod 0) 1299 = .ok (.ireturn, 1) := by decide +kernel
theorem d0_1300 : decode (cod 0) 1300 = .ok (.aload_n 1, 1) := by decide +kernel
theorem d0_1301 : decode (cod 0) 1301 = .ok (.invokevirtual 140, 3) := by decide +kernel
theorem d0_1304 : decode (cod 0) 1304 = .ok (.aload_n 2, 1) := by decide +kernel
theorem d0_1305 : decode (cod 0) 1305 = .ok (.invokevirtual 144, 3) := by decide +kernel
theorem d0_1308 : decode (cod 0) 1308 = .ok (.if_icmp .eq 87, 3) := by decide +kernel
theorem d0_1311 : decode (cod 0) 1311 = .ok (.iconst 0, 1) := by decide +kernel
theorem d0_1312 : decode (cod 0) 1312 = .ok (.ireturn, 1) := by decide +kernel
theorem d0_1313 : decode (cod 0) 1313 = .ok (.aload_n 1, 1) := by decide +kernel
theorem d0_1314 : decode (cod 0) 1314 = .ok (.aload_n 0, 1) := by decide +kernel
theorem d0_1315 : decode (cod 0) 1315 = .ok (.iload_n 3, 1) := by decide +kernel
theorem d0_1316 : decode (cod 0) 1316 = .ok (.iconst 1, 1) := by decide +kernel
theorem d0_1317 : decode (cod 0) 1317 = .ok (.iadd, 1) := by decide +kernel
theorem d0_1318 : decode (cod 0) 1318 = .ok (.iaload, 1) := by decide +kernel
theorem d0_1319 : decode (cod 0) 1319 = .ok (.aload_n 0, 1) := by decide +kernel
theorem d0_1320 : decode (cod 0) 1320 = .ok (.iload_n 3, 1) := by decide +kernel
theorem d0_1321 : decode (cod 0) 1321 = .ok (.iconst 2, 1) := by decide +kernel
theorem d0_1322 : decode (cod 0) 1322 = .ok (.iadd, 1) := by decide +kernel
theorem d0_1323 : decode (cod 0) 1323 = .ok (.iaload, 1) := by decide +kernel
theorem d0_1324 : decode (cod 0) 1324 = .ok (.invokevirtual 145, 3) := by decide +kernel
theorem d0_1327 : decode (cod 0) 1327 = .ok (.aload_n 2, 1) := by decide +kernel
theorem d0_1328 : decode (cod 0) 1328 = .ok (.aload_n 0, 1) := by decide +kernel
theorem d0_1329 : decode (cod 0) 1329 = .ok (.iload_n 3, 1) := by decide +kernel
theorem d0_1330 : decode (cod 0) 1330 = .ok (.iconst 1, 1) := by decide +kernel
theorem d0_1331 : decode (cod 0) 1331 = .ok (.iadd, 1) := by decide +kernel
theorem d0_1332 : decode (cod 0) 1332 = .ok (.iaload, 1) := by decide +kernel
theorem d0_1333 : decode (cod 0) 1333 = .ok (.aload_n 0, 1) := by decide +kernel
theorem d0_1334 : decode (cod 0) 1334 = .ok (.iload_n 3, 1) := by decide +kernel
theorem d0_1335 : decode (cod 0) 1335 = .ok (.iconst 2, 1) := by decide +kernel
theorem d0_1336 : decode (cod 0) 1336 = .ok (.iadd, 1) := by decide +kernel
theorem d0_1337 : decode (cod 0) 1337 = .ok (.iaload, 1) := by decide +kernel
theorem d0_1338 : decode (cod 0) 1338 = .ok (.invokevirtual 148, 3) := by decide +kernel
theorem d0_1341 : decode (cod 0) 1341 = .ok (.if_icmp .eq 54, 3) := by decide +kernel
theorem d0_1344 : decode (cod 0) 1344 = .ok (.iconst 0, 1) := by decide +kernel
theorem d0_1345 : decode (cod 0) 1345 = .ok (.ireturn, 1) := by decide +kernel
theorem d0_1346 : decode (cod 0) 1346 = .ok (.aload_n 1, 1) := by decide +kernel
theorem d0_1347 : decode (cod 0) 1347 = .ok (.invokevirtual 149, 3) := by decide +kernel
theorem d0_1350 : decode (cod 0) 1350 = .ok (.aload_n 2, 1) := by decide +kernel
theorem d0_1351 : decode (cod 0) 1351 = .ok (.invokevirtual 152, 3) := by decide +kernel
theorem d0_1354 : decode (cod 0) 1354 = .ok (.if_icmp .eq 41, 3) := by decide +kernel
theorem d0_1357 : decode (cod 0) 1357 = .ok (.iconst 0, 1) := by decide +kernel
theorem d0_1358 : decode (cod 0) 1358 = .ok (.ireturn, 1) := by decide +kernel
theorem d0_1359 : decode (cod 0) 1359 = .ok (.aload_n 1, 1) := by decide +kernel
theorem d0_1360 : decode (cod 0) 1360 = .ok (.invokevirtual 153, 3) := by decide +kernel
theorem d0_1363 : decode (cod 0) 1363 = .ok (.aload_n 2, 1) := by decide +kernel
theorem d0_1364 : decode (cod 0) 1364 = .ok (.invokevirtual 156, 3) := by decide +kernel
theorem d0_1367 : decode (cod 0) 1367 = .ok (.if_icmp .eq 28, 3) := by decide +kernel
theorem d0_1370 : decode (cod 0) 1370 = .ok (.iconst 0, 1) := by decide +kernel
theorem d0_1371 : decode (cod 0) 1371 = .ok (.ireturn, 1) := by decide +kernel
theorem d0_1372 : decode (cod 0) 1372 = .ok (.aload_n 1, 1) := by decide +kernel
theorem d0_1373 : decode (cod 0) 1373 = .ok (.aload_n 0, 1) := by decide +kernel
theorem d0_1374 : decode (cod 0) 1374 = .ok (.iload_n 3, 1) := by decide +kernel
theorem d0_1375 : decode (cod 0) 1375 = .ok (.iconst 1, 1) := by decide +kernel
theorem d0_1376 : decode (cod 0) 1376 = .ok (.iadd, 1) := by decide +kernel
theorem d0_1377 : decode (cod 0) 1377 = .ok (.iaload, 1) := by decide +kernel
theorem d0_1378 : decode (cod 0) 1378 = .ok (.invokevirtual 157, 3) := by decide +kernel
theorem d0_1381 : decode (cod 0) 1381 = .ok (.aload_n 2, 1) := by decide +kernel
theorem d0_1382 : decode (cod 0) 1382 = .ok (.aload_n 0, 1) := by decide +kernel
theorem d0_1383 : decode (cod 0) 1383 = .ok (.iload_n 3, 1) := by decide +kernel
theorem d0_1384 : decode (cod 0) 1384 = .ok (.iconst 1, 1) := by decide +kernel
theorem d0_1385 : decode (cod 0) 1385 = .ok (.iadd, 1) := by decide +kernel
theorem d0_1386 : decode (cod 0) 1386 = .ok (.iaload, 1) := by decide +kernel
theorem d0_1387 : decode (cod 0) 1387 = .ok (.invokevirtual 160, 3) := by decide +kernel
theorem d0_1390 : decode (cod 0) 1390 = .ok (.if_icmp .eq 5, 3) := by decide +kernel
theorem d0_1393 : decode (cod 0) 1393 = .ok (.iconst 0, 1) := by decide +kernel
theorem d0_1394 : decode (cod 0) 1394 = .ok (.ireturn, 1) := by decide +kernel
theorem d0_1395 : decode (cod 0) 1395 = .ok (.iinc 3 4, 3) := by decide +kernel
theorem d0_1398 : decode (cod 0) 1398 = .ok (.goto (-1380), 3) := by decide +kernel
theorem d0_1401 : decode (cod 0) 1401 = .ok (.iconst 1, 1) := by decide +kernel
theorem d0_1402 : decode (cod 0) 1402 = .ok (.ireturn, 1) := by decide +kernel
theorem d1_0 : decode (cod 1) 0 = .ok (.aload_n 0, 1) := by decide +kernel
theorem d1_1 : decode (cod 1) 1 = .ok (.invokespecial 3, 3) := by decide +kernel
theorem d1_4 : decode (cod 1) 4 = .ok (.aload_n 0, 1) := by decide +kernel
theorem d1_5 : decode (cod 1) 5 = .ok (.iconst 0, 1) := by decide +kernel
theorem d1_6 : decode (cod 1) 6 = .ok (.putfield 9, 3) := by decide +kernel
theorem d1_9 : decode (cod 1) 9 = .ok (.aload_n 0, 1) := by decide +kernel
theorem d1_10 : decode (cod 1) 10 = .ok (.bipush 60, 2) := by decide +kernel
theorem d1_12 : decode (cod 1) 12 = .ok (.newarray .int, 2) := by decide +kernel
theorem d1_14 : decode (cod 1) 14 = .ok (.putfield 15, 3) := by decide +kernel
theorem d1_17 : decode (cod 1) 17 = .ok (.aload_n 0, 1) := by decide +kernel
theorem d1_18 : decode (cod 1) 18 = .ok (.bipush 60, 2) := by decide +kernel
theorem d1_20 : decode (cod 1) 20 = .ok (.newarray .int, 2) := by decide +kernel
theorem d1_22 : decode (cod 1) 22 = .ok (.putfield 19, 3) := by decide +kernel
theorem d1_25 : decode (cod 1) 25 = .ok (.aload_n 0, 1) := by decide +kernel
theorem d1_26 : decode (cod 1) 26 = .ok (.bipush 60, 2) := by decide +kernel
theorem d1_28 : decode (cod 1) 28 = .ok (.newarray .int, 2) := by decide +kernel
theorem d1_30 : decode (cod 1) 30 = .ok (.putfield 22, 3) := by decide +kernel
theorem d1_33 : decode (cod 1) 33 = .ok (.aload_n 0, 1) := by decide +kernel
theorem d1_34 : decode (cod 1) 34 = .ok (.bipush 60, 2) := by decide +kernel
theorem d1_36 : decode (cod 1) 36 = .ok (.newarray .int, 2) := by decide +kernel
theorem d1_38 : decode (cod 1) 38 = .ok (.putfield 25, 3) := by decide +kernel
theorem d1_41 : decode (cod 1) 41 = .ok (.aload_n 0, 1) := by decide +kernel
theorem d1_42 : decode (cod 1) 42 = .ok (.bipush 60, 2) := by decide +kernel
theorem d1_44 : decode (cod 1) 44 = .ok (.newarray .long, 2) := by decide +kernel
theorem d1_46 : decode (cod 1) 46 = .ok (.putfield 28, 3) := by decide +kernel
theorem d1_49 : decode (cod 1) 49 = .ok (.aload_n 0, 1) := by decide +kernel
theorem d1_50 : decode (cod 1) 50 = .ok (.bipush 60, 2) := by decide +kernel
theorem d1_52 : decode (cod 1) 52 = .ok (.newarray .int, 2) := by decide +kernel
theorem d1_54 : decode (cod 1) 54 = .ok (.putfield 32, 3) := by decide +kernel
theorem d1_57 : decode (cod 1) 57 = .ok (.aload_n 0, 1) := by decide +kernel
theorem d1_58 : decode (cod 1) 58 = .ok (.bipush 60, 2) := by decide +kernel
theorem d1_60 : decode (cod 1) 60 = .ok (.newarray .int, 2) := by decide +kernel
theorem d1_62 : decode (cod 1) 62 = .ok (.putfield 35, 3) := by decide +kernel
theorem d1_65 : decode (cod 1) 65 = .ok (.aload_n 0, 1) := by decide +kernel
theorem d1_66 : decode (cod 1) 66 = .ok (.bipush 60, 2) := by decide +kernel
theorem d1_68 : decode (cod 1) 68 = .ok (.newarray .int, 2) := by decide +kernel
theorem d1_70 : decode (cod 1) 70 = .ok (.putfield 38, 3) := by decide +kernel
theorem d1_73 : decode (cod 1) 73 = .ok (.aload_n 0, 1) := by decide +kernel
theorem d1_74 : decode (cod 1) 74 = .ok (.bipush 60, 2) := by decide +kernel
theorem d1_76 : decode (cod 1) 76 = .ok (.newarray .int, 2) := by decide +kernel
theorem d1_78 : decode (cod 1) 78 = .ok (.putfield 41, 3) := by decide +kernel
theorem d1_81 : decode (cod 1) 81 = .ok (.aload_n 0, 1) := by decide +kernel
theorem d1_82 : decode (cod 1) 82 = .ok (.bipush 60, 2) := by decide +kernel
theorem d1_84 : decode (cod 1) 84 = .ok (.newarray .int, 2) := by decide +kernel
theorem d1_86 : decode (cod 1) 86 = .ok (.putfield 44, 3) := by decide +kernel
theorem d1_89 : decode (cod 1) 89 = .ok (.return_, 1) := by decide +kernel
theorem d2_0 : decode (cod 2) 0 = .ok (.aload_n 0, 1) := by decide +kernel
theorem d2_1 : decode (cod 2) 1 = .ok (.aload_n 1, 1) := by decide +kernel
theorem d2_2 : decode (cod 2) 2 = .ok (.getfield 9, 3) := by decide +kernel
theorem d2_5 : decode (cod 2) 5 = .ok (.putfield 9, 3) := by decide +kernel
theorem d2_8 : decode (cod 2) 8 = .ok (.aload_n 1, 1) := by decide +kernel
theorem d2_9 : decode (cod 2) 9 = .ok (.getfield 15, 3) := by decide +kernel
theorem d2_12 : decode (cod 2) 12 = .ok (.iconst 0, 1) := by decide +kernel
theorem d2_13 : decode (cod 2) 13 = .ok (.aload_n 0, 1) := by decide +kernel
theorem d2_14 : decode (cod 2) 14 = .ok (.getfield 15, 3) := by decide +kernel
theorem d2_17 : decode (cod 2) 17 = .ok (.iconst 0, 1) := by decide +kernel
theorem d2_18 : decode (cod 2) 18 = .ok (.bipush 60, 2) := by decide +kernel
theorem d2_20 : decode (cod 2) 20 = .ok (.invokestatic 47, 3) := by decide +kernel
theorem d2_23 : decode (cod 2) 23 = .ok (.aload_n 1, 1) := by decide +kernel
theorem d2_24 : decode (cod 2) 24 = .ok (.getfield 19, 3) := by decide +kernel
theorem d2_27 : decode (cod 2) 27 = .ok (.iconst 0, 1) := by decide +kernel
theorem d2_28 : decode (cod 2) 28 = .ok (.aload_n 0, 1) := by decide +kernel
theorem d2_29 : decode (cod 2) 29 = .ok (.getfield 19, 3) := by decide +kernel
theorem d2_32 : decode (cod 2) 32 = .ok (.iconst 0, 1) := by decide +kernel
theorem d2_33 : decode (cod 2) 33 = .ok (.bipush 60, 2) := by decide +kernel
theorem d2_35 : decode (cod 2) 35 = .ok (.invokestatic 47, 3) := by decide +kernel
theorem d2_38 : decode (cod 2) 38 = .ok (.aload_n 1, 1) := by decide +kernel
theorem d2_39 : decode (cod 2) 39 = .ok (.getfield 22, 3) := by decide +kernel
theorem d2_42 : decode (cod 2) 42 = .ok (.iconst 0, 1) := by decide +kernel
theorem d2_43 : decode (cod 2) 43 = .ok (.aload_n 0, 1) := by decide +kernel
theorem d2_44 : decode (cod 2) 44 = .ok (.getfield 22, 3) := by decide +kernel
theorem d2_47 : decode (cod 2) 47 = .ok (.iconst 0, 1) := by decide +kernel
theorem d2_48 : decode (cod 2) 48 = .ok (.bipush 60, 2) := by decide +kernel
theorem d2_50 : decode (cod 2) 50 = .ok (.invokestatic 47, 3) := by decide +kernel
theorem d2_53 : decode (cod 2) 53 = .ok (.aload_n 1, 1) := by decide +kernel
theorem d2_54 : decode (cod 2) 54 = .ok (.getfield 25, 3) := by decide +kernel
theorem d2_57 : decode (cod 2) 57 = .ok (.iconst 0, 1) := by decide +kernel
theorem d2_58 : decode (cod 2) 58 = .ok (.aload_n 0, 1) := by decide +kernel
theorem d2_59 : decode (cod 2) 59 = .ok (.getfield 25, 3) := by decide +kernel
theorem d2_62 : decode (cod 2) 62 = .ok (.iconst 0, 1) := by decide +kernel
theorem d2_63 : decode (cod 2) 63 = .ok (.bipush 60, 2) := by decide +kernel
theorem d2_65 : decode (cod 2) 65 = .ok (.invokestatic 47, 3) := by decide +kernel
theorem d2_68 : decode (cod 2) 68 = .ok (.aload_n 1, 1) := by decide +kernel
theorem d2_69 : decode (cod 2) 69 = .ok (.getfield 28, 3) := by decide +kernel
theorem d2_72 : decode (cod 2) 72 = .ok (.iconst 0, 1) := by decide +kernel
theorem d2_73 : decode (cod 2) 73 = .ok (.aload_n 0, 1) := by decide +kernel
theorem d2_74 : decode (cod 2) 74 = .ok (.getfield 28, 3) := by decide +kernel
theorem d2_77 : decode (cod 2) 77 = .ok (.iconst 0, 1) := by decide +kernel
theorem d2_78 : decode (cod 2) 78 = .ok (.bipush 60, 2) := by decide +kernel
theorem d2_80 : decode (cod 2) 80 = .ok (.invokestatic 47, 3) := by decide +kernel
theorem d2_83 : decode (cod 2) 83 = .ok (.aload_n 1, 1) := by decide +kernel
theorem d2_84 : decode (cod 2) 84 = .ok (.getfield 32, 3) := by decide +kernel
theorem d2_87 : decode (cod 2) 87 = .ok (.iconst 0, 1) := by decide +kernel
theorem d2_88 : decode (cod 2) 88 = .ok (.aload_n 0, 1) := by decide +kernel
theorem d2_89 : decode (cod 2) 89 = .ok (.getfield 32, 3) := by decide +kernel
theorem d2_92 : decode (cod 2) 92 = .ok (.iconst 0, 1) := by decide +kernel
theorem d2_93 : decode (cod 2) 93 = .ok (.bipush 60, 2) := by decide +kernel
theorem d2_95 : decode (cod 2) 95 = .ok (.invokestatic 47, 3) := by decide +kernel
theorem d2_98 : decode (cod 2) 98 = .ok (.aload_n 1, 1) := by decide +kernel
theorem d2_99 : decode (cod 2) 99 = .ok (.getfield 35, 3) := by decide +kernel
theorem d2_102 : decode (cod 2) 102 = .ok (.iconst 0, 1) := by decide +kernel
theorem d2_103 : decode (cod 2) 103 = .ok (.aload_n 0, 1) := by decide +kernel
theorem d2_104 : decode (cod 2) 104 = .ok (.getfield 35, 3) := by decide +kernel
theorem d2_107 : decode (cod 2) 107 = .ok (.iconst 0, 1) := by decide +kernel
theorem d2_108 : decode (cod 2) 108 = .ok (.bipush 60, 2) := by decide +kernel
theorem d2_110 : decode (cod 2) 110 = .ok (.invokestatic 47, 3) := by decide +kernel
theorem d2_113 : decode (cod 2) 113 = .ok (.aload_n 1, 1) := by decide +kernel
theorem d2_114 : decode (cod 2) 114 = .ok (.getfield 38, 3) := by decide +kernel
theorem d2_117 : decode (cod 2) 117 = .ok (.iconst 0, 1) := by decide +kernel
theorem d2_118 : decode (cod 2) 118 = .ok (.aload_n 0, 1) := by decide +kernel
theorem d2_119 : decode (cod 2) 119 = .ok (.getfield 38, 3) := by decide +kernel
theorem d2_122 : decode (cod 2) 122 = .ok (.iconst 0, 1) := by decide +kernel
theorem d2_123 : decode (cod 2) 123 = .ok (.bipush 60, 2) := by decide +kernel
theorem d2_125 : decode (cod 2) 125 = .ok (.invokestatic 47, 3) := by decide +kernel
theorem d2_128 : decode (cod 2) 128 = .ok (.aload_n 1, 1) := by decide +kernel
theorem d2_129 : decode (cod 2) 129 = .ok (.getfield 41, 3) := by decide +kernel
theorem d2_132 : decode (cod 2) 132 = .ok (.iconst 0, 1) := by decide +kernel
theorem d2_133 : decode (cod 2) 133 = .ok (.aload_n 0, 1) := by decide +kernel
theorem d2_134 : decode (cod 2) 134 = .ok (.getfield 41, 3) := by decide +kernel
theorem d2_137 : decode (cod 2) 137 = .ok (.iconst 0, 1) := by decide +kernel
theorem d2_138 : decode (cod 2) 138 = .ok (.bipush 60, 2) := by decide +kernel
theorem d2_140 : decode (cod 2) 140 = .ok (.invokestatic 47, 3) := by decide +kernel
theorem d2_143 : decode (cod 2) 143 = .ok (.aload_n 1, 1) := by decide +kernel
theorem d2_144 : decode (cod 2) 144 = .ok (.getfield 44, 3) := by decide +kernel
theorem d2_147 : decode (cod 2) 147 = .ok (.iconst 0, 1) := by decide +kernel
theorem d2_148 : decode (cod 2) 148 = .ok (.aload_n 0, 1) := by decide +kernel
theorem d2_149 : decode (cod 2) 149 = .ok (.getfield 44, 3) := by decide +kernel
theorem d2_152 : decode (cod 2) 152 = .ok (.iconst 0, 1) := by decide +kernel
theorem d2_153 : decode (cod 2) 153 = .ok (.bipush 60, 2) := by decide +kernel
theorem d2_155 : decode (cod 2) 155 = .ok (.invokestatic 47, 3) := by decide +kernel
theorem d2_158 : decode (cod 2) 158 = .ok (.return_, 1) := by decide +kernel
theorem d3_0 : decode (cod 3) 0 = .ok (.iload_n 1, 1) := by decide +kernel
theorem d3_1 : decode (cod 3) 1 = .ok (.ifCond .lt 15, 3) := by decide +kernel
theorem d3_4 : decode (cod 3) 4 = .ok (.iload_n 1, 1) := by decide +kernel
theorem d3_5 : decode (cod 3) 5 = .ok (.aload_n 0, 1) := by decide +kernel
theorem d3_6 : decode (cod 3) 6 = .ok (.getfield 9, 3) := by decide +kernel
theorem d3_9 : decode (cod 3) 9 = .ok (.if_icmp .ge 7, 3) := by decide +kernel
theorem d3_12 : decode (cod 3) 12 = .ok (.iconst 1, 1) := by decide +kernel
theorem d3_13 : decode (cod 3) 13 = .ok (.goto 4, 3) := by decide +kernel
theorem d3_16 : decode (cod 3) 16 = .ok (.iconst 0, 1) := by decide +kernel
theorem d3_17 : decode (cod 3) 17 = .ok (.ireturn, 1) := by decide +kernel
theorem d4_0 : decode (cod 4) 0 = .ok (.aload_n 0, 1) := by decide +kernel
theorem d4_1 : decode (cod 4) 1 = .ok (.getfield 9, 3) := by decide +kernel
theorem d4_4 : decode (cod 4) 4 = .ok (.bipush 60, 2) := by decide +kernel
theorem d4_6 : decode (cod 4) 6 = .ok (.if_icmp .lt 6, 3) := by decide +kernel
theorem d4_9 : decode (cod 4) 9 = .ok (.bipush (-4), 2) := by decide +kernel
theorem d4_11 : decode (cod 4) 11 = .ok (.ireturn, 1) := by decide +kernel
theorem d4_12 : decode (cod 4) 12 = .ok (.aload_n 0, 1) := by decide +kernel
theorem d4_13 : decode (cod 4) 13 = .ok (.getfield 15, 3) := by decide +kernel
theorem d4_16 : decode (cod 4) 16 = .ok (.aload_n 0, 1) := by decide +kernel
theorem d4_17 : decode (cod 4) 17 = .ok (.getfield 9, 3) := by decide +kernel
theorem d4_20 : decode (cod 4) 20 = .ok (.iload_n 2, 1) := by decide +kernel
theorem d4_21 : decode (cod 4) 21 = .ok (.iastore, 1) := by decide +kernel
theorem d4_22 : decode (cod 4) 22 = .ok (.aload_n 0, 1) := by decide +kernel
theorem d4_23 : decode (cod 4) 23 = .ok (.getfield 19, 3) := by decide +kernel
theorem d4_26 : decode (cod 4) 26 = .ok (.aload_n 0, 1) := by decide +kernel
theorem d4_27 : decode (cod 4) 27 = .ok (.getfield 9, 3) := by decide +kernel
theorem d4_30 : decode (cod 4) 30 = .ok (.iload_n 3, 1) := by decide +kernel
theorem d4_31 : decode (cod 4) 31 = .ok (.iastore, 1) := by decide +kernel
theorem d4_32 : decode (cod 4) 32 = .ok (.aload_n 0, 1) := by decide +kernel
theorem d4_33 : decode (cod 4) 33 = .ok (.getfield 22, 3) := by decide +kernel
theorem d4_36 : decode (cod 4) 36 = .ok (.aload_n 0, 1) := by decide +kernel
theorem d4_37 : decode (cod 4) 37 = .ok (.getfield 9, 3) := by decide +kernel
theorem d4_40 : decode (cod 4) 40 = .ok (.iload 4, 2) := by decide +kernel
theorem d4_42 : decode (cod 4) 42 = .ok (.iastore, 1) := by decide +kernel
theorem d4_43 : decode (cod 4) 43 = .ok (.aload_n 0, 1) := by decide +kernel
theorem d4_44 : decode (cod 4) 44 = .ok (.getfield 25, 3) := by decide +kernel
theorem d4_47 : decode (cod 4) 47 = .ok (.aload_n 0, 1) := by decide +kernel
theorem d4_48 : decode (cod 4) 48 = .ok (.getfield 9, 3) := by decide +kernel
theorem d4_51 : decode (cod 4) 51 = .ok (.aload_n 1, 1) := by decide +kernel
theorem d4_52 : decode (cod 4) 52 = .ok (.iload_n 3, 1) := by decide +kernel
theorem d4_53 : decode (cod 4) 53 = .ok (.invokevirtual 53, 3) := by decide +kernel
theorem d4_56 : decode (cod 4) 56 = .ok (.aload_n 1, 1) := by decide +kernel
theorem d4_57 : decode (cod 4) 57 = .ok (.iload 4, 2) := by decide +kernel
theorem d4_59 : decode (cod 4) 59 = .ok (.invokevirtual 53, 3) := by decide +kernel
theorem d4_62 : decode (cod 4) 62 = .ok (.ior, 1) := by decide +kernel
theorem d4_63 : decode (cod 4) 63 = .ok (.iastore, 1) := by decide +kernel
theorem d4_64 : decode (cod 4) 64 = .ok (.aload_n 0, 1) := by decide +kernel
theorem d4_65 : decode (cod 4) 65 = .ok (.getfield 28, 3) := by decide +kernel
theorem d4_68 : decode (cod 4) 68 = .ok (.aload_n 0, 1) := by decide +kernel
theorem d4_69 : decode (cod 4) 69 = .ok (.getfield 9, 3) := by decide +kernel
theorem d4_72 : decode (cod 4) 72 = .ok (.aload_n 1, 1) := by decide +kernel
theorem d4_73 : decode (cod 4) 73 = .ok (.iload_n 3, 1) := by decide +kernel
theorem d4_74 : decode (cod 4) 74 = .ok (.iload 4, 2) := by decide +kernel
theorem d4_76 : decode (cod 4) 76 = .ok (.invokevirtual 59, 3) := by decide +kernel
theorem d4_79 : decode (cod 4) 79 = .ok (.lastore, 1) := by decide +kernel
theorem d4_80 : decode (cod 4) 80 = .ok (.aload_n 0, 1) := by decide +kernel
theorem d4_81 : decode (cod 4) 81 = .ok (.getfield 32, 3) := by decide +kernel
theorem d4_84 : decode (cod 4) 84 = .ok (.aload_n 0, 1) := by decide +kernel
theorem d4_85 : decode (cod 4) 85 = .ok (.getfield 9, 3) := by decide +kernel
theorem d4_88 : decode (cod 4) 88 = .ok (.iload 5, 2) := by decide +kernel
theorem d4_90 : decode (cod 4) 90 = .ok (.iastore, 1) := by decide +kernel
theorem d4_91 : decode (cod 4) 91 = .ok (.aload_n 0, 1) := by decide +kernel
theorem d4_92 : decode (cod 4) 92 = .ok (.getfield 35, 3) := by decide +kernel
theorem d4_95 : decode (cod 4) 95 = .ok (.aload_n 0, 1) := by decide +kernel
theorem d4_96 : decode (cod 4) 96 = .ok (.getfield 9, 3) := by decide +kernel
theorem d4_99 : decode (cod 4) 99 = .ok (.iload 6, 2) := by decide +kernel
theorem d4_101 : decode (cod 4) 101 = .ok (.iastore, 1) := by decide +kernel
theorem d4_102 : decode (cod 4) 102 = .ok (.aload_n 0, 1) := by decide +kernel
theorem d4_103 : decode (cod 4) 103 = .ok (.getfield 38, 3) := by decide +kernel
theorem d4_106 : decode (cod 4) 106 = .ok (.aload_n 0, 1) := by decide +kernel
theorem d4_107 : decode (cod 4) 107 = .ok (.getfield 9, 3) := by decide +kernel
theorem d4_110 : decode (cod 4) 110 = .ok (.iconst (-1), 1) := by decide +kernel
theorem d4_111 : decode (cod 4) 111 = .ok (.iastore, 1) := by decide +kernel
theorem d4_112 : decode (cod 4) 112 = .ok (.aload_n 0, 1) := by decide +kernel
theorem d4_113 : decode (cod 4) 113 = .ok (.getfield 41, 3) := by decide +kernel
theorem d4_116 : decode (cod 4) 116 = .ok (.aload_n 0, 1) := by decide +kernel
theorem d4_117 : decode (cod 4) 117 = .ok (.getfield 9, 3) := by decide +kernel
theorem d4_120 : decode (cod 4) 120 = .ok (.iconst 0, 1) := by decide +kernel
theorem d4_121 : decode (cod 4) 121 = .ok (.iastore, 1) := by decide +kernel
theorem d4_122 : decode (cod 4) 122 = .ok (.aload_n 0, 1) := by decide +kernel
theorem d4_123 : decode (cod 4) 123 = .ok (.dup, 1) := by decide +kernel
theorem d4_124 : decode (cod 4) 124 = .ok (.getfield 9, 3) := by decide +kernel
theorem d4_127 : decode (cod 4) 127 = .ok (.dup_x1, 1) := by decide +kernel
theorem d4_128 : decode (cod 4) 128 = .ok (.iconst 1, 1) := by decide +kernel
theorem d4_129 : decode (cod 4) 129 = .ok (.iadd, 1) := by decide +kernel
theorem d4_130 : decode (cod 4) 130 = .ok (.putfield 9, 3) := by decide +kernel
theorem d4_133 : decode (cod 4) 133 = .ok (.ireturn, 1) := by decide +kernel
theorem d5_0 : decode (cod 5) 0 = .ok (.iload_n 0, 1) := by decide +kernel
theorem d5_1 : decode (cod 5) 1 = .ok (.istore_n 2, 1) := by decide +kernel
theorem d5_2 : decode (cod 5) 2 = .ok (.iconst 0, 1) := by decide +kernel
theorem d5_3 : decode (cod 5) 3 = .ok (.istore_n 3, 1) := by decide +kernel
theorem d5_4 : decode (cod 5) 4 = .ok (.iload_n 3, 1) := by decide +kernel
theorem d5_5 : decode (cod 5) 5 = .ok (.iconst 5, 1) := by decide +kernel
theorem d5_6 : decode (cod 5) 6 = .ok (.if_icmp .ge 31, 3) := by decide +kernel
theorem d5_9 : decode (cod 5) 9 = .ok (.iload_n 2, 1) := by decide +kernel
theorem d5_10 : decode (cod 5) 10 = .ok (.ifCond .lt 27, 3) := by decide +kernel
theorem d5_13 : decode (cod 5) 13 = .ok (.iload_n 2, 1) := by decide +kernel
theorem d5_14 : decode (cod 5) 14 = .ok (.iconst 5, 1) := by decide +kernel
theorem d5_15 : decode (cod 5) 15 = .ok (.if_icmp .ge 22, 3) := by decide +kernel
theorem d5_18 : decode (cod 5) 18 = .ok (.iload_n 2, 1) := by decide +kernel
theorem d5_19 : decode (cod 5) 19 = .ok (.iload_n 1, 1) := by decide +kernel
theorem d5_20 : decode (cod 5) 20 = .ok (.if_icmp .ne 5, 3) := by decide +kernel
theorem d5_23 : decode (cod 5) 23 = .ok (.iconst 1, 1) := by decide +kernel
theorem d5_24 : decode (cod 5) 24 = .ok (.ireturn, 1) := by decide +kernel
theorem d5_25 : decode (cod 5) 25 = .ok (.getstatic 62, 3) := by decide +kernel
theorem d5_28 : decode (cod 5) 28 = .ok (.iload_n 2, 1) := by decide +kernel
theorem d5_29 : decode (cod 5) 29 = .ok (.iaload, 1) := by decide +kernel
theorem d5_30 : decode (cod 5) 30 = .ok (.istore_n 2, 1) := by decide +kernel
theorem d5_31 : decode (cod 5) 31 = .ok (.iinc 3 1, 3) := by decide +kernel
theorem d5_34 : decode (cod 5) 34 = .ok (.goto (-30), 3) := by decide +kernel
theorem d5_37 : decode (cod 5) 37 = .ok (.iconst 0, 1) := by decide +kernel
theorem d5_38 : decode (cod 5) 38 = .ok (.ireturn, 1) := by decide +kernel
theorem d6_0 : decode (cod 6) 0 = .ok (.aload_n 0, 1) := by decide +kernel
theorem d6_1 : decode (cod 6) 1 = .ok (.getfield 15, 3) := by decide +kernel
theorem d6_4 : decode (cod 6) 4 = .ok (.iload_n 1, 1) := by decide +kernel
theorem d6_5 : decode (cod 6) 5 = .ok (.iaload, 1) := by decide +kernel
theorem d6_6 : decode (cod 6) 6 = .ok (.tableswitch 48 2 4 #[26, 35, 46], 26) := by decide +kernel
theorem d6_32 : decode (cod 6) 32 = .ok (.aload_n 0, 1) := by decide +kernel
theorem d6_33 : decode (cod 6) 33 = .ok (.getfield 32, 3) := by decide +kernel
theorem d6_36 : decode (cod 6) 36 = .ok (.iload_n 1, 1) := by decide +kernel
theorem d6_37 : decode (cod 6) 37 = .ok (.iaload, 1) := by decide +kernel
theorem d6_38 : decode (cod 6) 38 = .ok (.iconst 2, 1) := by decide +kernel
theorem d6_39 : decode (cod 6) 39 = .ok (.iadd, 1) := by decide +kernel
theorem d6_40 : decode (cod 6) 40 = .ok (.ireturn, 1) := by decide +kernel
theorem d6_41 : decode (cod 6) 41 = .ok (.iconst 3, 1) := by decide +kernel
theorem d6_42 : decode (cod 6) 42 = .ok (.aload_n 0, 1) := by decide +kernel
theorem d6_43 : decode (cod 6) 43 = .ok (.getfield 32, 3) := by decide +kernel
theorem d6_46 : decode (cod 6) 46 = .ok (.iload_n 1, 1) := by decide +kernel
theorem d6_47 : decode (cod 6) 47 = .ok (.iaload, 1) := by decide +kernel
theorem d6_48 : decode (cod 6) 48 = .ok (.iconst 2, 1) := by decide +kernel
theorem d6_49 : decode (cod 6) 49 = .ok (.iadd, 1) := by decide +kernel
theorem d6_50 : decode (cod 6) 50 = .ok (.imul, 1) := by decide +kernel
theorem d6_51 : decode (cod 6) 51 = .ok (.ireturn, 1) := by decide +kernel
theorem d6_52 : decode (cod 6) 52 = .ok (.iconst 0, 1) := by decide +kernel
theorem d6_53 : decode (cod 6) 53 = .ok (.ireturn, 1) := by decide +kernel
theorem d6_54 : decode (cod 6) 54 = .ok (.aload_n 0, 1) := by decide +kernel
theorem d6_55 : decode (cod 6) 55 = .ok (.getfield 32, 3) := by decide +kernel
theorem d6_58 : decode (cod 6) 58 = .ok (.iload_n 1, 1) := by decide +kernel
theorem d6_59 : decode (cod 6) 59 = .ok (.iaload, 1) := by decide +kernel
theorem d6_60 : decode (cod 6) 60 = .ok (.ireturn, 1) := by decide +kernel
theorem d7_0 : decode (cod 7) 0 = .ok (.aload_n 0, 1) := by decide +kernel
theorem d7_1 : decode (cod 7) 1 = .ok (.getfield 15, 3) := by decide +kernel
theorem d7_4 : decode (cod 7) 4 = .ok (.iload_n 1, 1) := by decide +kernel
theorem d7_5 : decode (cod 7) 5 = .ok (.iaload, 1) := by decide +kernel
theorem d7_6 : decode (cod 7) 6 = .ok (.iconst 4, 1) := by decide +kernel
theorem d7_7 : decode (cod 7) 7 = .ok (.if_icmp .ne 13, 3) := by decide +kernel
theorem d7_10 : decode (cod 7) 10 = .ok (.aload_n 0, 1) := by decide +kernel
theorem d7_11 : decode (cod 7) 11 = .ok (.iload_n 1, 1) := by decide +kernel
theorem d7_12 : decode (cod 7) 12 = .ok (.aload_n 2, 1) := by decide +kernel
theorem d7_13 : decode (cod 7) 13 = .ok (.invokevirtual 65, 3) := by decide +kernel
theorem d7_16 : decode (cod 7) 16 = .ok (.invokestatic 69, 3) := by decide +kernel
theorem d7_19 : decode (cod 7) 19 = .ok (.ireturn, 1) := by decide +kernel
theorem d7_20 : decode (cod 7) 20 = .ok (.aload_n 0, 1) := by decide +kernel
theorem d7_21 : decode (cod 7) 21 = .ok (.getfield 15, 3) := by decide +kernel
theorem d7_24 : decode (cod 7) 24 = .ok (.iload_n 1, 1) := by decide +kernel
theorem d7_25 : decode (cod 7) 25 = .ok (.iaload, 1) := by decide +kernel
theorem d7_26 : decode (cod 7) 26 = .ok (.iconst 2, 1) := by decide +kernel
theorem d7_27 : decode (cod 7) 27 = .ok (.invokestatic 74, 3) := by decide +kernel
theorem d7_30 : decode (cod 7) 30 = .ok (.ifCond .eq 7, 3) := by decide +kernel
theorem d7_33 : decode (cod 7) 33 = .ok (.iconst 2, 1) := by decide +kernel
theorem d7_34 : decode (cod 7) 34 = .ok (.goto 4, 3) := by decide +kernel
theorem d7_37 : decode (cod 7) 37 = .ok (.iconst 1, 1) := by decide +kernel
theorem d7_38 : decode (cod 7) 38 = .ok (.ireturn, 1) := by decide +kernel
theorem d8_0 : decode (cod 8) 0 = .ok (.aload_n 0, 1) := by decide +kernel
theorem d8_1 : decode (cod 8) 1 = .ok (.getfield 38, 3) := by decide +kernel
theorem d8_4 : decode (cod 8) 4 = .ok (.iload_n 1, 1) := by decide +kernel
theorem d8_5 : decode (cod 8) 5 = .ok (.iaload, 1) := by decide +kernel
theorem d8_6 : decode (cod 8) 6 = .ok (.ifCond .lt 12, 3) := by decide +kernel
theorem d8_9 : decode (cod 8) 9 = .ok (.aload_n 0, 1) := by decide +kernel
theorem d8_10 : decode (cod 8) 10 = .ok (.getfield 38, 3) := by decide +kernel
theorem d8_13 : decode (cod 8) 13 = .ok (.iload_n 1, 1) := by decide +kernel
theorem d8_14 : decode (cod 8) 14 = .ok (.iaload, 1) := by decide +kernel
theorem d8_15 : decode (cod 8) 15 = .ok (.goto 4, 3) := by decide +kernel
theorem d8_18 : decode (cod 8) 18 = .ok (.iload_n 2, 1) := by decide +kernel
theorem d8_19 : decode (cod 8) 19 = .ok (.aload_n 0, 1) := by decide +kernel
theorem d8_20 : decode (cod 8) 20 = .ok (.getfield 35, 3) := by decide +kernel
theorem d8_23 : decode (cod 8) 23 = .ok (.iload_n 1, 1) := by decide +kernel
theorem d8_24 : decode (cod 8) 24 = .ok (.iaload, 1) := by decide +kernel
theorem d8_25 : decode (cod 8) 25 = .ok (.isub, 1) := by decide +kernel
theorem d8_26 : decode (cod 8) 26 = .ok (.ireturn, 1) := by decide +kernel
theorem d9_0 : decode (cod 9) 0 = .ok (.aload_n 0, 1) := by decide +kernel
theorem d9_1 : decode (cod 9) 1 = .ok (.getfield 15, 3) := by decide +kernel
theorem d9_4 : decode (cod 9) 4 = .ok (.iload_n 1, 1) := by decide +kernel
theorem d9_5 : decode (cod 9) 5 = .ok (.iaload, 1) := by decide +kernel
theorem d9_6 : decode (cod 9) 6 = .ok (.iconst 4, 1) := by decide +kernel
theorem d9_7 : decode (cod 9) 7 = .ok (.if_icmp .ne 16, 3) := by decide +kernel
theorem d9_10 : decode (cod 9) 10 = .ok (.aload_n 2, 1) := by decide +kernel
theorem d9_11 : decode (cod 9) 11 = .ok (.aload_n 0, 1) := by decide +kernel
theorem d9_12 : decode (cod 9) 12 = .ok (.getfield 19, 3) := by decide +kernel
theorem d9_15 : decode (cod 9) 15 = .ok (.iload_n 1, 1) := by decide +kernel
theorem d9_16 : decode (cod 9) 16 = .ok (.iaload, 1) := by decide +kernel
theorem d9_17 : decode (cod 9) 17 = .ok (.invokevirtual 78, 3) := by decide +kernel
theorem d9_20 : decode (cod 9) 20 = .ok (.goto 12, 3) := by decide +kernel
theorem d9_23 : decode (cod 9) 23 = .ok (.aload_n 0, 1) := by decide +kernel
theorem d9_24 : decode (cod 9) 24 = .ok (.getfield 28, 3) := by decide +kernel
theorem d9_27 : decode (cod 9) 27 = .ok (.iload_n 1, 1) := by decide +kernel
theorem d9_28 : decode (cod 9) 28 = .ok (.laload, 1) := by decide +kernel
theorem d9_29 : decode (cod 9) 29 = .ok (.invokestatic 81, 3) := by decide +kernel
theorem d9_32 : decode (cod 9) 32 = .ok (.istore_n 3, 1) := by decide +kernel
theorem d9_33 : decode (cod 9) 33 = .ok (.iconst 0, 1) := by decide +kernel
theorem d9_34 : decode (cod 9) 34 = .ok (.bipush 100, 2) := by decide +kernel
theorem d9_36 : decode (cod 9) 36 = .ok (.iconst 4, 1) := by decide +kernel
theorem d9_37 : decode (cod 9) 37 = .ok (.iload_n 3, 1) := by decide +kernel
theorem d9_38 : decode (cod 9) 38 = .ok (.imul, 1) := by decide +kernel
theorem d9_39 : decode (cod 9) 39 = .ok (.isub, 1) := by decide +kernel
theorem d9_40 : decode (cod 9) 40 = .ok (.bipush 7, 2) := by decide +kernel
theorem d9_42 : decode (cod 9) 42 = .ok (.aload_n 0, 1) := by decide +kernel
theorem d9_43 : decode (cod 9) 43 = .ok (.getfield 44, 3) := by decide +kernel
theorem d9_46 : decode (cod 9) 46 = .ok (.iload_n 1, 1) := by decide +kernel
theorem d9_47 : decode (cod 9) 47 = .ok (.iaload, 1) := by decide +kernel
theorem d9_48 : decode (cod 9) 48 = .ok (.invokestatic 69, 3) := by decide +kernel
theorem d9_51 : decode (cod 9) 51 = .ok (.imul, 1) := by decide +kernel
theorem d9_52 : decode (cod 9) 52 = .ok (.isub, 1) := by decide +kernel
theorem d9_53 : decode (cod 9) 53 = .ok (.aload_n 2, 1) := by decide +kernel
theorem d9_54 : decode (cod 9) 54 = .ok (.aload_n 0, 1) := by decide +kernel
theorem d9_55 : decode (cod 9) 55 = .ok (.getfield 22, 3) := by decide +kernel
theorem d9_58 : decode (cod 9) 58 = .ok (.iload_n 1, 1) := by decide +kernel
theorem d9_59 : decode (cod 9) 59 = .ok (.iaload, 1) := by decide +kernel
theorem d9_60 : decode (cod 9) 60 = .ok (.invokevirtual 86, 3) := by decide +kernel
theorem d9_63 : decode (cod 9) 63 = .ok (.iadd, 1) := by decide +kernel
theorem d9_64 : decode (cod 9) 64 = .ok (.invokestatic 89, 3) := by decide +kernel
theorem d9_67 : decode (cod 9) 67 = .ok (.ireturn, 1) := by decide +kernel
theorem d10_0 : decode (cod 10) 0 = .ok (.aload_n 0, 1) := by decide +kernel
theorem d10_1 : decode (cod 10) 1 = .ok (.getfield 15, 3) := by decide +kernel
theorem d10_4 : decode (cod 10) 4 = .ok (.iload_n 1, 1) := by decide +kernel
theorem d10_5 : decode (cod 10) 5 = .ok (.iaload, 1) := by decide +kernel
theorem d10_6 : decode (cod 10) 6 = .ok (.iconst 2, 1) := by decide +kernel
theorem d10_7 : decode (cod 10) 7 = .ok (.invokestatic 74, 3) := by decide +kernel
theorem d10_10 : decode (cod 10) 10 = .ok (.ifCond .eq 7, 3) := by decide +kernel
theorem d10_13 : decode (cod 10) 13 = .ok (.iconst 1, 1) := by decide +kernel
theorem d10_14 : decode (cod 10) 14 = .ok (.goto 4, 3) := by decide +kernel
theorem d10_17 : decode (cod 10) 17 = .ok (.iconst 0, 1) := by decide +kernel
theorem d10_18 : decode (cod 10) 18 = .ok (.ireturn, 1) := by decide +kernel
theorem d11_0 : decode (cod 11) 0 = .ok (.iconst 0, 1) := by decide +kernel
theorem d11_1 : decode (cod 11) 1 = .ok (.istore_n 1, 1) := by decide +kernel
theorem d11_2 : decode (cod 11) 2 = .ok (.iconst 0, 1) := by decide +kernel
theorem d11_3 : decode (cod 11) 3 = .ok (.istore_n 2, 1) := by decide +kernel
theorem d11_4 : decode (cod 11) 4 = .ok (.iload_n 2, 1) := by decide +kernel
theorem d11_5 : decode (cod 11) 5 = .ok (.aload_n 0, 1) := by decide +kernel
theorem d11_6 : decode (cod 11) 6 = .ok (.getfield 9, 3) := by decide +kernel
theorem d11_9 : decode (cod 11) 9 = .ok (.if_icmp .ge 27, 3) := by decide +kernel
theorem d11_12 : decode (cod 11) 12 = .ok (.aload_n 0, 1) := by decide +kernel
theorem d11_13 : decode (cod 11) 13 = .ok (.getfield 41, 3) := by decide +kernel
theorem d11_16 : decode (cod 11) 16 = .ok (.iload_n 2, 1) := by decide +kernel
theorem d11_17 : decode (cod 11) 17 = .ok (.iaload, 1) := by decide +kernel
theorem d11_18 : decode (cod 11) 18 = .ok (.iconst 1, 1) := by decide +kernel
theorem d11_19 : decode (cod 11) 19 = .ok (.if_icmp .ne 11, 3) := by decide +kernel
theorem d11_22 : decode (cod 11) 22 = .ok (.iload_n 1, 1) := by decide +kernel
theorem d11_23 : decode (cod 11) 23 = .ok (.aload_n 0, 1) := by decide +kernel
theorem d11_24 : decode (cod 11) 24 = .ok (.iload_n 2, 1) := by decide +kernel
theorem d11_25 : decode (cod 11) 25 = .ok (.invokevirtual 95, 3) := by decide +kernel
theorem d11_28 : decode (cod 11) 28 = .ok (.iadd, 1) := by decide +kernel
theorem d11_29 : decode (cod 11) 29 = .ok (.istore_n 1, 1) := by decide +kernel
theorem d11_30 : decode (cod 11) 30 = .ok (.iinc 2 1, 3) := by decide +kernel
theorem d11_33 : decode (cod 11) 33 = .ok (.goto (-29), 3) := by decide +kernel
theorem d11_36 : decode (cod 11) 36 = .ok (.iload_n 1, 1) := by decide +kernel
theorem d11_37 : decode (cod 11) 37 = .ok (.ireturn, 1) := by decide +kernel
theorem d12_0 : decode (cod 12) 0 = .ok (.iconst 0, 1) := by decide +kernel
theorem d12_1 : decode (cod 12) 1 = .ok (.istore_n 2, 1) := by decide +kernel
theorem d12_2 : decode (cod 12) 2 = .ok (.iload_n 2, 1) := by decide +kernel
theorem d12_3 : decode (cod 12) 3 = .ok (.aload_n 0, 1) := by decide +kernel
theorem d12_4 : decode (cod 12) 4 = .ok (.getfield 9, 3) := by decide +kernel
theorem d12_7 : decode (cod 12) 7 = .ok (.if_icmp .ge 34, 3) := by decide +kernel
theorem d12_10 : decode (cod 12) 10 = .ok (.aload_n 0, 1) := by decide +kernel
theorem d12_11 : decode (cod 12) 11 = .ok (.getfield 41, 3) := by decide +kernel
theorem d12_14 : decode (cod 12) 14 = .ok (.iload_n 2, 1) := by decide +kernel
theorem d12_15 : decode (cod 12) 15 = .ok (.iaload, 1) := by decide +kernel
theorem d12_16 : decode (cod 12) 16 = .ok (.iconst 1, 1) := by decide +kernel
theorem d12_17 : decode (cod 12) 17 = .ok (.if_icmp .ne 18, 3) := by decide +kernel
theorem d12_20 : decode (cod 12) 20 = .ok (.aload_n 0, 1) := by decide +kernel
theorem d12_21 : decode (cod 12) 21 = .ok (.getfield 25, 3) := by decide +kernel
theorem d12_24 : decode (cod 12) 24 = .ok (.iload_n 2, 1) := by decide +kernel
theorem d12_25 : decode (cod 12) 25 = .ok (.iaload, 1) := by decide +kernel
theorem d12_26 : decode (cod 12) 26 = .ok (.iload_n 1, 1) := by decide +kernel
theorem d12_27 : decode (cod 12) 27 = .ok (.ishr, 1) := by decide +kernel
theorem d12_28 : decode (cod 12) 28 = .ok (.iconst 1, 1) := by decide +kernel
theorem d12_29 : decode (cod 12) 29 = .ok (.iand, 1) := by decide +kernel
theorem d12_30 : decode (cod 12) 30 = .ok (.ifCond .eq 5, 3) := by decide +kernel
theorem d12_33 : decode (cod 12) 33 = .ok (.iload_n 2, 1) := by decide +kernel
theorem d12_34 : decode (cod 12) 34 = .ok (.ireturn, 1) := by decide +kernel
theorem d12_35 : decode (cod 12) 35 = .ok (.iinc 2 1, 3) := by decide +kernel
theorem d12_38 : decode (cod 12) 38 = .ok (.goto (-36), 3) := by decide +kernel
theorem d12_41 : decode (cod 12) 41 = .ok (.iconst (-1), 1) := by decide +kernel
theorem d12_42 : decode (cod 12) 42 = .ok (.ireturn, 1) := by decide +kernel
theorem d13_0 : decode (cod 13) 0 = .ok (.aload_n 0, 1) := by decide +kernel
theorem d13_1 : decode (cod 13) 1 = .ok (.getfield 41, 3) := by decide +kernel
theorem d13_4 : decode (cod 13) 4 = .ok (.iload_n 2, 1) := by decide +kernel
theorem d13_5 : decode (cod 13) 5 = .ok (.iaload, 1) := by decide +kernel
theorem d13_6 : decode (cod 13) 6 = .ok (.iconst 1, 1) := by decide +kernel
theorem d13_7 : decode (cod 13) 7 = .ok (.if_icmp .ne 18, 3) := by decide +kernel
theorem d13_10 : decode (cod 13) 10 = .ok (.aload_n 0, 1) := by decide +kernel
theorem d13_11 : decode (cod 13) 11 = .ok (.getfield 25, 3) := by decide +kernel
theorem d13_14 : decode (cod 13) 14 = .ok (.iload_n 2, 1) := by decide +kernel
theorem d13_15 : decode (cod 13) 15 = .ok (.iaload, 1) := by decide +kernel
theorem d13_16 : decode (cod 13) 16 = .ok (.aload_n 3, 1) := by decide +kernel
theorem d13_17 : decode (cod 13) 17 = .ok (.iload_n 1, 1) := by decide +kernel
theorem d13_18 : decode (cod 13) 18 = .ok (.invokevirtual 53, 3) := by decide +kernel
theorem d13_21 : decode (cod 13) 21 = .ok (.iand, 1) := by decide +kernel
theorem d13_22 : decode (cod 13) 22 = .ok (.ifCond .ne 5, 3) := by decide +kernel
theorem d13_25 : decode (cod 13) 25 = .ok (.iconst 0, 1) := by decide +kernel
theorem d13_26 : decode (cod 13) 26 = .ok (.ireturn, 1) := by decide +kernel
theorem d13_27 : decode (cod 13) 27 = .ok (.aload_n 0, 1) := by decide +kernel
theorem d13_28 : decode (cod 13) 28 = .ok (.iload_n 2, 1) := by decide +kernel
theorem d13_29 : decode (cod 13) 29 = .ok (.aload_n 3, 1) := by decide +kernel
theorem d13_30 : decode (cod 13) 30 = .ok (.invokevirtual 65, 3) := by decide +kernel
theorem d13_33 : decode (cod 13) 33 = .ok (.aload_n 0, 1) := by decide +kernel
theorem d13_34 : decode (cod 13) 34 = .ok (.getfield 44, 3) := by decide +kernel
theorem d13_37 : decode (cod 13) 37 = .ok (.iload_n 2, 1) := by decide +kernel
theorem d13_38 : decode (cod 13) 38 = .ok (.iaload, 1) := by decide +kernel
theorem d13_39 : decode (cod 13) 39 = .ok (.ior, 1) := by decide +kernel
theorem d13_40 : decode (cod 13) 40 = .ok (.iload_n 1, 1) := by decide +kernel
theorem d13_41 : decode (cod 13) 41 = .ok (.ishr, 1) := by decide +kernel
theorem d13_42 : decode (cod 13) 42 = .ok (.iconst 1, 1) := by decide +kernel
theorem d13_43 : decode (cod 13) 43 = .ok (.iand, 1) := by decide +kernel
theorem d13_44 : decode (cod 13) 44 = .ok (.ifCond .ne 7, 3) := by decide +kernel
theorem d13_47 : decode (cod 13) 47 = .ok (.iconst 1, 1) := by decide +kernel
theorem d13_48 : decode (cod 13) 48 = .ok (.goto 4, 3) := by decide +kernel
theorem d13_51 : decode (cod 13) 51 = .ok (.iconst 0, 1) := by decide +kernel
theorem d13_52 : decode (cod 13) 52 = .ok (.ireturn, 1) := by decide +kernel
theorem d14_0 : decode (cod 14) 0 = .ok (.aload_n 0, 1) := by decide +kernel
theorem d14_1 : decode (cod 14) 1 = .ok (.getfield 15, 3) := by decide +kernel
theorem d14_4 : decode (cod 14) 4 = .ok (.iload_n 1, 1) := by decide +kernel
theorem d14_5 : decode (cod 14) 5 = .ok (.iaload, 1) := by decide +kernel
theorem d14_6 : decode (cod 14) 6 = .ok (.iconst 4, 1) := by decide +kernel
theorem d14_7 : decode (cod 14) 7 = .ok (.if_icmp .ne 18, 3) := by decide +kernel
theorem d14_10 : decode (cod 14) 10 = .ok (.aload_n 2, 1) := by decide +kernel
theorem d14_11 : decode (cod 14) 11 = .ok (.aload_n 2, 1) := by decide +kernel
theorem d14_12 : decode (cod 14) 12 = .ok (.aload_n 0, 1) := by decide +kernel
theorem d14_13 : decode (cod 14) 13 = .ok (.getfield 19, 3) := by decide +kernel
theorem d14_16 : decode (cod 14) 16 = .ok (.iload_n 1, 1) := by decide +kernel
theorem d14_17 : decode (cod 14) 17 = .ok (.iaload, 1) := by decide +kernel
theorem d14_18 : decode (cod 14) 18 = .ok (.invokevirtual 98, 3) := by decide +kernel
theorem d14_21 : decode (cod 14) 21 = .ok (.invokevirtual 101, 3) := by decide +kernel
theorem d14_24 : decode (cod 14) 24 = .ok (.ireturn, 1) := by decide +kernel
theorem d14_25 : decode (cod 14) 25 = .ok (.aload_n 2, 1) := by decide +kernel
theorem d14_26 : decode (cod 14) 26 = .ok (.aload_n 0, 1) := by decide +kernel
theorem d14_27 : decode (cod 14) 27 = .ok (.getfield 22, 3) := by decide +kernel
theorem d14_30 : decode (cod 14) 30 = .ok (.iload_n 1, 1) := by decide +kernel
theorem d14_31 : decode (cod 14) 31 = .ok (.iaload, 1) := by decide +kernel
theorem d14_32 : decode (cod 14) 32 = .ok (.invokevirtual 104, 3) := by decide +kernel
theorem d14_35 : decode (cod 14) 35 = .ok (.ifCond .eq 23, 3) := by decide +kernel
theorem d14_38 : decode (cod 14) 38 = .ok (.iconst 1, 1) := by decide +kernel
theorem d14_39 : decode (cod 14) 39 = .ok (.aload_n 0, 1) := by decide +kernel
theorem d14_40 : decode (cod 14) 40 = .ok (.getfield 19, 3) := by decide +kernel
theorem d14_43 : decode (cod 14) 43 = .ok (.iload_n 1, 1) := by decide +kernel
theorem d14_44 : decode (cod 14) 44 = .ok (.iaload, 1) := by decide +kernel
theorem d14_45 : decode (cod 14) 45 = .ok (.ishl, 1) := by decide +kernel
theorem d14_46 : decode (cod 14) 46 = .ok (.iconst 1, 1) := by decide +kernel
theorem d14_47 : decode (cod 14) 47 = .ok (.aload_n 0, 1) := by decide +kernel
theorem d14_48 : decode (cod 14) 48 = .ok (.getfield 22, 3) := by decide +kernel
theorem d14_51 : decode (cod 14) 51 = .ok (.iload_n 1, 1) := by decide +kernel
theorem d14_52 : decode (cod 14) 52 = .ok (.iaload, 1) := by decide +kernel
theorem d14_53 : decode (cod 14) 53 = .ok (.ishl, 1) := by decide +kernel
theorem d14_54 : decode (cod 14) 54 = .ok (.ior, 1) := by decide +kernel
theorem d14_55 : decode (cod 14) 55 = .ok (.goto 11, 3) := by decide +kernel
theorem d14_58 : decode (cod 14) 58 = .ok (.iconst 1, 1) := by decide +kernel
theorem d14_59 : decode (cod 14) 59 = .ok (.aload_n 0, 1) := by decide +kernel
theorem d14_60 : decode (cod 14) 60 = .ok (.getfield 19, 3) := by decide +kernel
theorem d14_63 : decode (cod 14) 63 = .ok (.iload_n 1, 1) := by decide +kernel
theorem d14_64 : decode (cod 14) 64 = .ok (.iaload, 1) := by decide +kernel
theorem d14_65 : decode (cod 14) 65 = .ok (.ishl, 1) := by decide +kernel
theorem d14_66 : decode (cod 14) 66 = .ok (.ireturn, 1) := by decide +kernel
theorem d15_0 : decode (cod 15) 0 = .ok (.aload_n 0, 1) := by decide +kernel
theorem d15_1 : decode (cod 15) 1 = .ok (.getfield 41, 3) := by decide +kernel
theorem d15_4 : decode (cod 15) 4 = .ok (.iload_n 1, 1) := by decide +kernel
theorem d15_5 : decode (cod 15) 5 = .ok (.iaload, 1) := by decide +kernel
theorem d15_6 : decode (cod 15) 6 = .ok (.ifCond .eq 13, 3) := by decide +kernel
theorem d15_9 : decode (cod 15) 9 = .ok (.aload_n 0, 1) := by decide +kernel
theorem d15_10 : decode (cod 15) 10 = .ok (.getfield 41, 3) := by decide +kernel
theorem d15_13 : decode (cod 15) 13 = .ok (.iload_n 1, 1) := by decide +kernel
theorem d15_14 : decode (cod 15) 14 = .ok (.iaload, 1) := by decide +kernel
theorem d15_15 : decode (cod 15) 15 = .ok (.iconst 3, 1) := by decide +kernel
theorem d15_16 : decode (cod 15) 16 = .ok (.if_icmp .ne 7, 3) := by decide +kernel
theorem d15_19 : decode (cod 15) 19 = .ok (.iconst 0, 1) := by decide +kernel
theorem d15_20 : decode (cod 15) 20 = .ok (.goto 16, 3) := by decide +kernel
theorem d15_23 : decode (cod 15) 23 = .ok (.aload_n 0, 1) := by decide +kernel
theorem d15_24 : decode (cod 15) 24 = .ok (.iload_n 1, 1) := by decide +kernel
theorem d15_25 : decode (cod 15) 25 = .ok (.aload_n 2, 1) := by decide +kernel
theorem d15_26 : decode (cod 15) 26 = .ok (.invokevirtual 65, 3) := by decide +kernel
theorem d15_29 : decode (cod 15) 29 = .ok (.aload_n 0, 1) := by decide +kernel
theorem d15_30 : decode (cod 15) 30 = .ok (.getfield 44, 3) := by decide +kernel
theorem d15_33 : decode (cod 15) 33 = .ok (.iload_n 1, 1) := by decide +kernel
theorem d15_34 : decode (cod 15) 34 = .ok (.iaload, 1) := by decide +kernel
theorem d15_35 : decode (cod 15) 35 = .ok (.ior, 1) := by decide +kernel
theorem d15_36 : decode (cod 15) 36 = .ok (.ireturn, 1) := by decide +kernel
theorem d16_0 : decode (cod 16) 0 = .ok (.iconst 0, 1) := by decide +kernel
theorem d16_1 : decode (cod 16) 1 = .ok (.istore_n 2, 1) := by decide +kernel
theorem d16_2 : decode (cod 16) 2 = .ok (.iconst 0, 1) := by decide +kernel
theorem d16_3 : decode (cod 16) 3 = .ok (.istore_n 3, 1) := by decide +kernel
theorem d16_4 : decode (cod 16) 4 = .ok (.iload_n 3, 1) := by decide +kernel
theorem d16_5 : decode (cod 16) 5 = .ok (.aload_n 0, 1) := by decide +kernel
theorem d16_6 : decode (cod 16) 6 = .ok (.getfield 9, 3) := by decide +kernel
theorem d16_9 : decode (cod 16) 9 = .ok (.if_icmp .ge 22, 3) := by decide +kernel
theorem d16_12 : decode (cod 16) 12 = .ok (.aload_n 0, 1) := by decide +kernel
theorem d16_13 : decode (cod 16) 13 = .ok (.getfield 41, 3) := by decide +kernel
theorem d16_16 : decode (cod 16) 16 = .ok (.iload_n 3, 1) := by decide +kernel
theorem d16_17 : decode (cod 16) 17 = .ok (.iaload, 1) := by decide +kernel
theorem d16_18 : decode (cod 16) 18 = .ok (.iload_n 1, 1) := by decide +kernel
theorem d16_19 : decode (cod 16) 19 = .ok (.if_icmp .ne 6, 3) := by decide +kernel
theorem d16_22 : decode (cod 16) 22 = .ok (.iinc 2 1, 3) := by decide +kernel
theorem d16_25 : decode (cod 16) 25 = .ok (.iinc 3 1, 3) := by decide +kernel
theorem d16_28 : decode (cod 16) 28 = .ok (.goto (-24), 3) := by decide +kernel
theorem d16_31 : decode (cod 16) 31 = .ok (.iload_n 2, 1) := by decide +kernel
theorem d16_32 : decode (cod 16) 32 = .ok (.ireturn, 1) := by decide +kernel
theorem d17_0 : decode (cod 17) 0 = .ok (.iconst 0, 1) := by decide +kernel
theorem d17_1 : decode (cod 17) 1 = .ok (.istore 4, 2) := by decide +kernel
theorem d17_3 : decode (cod 17) 3 = .ok (.iconst 0, 1) := by decide +kernel
theorem d17_4 : decode (cod 17) 4 = .ok (.istore 5, 2) := by decide +kernel
theorem d17_6 : decode (cod 17) 6 = .ok (.iload 5, 2) := by decide +kernel
theorem d17_8 : decode (cod 17) 8 = .ok (.aload_n 0, 1) := by decide +kernel
theorem d17_9 : decode (cod 17) 9 = .ok (.getfield 9, 3) := by decide +kernel
theorem d17_12 : decode (cod 17) 12 = .ok (.if_icmp .ge 101, 3) := by decide +kernel
theorem d17_15 : decode (cod 17) 15 = .ok (.aload_n 0, 1) := by decide +kernel
theorem d17_16 : decode (cod 17) 16 = .ok (.getfield 35, 3) := by decide +kernel
theorem d17_19 : decode (cod 17) 19 = .ok (.iload 5, 2) := by decide +kernel
theorem d17_21 : decode (cod 17) 21 = .ok (.iaload, 1) := by decide +kernel
theorem d17_22 : decode (cod 17) 22 = .ok (.bipush 100, 2) := by decide +kernel
theorem d17_24 : decode (cod 17) 24 = .ok (.idiv, 1) := by decide +kernel
theorem d17_25 : decode (cod 17) 25 = .ok (.istore 6, 2) := by decide +kernel
theorem d17_27 : decode (cod 17) 27 = .ok (.aload_n 0, 1) := by decide +kernel
theorem d17_28 : decode (cod 17) 28 = .ok (.getfield 41, 3) := by decide +kernel
theorem d17_31 : decode (cod 17) 31 = .ok (.iload 5, 2) := by decide +kernel
theorem d17_33 : decode (cod 17) 33 = .ok (.iaload, 1) := by decide +kernel
theorem d17_34 : decode (cod 17) 34 = .ok (.iconst 1, 1) := by decide +kernel
theorem d17_35 : decode (cod 17) 35 = .ok (.if_icmp .eq 14, 3) := by decide +kernel
theorem d17_38 : decode (cod 17) 38 = .ok (.aload_n 0, 1) := by decide +kernel
theorem d17_39 : decode (cod 17) 39 = .ok (.getfield 41, 3) := by decide +kernel
theorem d17_42 : decode (cod 17) 42 = .ok (.iload 5, 2) := by decide +kernel
theorem d17_44 : decode (cod 17) 44 = .ok (.iaload, 1) := by decide +kernel
theorem d17_45 : decode (cod 17) 45 = .ok (.iconst 2, 1) := by decide +kernel
theorem d17_46 : decode (cod 17) 46 = .ok (.if_icmp .ne 7, 3) := by decide +kernel
theorem d17_49 : decode (cod 17) 49 = .ok (.iconst 1, 1) := by decide +kernel
theorem d17_50 : decode (cod 17) 50 = .ok (.goto 4, 3) := by decide +kernel
theorem d17_53 : decode (cod 17) 53 = .ok (.iconst 0, 1) := by decide +kernel
theorem d17_54 : decode (cod 17) 54 = .ok (.istore 7, 2) := by decide +kernel
theorem d17_56 : decode (cod 17) 56 = .ok (.aload_n 0, 1) := by decide +kernel
theorem d17_57 : decode (cod 17) 57 = .ok (.getfield 15, 3) := by decide +kernel
theorem d17_60 : decode (cod 17) 60 = .ok (.iload 5, 2) := by decide +kernel
theorem d17_62 : decode (cod 17) 62 = .ok (.iaload, 1) := by decide +kernel
theorem d17_63 : decode (cod 17) 63 = .ok (.iconst 3, 1) := by decide +kernel
theorem d17_64 : decode (cod 17) 64 = .ok (.if_icmp .ne 43, 3) := by decide +kernel
theorem d17_67 : decode (cod 17) 67 = .ok (.aload_n 0, 1) := by decide +kernel
theorem d17_68 : decode (cod 17) 68 = .ok (.getfield 19, 3) := by decide +kernel
theorem d17_71 : decode (cod 17) 71 = .ok (.iload 5, 2) := by decide +kernel
theorem d17_73 : decode (cod 17) 73 = .ok (.iaload, 1) := by decide +kernel
theorem d17_74 : decode (cod 17) 74 = .ok (.iload_n 1, 1) := by decide +kernel
theorem d17_75 : decode (cod 17) 75 = .ok (.if_icmp .ne 32, 3) := by decide +kernel
theorem d17_78 : decode (cod 17) 78 = .ok (.iload 7, 2) := by decide +kernel
theorem d17_80 : decode (cod 17) 80 = .ok (.ifCond .eq 27, 3) := by decide +kernel
theorem d17_83 : decode (cod 17) 83 = .ok (.iload 6, 2) := by decide +kernel
theorem d17_85 : decode (cod 17) 85 = .ok (.iload_n 2, 1) := by decide +kernel
theorem d17_86 : decode (cod 17) 86 = .ok (.if_icmp .lt 21, 3) := by decide +kernel
theorem d17_89 : decode (cod 17) 89 = .ok (.iload 6, 2) := by decide +kernel
theorem d17_91 : decode (cod 17) 91 = .ok (.iload_n 3, 1) := by decide +kernel
theorem d17_92 : decode (cod 17) 92 = .ok (.if_icmp .gt 15, 3) := by decide +kernel
theorem d17_95 : decode (cod 17) 95 = .ok (.iload 4, 2) := by decide +kernel
theorem d17_97 : decode (cod 17) 97 = .ok (.aload_n 0, 1) := by decide +kernel
theorem d17_98 : decode (cod 17) 98 = .ok (.getfield 32, 3) := by decide +kernel
theorem d17_101 : decode (cod 17) 101 = .ok (.iload 5, 2) := by decide +kernel
theorem d17_103 : decode (cod 17) 103 = .ok (.iaload, 1) := by decide +kernel
theorem d17_104 : decode (cod 17) 104 = .ok (.iadd, 1) := by decide +kernel
theorem d17_105 : decode (cod 17) 105 = .ok (.istore 4, 2) := by decide +kernel
theorem d17_107 : decode (cod 17) 107 = .ok (.iinc 5 1, 3) := by decide +kernel
theorem d17_110 : decode (cod 17) 110 = .ok (.goto (-104), 3) := by decide +kernel
theorem d17_113 : decode (cod 17) 113 = .ok (.iload 4, 2) := by decide +kernel
theorem d17_115 : decode (cod 17) 115 = .ok (.ireturn, 1) := by decide +kernel
theorem d18_0 : decode (cod 18) 0 = .ok (.iconst 0, 1) := by decide +kernel
theorem d18_1 : decode (cod 18) 1 = .ok (.istore_n 3, 1) := by decide +kernel
theorem d18_2 : decode (cod 18) 2 = .ok (.iconst 0, 1) := by decide +kernel
theorem d18_3 : decode (cod 18) 3 = .ok (.istore 4, 2) := by decide +kernel
theorem d18_5 : decode (cod 18) 5 = .ok (.iload 4, 2) := by decide +kernel
theorem d18_7 : decode (cod 18) 7 = .ok (.aload_n 0, 1) := by decide +kernel
theorem d18_8 : decode (cod 18) 8 = .ok (.getfield 9, 3) := by decide +kernel
theorem d18_11 : decode (cod 18) 11 = .ok (.if_icmp .ge 56, 3) := by decide +kernel
theorem d18_14 : decode (cod 18) 14 = .ok (.aload_n 0, 1) := by decide +kernel
theorem d18_15 : decode (cod 18) 15 = .ok (.getfield 19, 3) := by decide +kernel
theorem d18_18 : decode (cod 18) 18 = .ok (.iload 4, 2) := by decide +kernel
theorem d18_20 : decode (cod 18) 20 = .ok (.iaload, 1) := by decide +kernel
theorem d18_21 : decode (cod 18) 21 = .ok (.iload_n 1, 1) := by decide +kernel
theorem d18_22 : decode (cod 18) 22 = .ok (.if_icmp .ne 14, 3) := by decide +kernel
theorem d18_25 : decode (cod 18) 25 = .ok (.aload_n 0, 1) := by decide +kernel
theorem d18_26 : decode (cod 18) 26 = .ok (.getfield 22, 3) := by decide +kernel
theorem d18_29 : decode (cod 18) 29 = .ok (.iload 4, 2) := by decide +kernel
theorem d18_31 : decode (cod 18) 31 = .ok (.iaload, 1) := by decide +kernel
theorem d18_32 : decode (cod 18) 32 = .ok (.iload_n 2, 1) := by decide +kernel
theorem d18_33 : decode (cod 18) 33 = .ok (.if_icmp .eq 25, 3) := by decide +kernel
theorem d18_36 : decode (cod 18) 36 = .ok (.aload_n 0, 1) := by decide +kernel
theorem d18_37 : decode (cod 18) 37 = .ok (.getfield 19, 3) := by decide +kernel
theorem d18_40 : decode (cod 18) 40 = .ok (.iload 4, 2) := by decide +kernel
theorem d18_42 : decode (cod 18) 42 = .ok (.iaload, 1) := by decide +kernel
theorem d18_43 : decode (cod 18) 43 = .ok (.iload_n 2, 1) := by decide +kernel
theorem d18_44 : decode (cod 18) 44 = .ok (.if_icmp .ne 17, 3) := by decide +kernel
theorem d18_47 : decode (cod 18) 47 = .ok (.aload_n 0, 1) := by decide +kernel
theorem d18_48 : decode (cod 18) 48 = .ok (.getfield 22, 3) := by decide +kernel
theorem d18_51 : decode (cod 18) 51 = .ok (.iload 4, 2) := by decide +kernel
theorem d18_53 : decode (cod 18) 53 = .ok (.iaload, 1) := by decide +kernel
theorem d18_54 : decode (cod 18) 54 = .ok (.iload_n 1, 1) := by decide +kernel
theorem d18_55 : decode (cod 18) 55 = .ok (.if_icmp .ne 6, 3) := by decide +kernel
theorem d18_58 : decode (cod 18) 58 = .ok (.iinc 3 1, 3) := by decide +kernel
theorem d18_61 : decode (cod 18) 61 = .ok (.iinc 4 1, 3) := by decide +kernel
theorem d18_64 : decode (cod 18) 64 = .ok (.goto (-59), 3) := by decide +kernel
theorem d18_67 : decode (cod 18) 67 = .ok (.iload_n 3, 1) := by decide +kernel
theorem d18_68 : decode (cod 18) 68 = .ok (.ireturn, 1) := by decide +kernel
theorem d19_0 : decode (cod 19) 0 = .ok (.aload_n 0, 1) := by decide +kernel
theorem d19_1 : decode (cod 19) 1 = .ok (.invokespecial 3, 3) := by decide +kernel
theorem d19_4 : decode (cod 19) 4 = .ok (.aload_n 0, 1) := by decide +kernel
theorem d19_5 : decode (cod 19) 5 = .ok (.iconst 0, 1) := by decide +kernel
theorem d19_6 : decode (cod 19) 6 = .ok (.putfield 9, 3) := by decide +kernel
theorem d19_9 : decode (cod 19) 9 = .ok (.aload_n 0, 1) := by decide +kernel
theorem d19_10 : decode (cod 19) 10 = .ok (.iconst 5, 1) := by decide +kernel
theorem d19_11 : decode (cod 19) 11 = .ok (.newarray .int, 2) := by decide +kernel
theorem d19_13 : decode (cod 19) 13 = .ok (.putfield 15, 3) := by decide +kernel
theorem d19_16 : decode (cod 19) 16 = .ok (.aload_n 0, 1) := by decide +kernel
theorem d19_17 : decode (cod 19) 17 = .ok (.iconst 0, 1) := by decide +kernel
theorem d19_18 : decode (cod 19) 18 = .ok (.putfield 19, 3) := by decide +kernel
theorem d19_21 : decode (cod 19) 21 = .ok (.aload_n 0, 1) := by decide +kernel
theorem d19_22 : decode (cod 19) 22 = .ok (.iconst 0, 1) := by decide +kernel
theorem d19_23 : decode (cod 19) 23 = .ok (.putfield 22, 3) := by decide +kernel
theorem d19_26 : decode (cod 19) 26 = .ok (.aload_n 0, 1) := by decide +kernel
theorem d19_27 : decode (cod 19) 27 = .ok (.iconst 0, 1) := by decide +kernel
theorem d19_28 : decode (cod 19) 28 = .ok (.putfield 25, 3) := by decide +kernel
theorem d19_31 : decode (cod 19) 31 = .ok (.aload_n 0, 1) := by decide +kernel
theorem d19_32 : decode (cod 19) 32 = .ok (.iconst 5, 1) := by decide +kernel
theorem d19_33 : decode (cod 19) 33 = .ok (.newarray .int, 2) := by decide +kernel
theorem d19_35 : decode (cod 19) 35 = .ok (.putfield 28, 3) := by decide +kernel
theorem d19_38 : decode (cod 19) 38 = .ok (.return_, 1) := by decide +kernel
theorem d20_0 : decode (cod 20) 0 = .ok (.iload_n 0, 1) := by decide +kernel
theorem d20_1 : decode (cod 20) 1 = .ok (.iconst 4, 1) := by decide +kernel
theorem d20_2 : decode (cod 20) 2 = .ok (.ishr, 1) := by decide +kernel
theorem d20_3 : decode (cod 20) 3 = .ok (.istore_n 2, 1) := by decide +kernel
theorem d20_4 : decode (cod 20) 4 = .ok (.iload_n 1, 1) := by decide +kernel
theorem d20_5 : decode (cod 20) 5 = .ok (.iconst 4, 1) := by decide +kernel
theorem d20_6 : decode (cod 20) 6 = .ok (.ishr, 1) := by decide +kernel
theorem d20_7 : decode (cod 20) 7 = .ok (.istore_n 3, 1) := by decide +kernel
theorem d20_8 : decode (cod 20) 8 = .ok (.iload_n 2, 1) := by decide +kernel
theorem d20_9 : decode (cod 20) 9 = .ok (.ifCond .eq 7, 3) := by decide +kernel
theorem d20_12 : decode (cod 20) 12 = .ok (.iload_n 3, 1) := by decide +kernel
theorem d20_13 : decode (cod 20) 13 = .ok (.ifCond .ne 5, 3) := by decide +kernel
theorem d20_16 : decode (cod 20) 16 = .ok (.iconst 0, 1) := by decide +kernel
theorem d20_17 : decode (cod 20) 17 = .ok (.ireturn, 1) := by decide +kernel
theorem d20_18 : decode (cod 20) 18 = .ok (.iload_n 0, 1) := by decide +kernel
theorem d20_19 : decode (cod 20) 19 = .ok (.iload_n 1, 1) := by decide +kernel
theorem d20_20 : decode (cod 20) 20 = .ok (.if_icmp .ne 6, 3) := by decide +kernel
theorem d20_23 : decode (cod 20) 23 = .ok (.bipush 9, 2) := by decide +kernel
theorem d20_25 : decode (cod 20) 25 = .ok (.ireturn, 1) := by decide +kernel
theorem d20_26 : decode (cod 20) 26 = .ok (.iload_n 2, 1) := by decide +kernel
theorem d20_27 : decode (cod 20) 27 = .ok (.iload_n 3, 1) := by decide +kernel
theorem d20_28 : decode (cod 20) 28 = .ok (.if_icmp .ne 16, 3) := by decide +kernel
theorem d20_31 : decode (cod 20) 31 = .ok (.iconst 0, 1) := by decide +kernel
theorem d20_32 : decode (cod 20) 32 = .ok (.iconst 3, 1) := by decide +kernel
theorem d20_33 : decode (cod 20) 33 = .ok (.iload_n 0, 1) := by decide +kernel
theorem d20_34 : decode (cod 20) 34 = .ok (.iload_n 1, 1) := by decide +kernel
theorem d20_35 : decode (cod 20) 35 = .ok (.ixor, 1) := by decide +kernel
theorem d20_36 : decode (cod 20) 36 = .ok (.invokestatic 31, 3) := by decide +kernel
theorem d20_39 : decode (cod 20) 39 = .ok (.isub, 1) := by decide +kernel
theorem d20_40 : decode (cod 20) 40 = .ok (.invokestatic 37, 3) := by decide +kernel
theorem d20_43 : decode (cod 20) 43 = .ok (.ireturn, 1) := by decide +kernel
theorem d20_44 : decode (cod 20) 44 = .ok (.iload_n 2, 1) := by decide +kernel
theorem d20_45 : decode (cod 20) 45 = .ok (.iload_n 3, 1) := by decide +kernel
theorem d20_46 : decode (cod 20) 46 = .ok (.iconst 1, 1) := by decide +kernel
theorem d20_47 : decode (cod 20) 47 = .ok (.iadd, 1) := by decide +kernel
theorem d20_48 : decode (cod 20) 48 = .ok (.if_icmp .ne 17, 3) := by decide +kernel
theorem d20_51 : decode (cod 20) 51 = .ok (.iload_n 0, 1) := by decide +kernel
theorem d20_52 : decode (cod 20) 52 = .ok (.iload_n 1, 1) := by decide +kernel
theorem d20_53 : decode (cod 20) 53 = .ok (.invokestatic 43, 3) := by decide +kernel
theorem d20_56 : decode (cod 20) 56 = .ok (.ifCond .eq 7, 3) := by decide +kernel
theorem d20_59 : decode (cod 20) 59 = .ok (.iconst 2, 1) := by decide +kernel
theorem d20_60 : decode (cod 20) 60 = .ok (.goto 4, 3) := by decide +kernel
theorem d20_63 : decode (cod 20) 63 = .ok (.iconst 0, 1) := by decide +kernel
theorem d20_64 : decode (cod 20) 64 = .ok (.ireturn, 1) := by decide +kernel
theorem d20_65 : decode (cod 20) 65 = .ok (.iload_n 3, 1) := by decide +kernel
theorem d20_66 : decode (cod 20) 66 = .ok (.iload_n 2, 1) := by decide +kernel
theorem d20_67 : decode (cod 20) 67 = .ok (.iconst 1, 1) := by decide +kernel
theorem d20_68 : decode (cod 20) 68 = .ok (.iadd, 1) := by decide +kernel
theorem d20_69 : decode (cod 20) 69 = .ok (.if_icmp .ne 17, 3) := by decide +kernel
theorem d20_72 : decode (cod 20) 72 = .ok (.iload_n 1, 1) := by decide +kernel
theorem d20_73 : decode (cod 20) 73 = .ok (.iload_n 0, 1) := by decide +kernel
theorem d20_74 : decode (cod 20) 74 = .ok (.invokestatic 43, 3) := by decide +kernel
theorem d20_77 : decode (cod 20) 77 = .ok (.ifCond .eq 7, 3) := by decide +kernel
theorem d20_80 : decode (cod 20) 80 = .ok (.iconst 2, 1) := by decide +kernel
theorem d20_81 : decode (cod 20) 81 = .ok (.goto 4, 3) := by decide +kernel
theorem d20_84 : decode (cod 20) 84 = .ok (.iconst 0, 1) := by decide +kernel
theorem d20_85 : decode (cod 20) 85 = .ok (.ireturn, 1) := by decide +kernel
theorem d20_86 : decode (cod 20) 86 = .ok (.iconst 0, 1) := by decide +kernel
theorem d20_87 : decode (cod 20) 87 = .ok (.ireturn, 1) := by decide +kernel
theorem d21_0 : decode (cod 21) 0 = .ok (.iload_n 0, 1) := by decide +kernel
theorem d21_1 : decode (cod 21) 1 = .ok (.bipush 15, 2) := by decide +kernel
theorem d21_3 : decode (cod 21) 3 = .ok (.iand, 1) := by decide +kernel
theorem d21_4 : decode (cod 21) 4 = .ok (.istore_n 2, 1) := by decide +kernel
theorem d21_5 : decode (cod 21) 5 = .ok (.iconst 0, 1) := by decide +kernel
theorem d21_6 : decode (cod 21) 6 = .ok (.istore_n 3, 1) := by decide +kernel
theorem d21_7 : decode (cod 21) 7 = .ok (.iload_n 3, 1) := by decide +kernel
theorem d21_8 : decode (cod 21) 8 = .ok (.iload_n 0, 1) := by decide +kernel
theorem d21_9 : decode (cod 21) 9 = .ok (.iconst 4, 1) := by decide +kernel
theorem d21_10 : decode (cod 21) 10 = .ok (.ishr, 1) := by decide +kernel
theorem d21_11 : decode (cod 21) 11 = .ok (.if_icmp .ge 41, 3) := by decide +kernel
theorem d21_14 : decode (cod 21) 14 = .ok (.iload_n 2, 1) := by decide +kernel
theorem d21_15 : decode (cod 21) 15 = .ok (.iconst 1, 1) := by decide +kernel
theorem d21_16 : decode (cod 21) 16 = .ok (.iload_n 3, 1) := by decide +kernel
theorem d21_17 : decode (cod 21) 17 = .ok (.ishl, 1) := by decide +kernel
theorem d21_18 : decode (cod 21) 18 = .ok (.iconst 1, 1) := by decide +kernel
theorem d21_19 : decode (cod 21) 19 = .ok (.isub, 1) := by decide +kernel
theorem d21_20 : decode (cod 21) 20 = .ok (.iand, 1) := by decide +kernel
theorem d21_21 : decode (cod 21) 21 = .ok (.istore 4, 2) := by decide +kernel
theorem d21_23 : decode (cod 21) 23 = .ok (.iload_n 2, 1) := by decide +kernel
theorem d21_24 : decode (cod 21) 24 = .ok (.iload_n 3, 1) := by decide +kernel
theorem d21_25 : decode (cod 21) 25 = .ok (.iconst 1, 1) := by decide +kernel
theorem d21_26 : decode (cod 21) 26 = .ok (.iadd, 1) := by decide +kernel
theorem d21_27 : decode (cod 21) 27 = .ok (.ishr, 1) := by decide +kernel
theorem d21_28 : decode (cod 21) 28 = .ok (.iload_n 3, 1) := by decide +kernel
theorem d21_29 : decode (cod 21) 29 = .ok (.ishl, 1) := by decide +kernel
theorem d21_30 : decode (cod 21) 30 = .ok (.istore 5, 2) := by decide +kernel
theorem d21_32 : decode (cod 21) 32 = .ok (.iload 4, 2) := by decide +kernel
theorem d21_34 : decode (cod 21) 34 = .ok (.iload 5, 2) := by decide +kernel
theorem d21_36 : decode (cod 21) 36 = .ok (.ior, 1) := by decide +kernel
theorem d21_37 : decode (cod 21) 37 = .ok (.iload_n 1, 1) := by decide +kernel
theorem d21_38 : decode (cod 21) 38 = .ok (.bipush 15, 2) := by decide +kernel
theorem d21_40 : decode (cod 21) 40 = .ok (.iand, 1) := by decide +kernel
theorem d21_41 : decode (cod 21) 41 = .ok (.if_icmp .ne 5, 3) := by decide +kernel
theorem d21_44 : decode (cod 21) 44 = .ok (.iconst 1, 1) := by decide +kernel
theorem d21_45 : decode (cod 21) 45 = .ok (.ireturn, 1) := by decide +kernel
theorem d21_46 : decode (cod 21) 46 = .ok (.iinc 3 1, 3) := by decide +kernel
theorem d21_49 : decode (cod 21) 49 = .ok (.goto (-42), 3) := by decide +kernel
theorem d21_52 : decode (cod 21) 52 = .ok (.iconst 0, 1) := by decide +kernel
theorem d21_53 : decode (cod 21) 53 = .ok (.ireturn, 1) := by decide +kernel
theorem d22_0 : decode (cod 22) 0 = .ok (.iconst 0, 1) := by decide +kernel
theorem d22_1 : decode (cod 22) 1 = .ok (.istore_n 2, 1) := by decide +kernel
theorem d22_2 : decode (cod 22) 2 = .ok (.iconst 0, 1) := by decide +kernel
theorem d22_3 : decode (cod 22) 3 = .ok (.istore_n 3, 1) := by decide +kernel
theorem d22_4 : decode (cod 22) 4 = .ok (.iload_n 3, 1) := by decide +kernel
theorem d22_5 : decode (cod 22) 5 = .ok (.aload_n 0, 1) := by decide +kernel
theorem d22_6 : decode (cod 22) 6 = .ok (.getfield 47, 3) := by decide +kernel
theorem d22_9 : decode (cod 22) 9 = .ok (.if_icmp .ge 67, 3) := by decide +kernel
theorem d22_12 : decode (cod 22) 12 = .ok (.aload_n 0, 1) := by decide +kernel
theorem d22_13 : decode (cod 22) 13 = .ok (.getfield 52, 3) := by decide +kernel
theorem d22_16 : decode (cod 22) 16 = .ok (.iload_n 3, 1) := by decide +kernel
theorem d22_17 : decode (cod 22) 17 = .ok (.iaload, 1) := by decide +kernel
theorem d22_18 : decode (cod 22) 18 = .ok (.iload_n 1, 1) := by decide +kernel
theorem d22_19 : decode (cod 22) 19 = .ok (.if_icmp .eq 6, 3) := by decide +kernel
theorem d22_22 : decode (cod 22) 22 = .ok (.goto 48, 3) := by decide +kernel
theorem d22_25 : decode (cod 22) 25 = .ok (.iconst 0, 1) := by decide +kernel
theorem d22_26 : decode (cod 22) 26 = .ok (.istore 4, 2) := by decide +kernel
theorem d22_28 : decode (cod 22) 28 = .ok (.iload 4, 2) := by decide +kernel
theorem d22_30 : decode (cod 22) 30 = .ok (.iload_n 3, 1) := by decide +kernel
theorem d22_31 : decode (cod 22) 31 = .ok (.if_icmp .ge 39, 3) := by decide +kernel
theorem d22_34 : decode (cod 22) 34 = .ok (.aload_n 0, 1) := by decide +kernel
theorem d22_35 : decode (cod 22) 35 = .ok (.getfield 52, 3) := by decide +kernel
theorem d22_38 : decode (cod 22) 38 = .ok (.iload 4, 2) := by decide +kernel
theorem d22_40 : decode (cod 22) 40 = .ok (.iaload, 1) := by decide +kernel
theorem d22_41 : decode (cod 22) 41 = .ok (.iload_n 1, 1) := by decide +kernel
theorem d22_42 : decode (cod 22) 42 = .ok (.if_icmp .ne 22, 3) := by decide +kernel
theorem d22_45 : decode (cod 22) 45 = .ok (.iload_n 2, 1) := by decide +kernel
theorem d22_46 : decode (cod 22) 46 = .ok (.aload_n 0, 1) := by decide +kernel
theorem d22_47 : decode (cod 22) 47 = .ok (.getfield 55, 3) := by decide +kernel
theorem d22_50 : decode (cod 22) 50 = .ok (.iload_n 3, 1) := by decide +kernel
theorem d22_51 : decode (cod 22) 51 = .ok (.iaload, 1) := by decide +kernel
theorem d22_52 : decode (cod 22) 52 = .ok (.aload_n 0, 1) := by decide +kernel
theorem d22_53 : decode (cod 22) 53 = .ok (.getfield 55, 3) := by decide +kernel
theorem d22_56 : decode (cod 22) 56 = .ok (.iload 4, 2) := by decide +kernel
theorem d22_58 : decode (cod 22) 58 = .ok (.iaload, 1) := by decide +kernel
theorem d22_59 : decode (cod 22) 59 = .ok (.invokestatic 58, 3) := by decide +kernel
theorem d22_62 : decode (cod 22) 62 = .ok (.iadd, 1) := by decide +kernel
theorem d22_63 : decode (cod 22) 63 = .ok (.istore_n 2, 1) := by decide +kernel
theorem d22_64 : decode (cod 22) 64 = .ok (.iinc 4 1, 3) := by decide +kernel
theorem d22_67 : decode (cod 22) 67 = .ok (.goto (-39), 3) := by decide +kernel
theorem d22_70 : decode (cod 22) 70 = .ok (.iinc 3 1, 3) := by decide +kernel
theorem d22_73 : decode (cod 22) 73 = .ok (.goto (-69), 3) := by decide +kernel
theorem d22_76 : decode (cod 22) 76 = .ok (.iload_n 2, 1) := by decide +kernel
theorem d22_77 : decode (cod 22) 77 = .ok (.ireturn, 1) := by decide +kernel
theorem d23_0 : decode (cod 23) 0 = .ok (.iload_n 1, 1) := by decide +kernel
theorem d23_1 : decode (cod 23) 1 = .ok (.iconst 1, 1) := by decide +kernel
theorem d23_2 : decode (cod 23) 2 = .ok (.iload_n 2, 1) := by decide +kernel
theorem d23_3 : decode (cod 23) 3 = .ok (.iconst 1, 1) := by decide +kernel
theorem d23_4 : decode (cod 23) 4 = .ok (.iadd, 1) := by decide +kernel
theorem d23_5 : decode (cod 23) 5 = .ok (.ishl, 1) := by decide +kernel
theorem d23_6 : decode (cod 23) 6 = .ok (.iconst 2, 1) := by decide +kernel
theorem d23_7 : decode (cod 23) 7 = .ok (.isub, 1) := by decide +kernel
theorem d23_8 : decode (cod 23) 8 = .ok (.if_icmp .le 5, 3) := by decide +kernel
theorem d23_11 : decode (cod 23) 11 = .ok (.iconst 0, 1) := by decide +kernel
theorem d23_12 : decode (cod 23) 12 = .ok (.ireturn, 1) := by decide +kernel
theorem d23_13 : decode (cod 23) 13 = .ok (.bipush 16, 2) := by decide +kernel
theorem d23_15 : decode (cod 23) 15 = .ok (.iload_n 2, 1) := by decide +kernel
theorem d23_16 : decode (cod 23) 16 = .ok (.imul, 1) := by decide +kernel
theorem d23_17 : decode (cod 23) 17 = .ok (.iconst 1, 1) := by decide +kernel
theorem d23_18 : decode (cod 23) 18 = .ok (.iload_n 2, 1) := by decide +kernel
theorem d23_19 : decode (cod 23) 19 = .ok (.ishl, 1) := by decide +kernel
theorem d23_20 : decode (cod 23) 20 = .ok (.iadd, 1) := by decide +kernel
theorem d23_21 : decode (cod 23) 21 = .ok (.iconst 1, 1) := by decide +kernel
theorem d23_22 : decode (cod 23) 22 = .ok (.isub, 1) := by decide +kernel
theorem d23_23 : decode (cod 23) 23 = .ok (.istore_n 3, 1) := by decide +kernel
theorem d23_24 : decode (cod 23) 24 = .ok (.iload_n 1, 1) := by decide +kernel
theorem d23_25 : decode (cod 23) 25 = .ok (.aload_n 0, 1) := by decide +kernel
theorem d23_26 : decode (cod 23) 26 = .ok (.getfield 22, 3) := by decide +kernel
theorem d23_29 : decode (cod 23) 29 = .ok (.if_icmp .ne 13, 3) := by decide +kernel
theorem d23_32 : decode (cod 23) 32 = .ok (.iload_n 3, 1) := by decide +kernel
theorem d23_33 : decode (cod 23) 33 = .ok (.aload_n 0, 1) := by decide +kernel
theorem d23_34 : decode (cod 23) 34 = .ok (.getfield 25, 3) := by decide +kernel
theorem d23_37 : decode (cod 23) 37 = .ok (.if_icmp .ne 5, 3) := by decide +kernel
theorem d23_40 : decode (cod 23) 40 = .ok (.iconst 1, 1) := by decide +kernel
theorem d23_41 : decode (cod 23) 41 = .ok (.ireturn, 1) := by decide +kernel
theorem d23_42 : decode (cod 23) 42 = .ok (.aload_n 0, 1) := by decide +kernel
theorem d23_43 : decode (cod 23) 43 = .ok (.iload_n 1, 1) := by decide +kernel
theorem d23_44 : decode (cod 23) 44 = .ok (.putfield 22, 3) := by decide +kernel
theorem d23_47 : decode (cod 23) 47 = .ok (.aload_n 0, 1) := by decide +kernel
theorem d23_48 : decode (cod 23) 48 = .ok (.iload_n 3, 1) := by decide +kernel
theorem d23_49 : decode (cod 23) 49 = .ok (.putfield 25, 3) := by decide +kernel
theorem d23_52 : decode (cod 23) 52 = .ok (.aload_n 0, 1) := by decide +kernel
theorem d23_53 : decode (cod 23) 53 = .ok (.ldc 61, 2) := by decide +kernel
theorem d23_55 : decode (cod 23) 55 = .ok (.putfield 9, 3) := by decide +kernel
theorem d23_58 : decode (cod 23) 58 = .ok (.aload_n 0, 1) := by decide +kernel
theorem d23_59 : decode (cod 23) 59 = .ok (.ldc 61, 2) := by decide +kernel
theorem d23_61 : decode (cod 23) 61 = .ok (.putfield 19, 3) := by decide +kernel
theorem d23_64 : decode (cod 23) 64 = .ok (.aload_n 0, 1) := by decide +kernel
theorem d23_65 : decode (cod 23) 65 = .ok (.iconst 0, 1) := by decide +kernel
theorem d23_66 : decode (cod 23) 66 = .ok (.bipush 16, 2) := by decide +kernel
theorem d23_68 : decode (cod 23) 68 = .ok (.iconst 0, 1) := by decide +kernel
theorem d23_69 : decode (cod 23) 69 = .ok (.iconst 0, 1) := by decide +kernel
theorem d23_70 : decode (cod 23) 70 = .ok (.invokevirtual 62, 3) := by decide +kernel
theorem d23_73 : decode (cod 23) 73 = .ok (.iconst 1, 1) := by decide +kernel
theorem d23_74 : decode (cod 23) 74 = .ok (.ireturn, 1) := by decide +kernel
theorem d24_0 : decode (cod 24) 0 = .ok (.iload_n 3, 1) := by decide +kernel
theorem d24_1 : decode (cod 24) 1 = .ok (.aload_n 0, 1) := by decide +kernel
theorem d24_2 : decode (cod 24) 2 = .ok (.getfield 9, 3) := by decide +kernel
theorem d24_5 : decode (cod 24) 5 = .ok (.if_icmp .gt 20, 3) := by decide +kernel
theorem d24_8 : decode (cod 24) 8 = .ok (.iload_n 3, 1) := by decide +kernel
theorem d24_9 : decode (cod 24) 9 = .ok (.aload_n 0, 1) := by decide +kernel
theorem d24_10 : decode (cod 24) 10 = .ok (.getfield 9, 3) := by decide +kernel
theorem d24_13 : decode (cod 24) 13 = .ok (.if_icmp .ne 13, 3) := by decide +kernel
theorem d24_16 : decode (cod 24) 16 = .ok (.iload 4, 2) := by decide +kernel
theorem d24_18 : decode (cod 24) 18 = .ok (.aload_n 0, 1) := by decide +kernel
theorem d24_19 : decode (cod 24) 19 = .ok (.getfield 19, 3) := by decide +kernel
theorem d24_22 : decode (cod 24) 22 = .ok (.if_icmp .lt 4, 3) := by decide +kernel
theorem d24_25 : decode (cod 24) 25 = .ok (.return_, 1) := by decide +kernel
theorem d24_26 : decode (cod 24) 26 = .ok (.iload_n 1, 1) := by decide +kernel
theorem d24_27 : decode (cod 24) 27 = .ok (.aload_n 0, 1) := by decide +kernel
theorem d24_28 : decode (cod 24) 28 = .ok (.getfield 22, 3) := by decide +kernel
theorem d24_31 : decode (cod 24) 31 = .ok (.if_icmp .ge 8, 3) := by decide +kernel
theorem d24_34 : decode (cod 24) 34 = .ok (.iload_n 1, 1) := by decide +kernel
theorem d24_35 : decode (cod 24) 35 = .ok (.iconst 5, 1) := by decide +kernel
theorem d24_36 : decode (cod 24) 36 = .ok (.if_icmp .lt 29, 3) := by decide +kernel
theorem d24_39 : decode (cod 24) 39 = .ok (.aload_n 0, 1) := by decide +kernel
theorem d24_40 : decode (cod 24) 40 = .ok (.iload_n 3, 1) := by decide +kernel
theorem d24_41 : decode (cod 24) 41 = .ok (.putfield 9, 3) := by decide +kernel
theorem d24_44 : decode (cod 24) 44 = .ok (.aload_n 0, 1) := by decide +kernel
theorem d24_45 : decode (cod 24) 45 = .ok (.iload 4, 2) := by decide +kernel
theorem d24_47 : decode (cod 24) 47 = .ok (.putfield 19, 3) := by decide +kernel
theorem d24_50 : decode (cod 24) 50 = .ok (.aload_n 0, 1) := by decide +kernel
theorem d24_51 : decode (cod 24) 51 = .ok (.getfield 28, 3) := by decide +kernel
theorem d24_54 : decode (cod 24) 54 = .ok (.iconst 0, 1) := by decide +kernel
theorem d24_55 : decode (cod 24) 55 = .ok (.aload_n 0, 1) := by decide +kernel
theorem d24_56 : decode (cod 24) 56 = .ok (.getfield 15, 3) := by decide +kernel
theorem d24_59 : decode (cod 24) 59 = .ok (.iconst 0, 1) := by decide +kernel
theorem d24_60 : decode (cod 24) 60 = .ok (.iconst 5, 1) := by decide +kernel
theorem d24_61 : decode (cod 24) 61 = .ok (.invokestatic 66, 3) := by decide +kernel
theorem d24_64 : decode (cod 24) 64 = .ok (.return_, 1) := by decide +kernel
theorem d24_65 : decode (cod 24) 65 = .ok (.iload_n 2, 1) := by decide +kernel
theorem d24_66 : decode (cod 24) 66 = .ok (.istore 5, 2) := by decide +kernel
theorem d24_68 : decode (cod 24) 68 = .ok (.iload 5, 2) := by decide +kernel
theorem d24_70 : decode (cod 24) 70 = .ok (.aload_n 0, 1) := by decide +kernel
theorem d24_71 : decode (cod 24) 71 = .ok (.getfield 25, 3) := by decide +kernel
theorem d24_74 : decode (cod 24) 74 = .ok (.if_icmp .gt 33, 3) := by decide +kernel
theorem d24_77 : decode (cod 24) 77 = .ok (.iload 5, 2) := by decide +kernel
theorem d24_79 : decode (cod 24) 79 = .ok (.bipush 15, 2) := by decide +kernel
theorem d24_81 : decode (cod 24) 81 = .ok (.iand, 1) := by decide +kernel
theorem d24_82 : decode (cod 24) 82 = .ok (.iconst 1, 1) := by decide +kernel
theorem d24_83 : decode (cod 24) 83 = .ok (.iload 5, 2) := by decide +kernel
theorem d24_85 : decode (cod 24) 85 = .ok (.iconst 4, 1) := by decide +kernel
theorem d24_86 : decode (cod 24) 86 = .ok (.ishr, 1) := by decide +kernel
theorem d24_87 : decode (cod 24) 87 = .ok (.ishl, 1) := by decide +kernel
theorem d24_88 : decode (cod 24) 88 = .ok (.if_icmp .ge 13, 3) := by decide +kernel
theorem d24_91 : decode (cod 24) 91 = .ok (.aload_n 0, 1) := by decide +kernel
theorem d24_92 : decode (cod 24) 92 = .ok (.iload_n 1, 1) := by decide +kernel
theorem d24_93 : decode (cod 24) 93 = .ok (.iload 5, 2) := by decide +kernel
theorem d24_95 : decode (cod 24) 95 = .ok (.iload_n 3, 1) := by decide +kernel
theorem d24_96 : decode (cod 24) 96 = .ok (.iload 4, 2) := by decide +kernel
theorem d24_98 : decode (cod 24) 98 = .ok (.invokevirtual 72, 3) := by decide +kernel
theorem d24_101 : decode (cod 24) 101 = .ok (.iinc 5 1, 3) := by decide +kernel
theorem d24_104 : decode (cod 24) 104 = .ok (.goto (-36), 3) := by decide +kernel
theorem d24_107 : decode (cod 24) 107 = .ok (.return_, 1) := by decide +kernel
theorem d25_0 : decode (cod 25) 0 = .ok (.iload_n 1, 1) := by decide +kernel
theorem d25_1 : decode (cod 25) 1 = .ok (.ifCond .lt 8, 3) := by decide +kernel
theorem d25_4 : decode (cod 25) 4 = .ok (.iload_n 1, 1) := by decide +kernel
theorem d25_5 : decode (cod 25) 5 = .ok (.iconst 5, 1) := by decide +kernel
theorem d25_6 : decode (cod 25) 6 = .ok (.if_icmp .lt 4, 3) := by decide +kernel
theorem d25_9 : decode (cod 25) 9 = .ok (.return_, 1) := by decide +kernel
theorem d25_10 : decode (cod 25) 10 = .ok (.iload_n 3, 1) := by decide +kernel
theorem d25_11 : decode (cod 25) 11 = .ok (.istore 5, 2) := by decide +kernel
theorem d25_13 : decode (cod 25) 13 = .ok (.iconst 0, 1) := by decide +kernel
theorem d25_14 : decode (cod 25) 14 = .ok (.istore 6, 2) := by decide +kernel
theorem d25_16 : decode (cod 25) 16 = .ok (.iload 6, 2) := by decide +kernel
theorem d25_18 : decode (cod 25) 18 = .ok (.iload_n 1, 1) := by decide +kernel
theorem d25_19 : decode (cod 25) 19 = .ok (.if_icmp .ge 25, 3) := by decide +kernel
theorem d25_22 : decode (cod 25) 22 = .ok (.iload 5, 2) := by decide +kernel
theorem d25_24 : decode (cod 25) 24 = .ok (.aload_n 0, 1) := by decide +kernel
theorem d25_25 : decode (cod 25) 25 = .ok (.getfield 28, 3) := by decide +kernel
theorem d25_28 : decode (cod 25) 28 = .ok (.iload 6, 2) := by decide +kernel
theorem d25_30 : decode (cod 25) 30 = .ok (.iaload, 1) := by decide +kernel
theorem d25_31 : decode (cod 25) 31 = .ok (.iload_n 2, 1) := by decide +kernel
theorem d25_32 : decode (cod 25) 32 = .ok (.invokestatic 58, 3) := by decide +kernel
theorem d25_35 : decode (cod 25) 35 = .ok (.iadd, 1) := by decide +kernel
theorem d25_36 : decode (cod 25) 36 = .ok (.istore 5, 2) := by decide +kernel
theorem d25_38 : decode (cod 25) 38 = .ok (.iinc 6 1, 3) := by decide +kernel
theorem d25_41 : decode (cod 25) 41 = .ok (.goto (-25), 3) := by decide +kernel
theorem d25_44 : decode (cod 25) 44 = .ok (.aload_n 0, 1) := by decide +kernel
theorem d25_45 : decode (cod 25) 45 = .ok (.getfield 28, 3) := by decide +kernel
theorem d25_48 : decode (cod 25) 48 = .ok (.iload_n 1, 1) := by decide +kernel
theorem d25_49 : decode (cod 25) 49 = .ok (.iload_n 2, 1) := by decide +kernel
theorem d25_50 : decode (cod 25) 50 = .ok (.iastore, 1) := by decide +kernel
theorem d25_51 : decode (cod 25) 51 = .ok (.aload_n 0, 1) := by decide +kernel
theorem d25_52 : decode (cod 25) 52 = .ok (.iload_n 1, 1) := by decide +kernel
theorem d25_53 : decode (cod 25) 53 = .ok (.iconst 1, 1) := by decide +kernel
theorem d25_54 : decode (cod 25) 54 = .ok (.iadd, 1) := by decide +kernel
theorem d25_55 : decode (cod 25) 55 = .ok (.iload_n 2, 1) := by decide +kernel
theorem d25_56 : decode (cod 25) 56 = .ok (.iconst 1, 1) := by decide +kernel
theorem d25_57 : decode (cod 25) 57 = .ok (.iadd, 1) := by decide +kernel
theorem d25_58 : decode (cod 25) 58 = .ok (.iload 5, 2) := by decide +kernel
theorem d25_60 : decode (cod 25) 60 = .ok (.iload 4, 2) := by decide +kernel
theorem d25_62 : decode (cod 25) 62 = .ok (.iload_n 2, 1) := by decide +kernel
theorem d25_63 : decode (cod 25) 63 = .ok (.iconst 4, 1) := by decide +kernel
theorem d25_64 : decode (cod 25) 64 = .ok (.ishr, 1) := by decide +kernel
theorem d25_65 : decode (cod 25) 65 = .ok (.iadd, 1) := by decide +kernel
theorem d25_66 : decode (cod 25) 66 = .ok (.invokevirtual 62, 3) := by decide +kernel
theorem d25_69 : decode (cod 25) 69 = .ok (.return_, 1) := by decide +kernel
theorem d26_0 : decode (cod 26) 0 = .ok (.aload_n 0, 1) := by decide +kernel
theorem d26_1 : decode (cod 26) 1 = .ok (.invokespecial 3, 3) := by decide +kernel
theorem d26_4 : decode (cod 26) 4 = .ok (.aload_n 0, 1) := by decide +kernel
theorem d26_5 : decode (cod 26) 5 = .ok (.iconst 0, 1) := by decide +kernel
theorem d26_6 : decode (cod 26) 6 = .ok (.putfield 9, 3) := by decide +kernel
theorem d26_9 : decode (cod 26) 9 = .ok (.aload_n 0, 1) := by decide +kernel
theorem d26_10 : decode (cod 26) 10 = .ok (.bipush 7, 2) := by decide +kernel
theorem d26_12 : decode (cod 26) 12 = .ok (.newarray .int, 2) := by decide +kernel
theorem d26_14 : decode (cod 26) 14 = .ok (.putfield 15, 3) := by decide +kernel
theorem d26_17 : decode (cod 26) 17 = .ok (.aload_n 0, 1) := by decide +kernel
theorem d26_18 : decode (cod 26) 18 = .ok (.iconst 0, 1) := by decide +kernel
theorem d26_19 : decode (cod 26) 19 = .ok (.putfield 19, 3) := by decide +kernel
theorem d26_22 : decode (cod 26) 22 = .ok (.aload_n 0, 1) := by decide +kernel
theorem d26_23 : decode (cod 26) 23 = .ok (.iconst 0, 1) := by decide +kernel
theorem d26_24 : decode (cod 26) 24 = .ok (.putfield 22, 3) := by decide +kernel
theorem d26_27 : decode (cod 26) 27 = .ok (.aload_n 0, 1) := by decide +kernel
theorem d26_28 : decode (cod 26) 28 = .ok (.bipush 7, 2) := by decide +kernel
theorem d26_30 : decode (cod 26) 30 = .ok (.newarray .int, 2) := by decide +kernel
theorem d26_32 : decode (cod 26) 32 = .ok (.putfield 25, 3) := by decide +kernel
theorem d26_35 : decode (cod 26) 35 = .ok (.aload_n 0, 1) := by decide +kernel
theorem d26_36 : decode (cod 26) 36 = .ok (.bipush 49, 2) := by decide +kernel
theorem d26_38 : decode (cod 26) 38 = .ok (.newarray .int, 2) := by decide +kernel
theorem d26_40 : decode (cod 26) 40 = .ok (.putfield 28, 3) := by decide +kernel
theorem d26_43 : decode (cod 26) 43 = .ok (.aload_n 0, 1) := by decide +kernel
theorem d26_44 : decode (cod 26) 44 = .ok (.bipush 7, 2) := by decide +kernel
theorem d26_46 : decode (cod 26) 46 = .ok (.newarray .int, 2) := by decide +kernel
theorem d26_48 : decode (cod 26) 48 = .ok (.putfield 31, 3) := by decide +kernel
theorem d26_51 : decode (cod 26) 51 = .ok (.return_, 1) := by decide +kernel
theorem d27_0 : decode (cod 27) 0 = .ok (.aload_n 0, 1) := by decide +kernel
theorem d27_1 : decode (cod 27) 1 = .ok (.iload_n 2, 1) := by decide +kernel
theorem d27_2 : decode (cod 27) 2 = .ok (.bipush 7, 2) := by decide +kernel
theorem d27_4 : decode (cod 27) 4 = .ok (.invokestatic 34, 3) := by decide +kernel
theorem d27_7 : decode (cod 27) 7 = .ok (.putfield 19, 3) := by decide +kernel
theorem d27_10 : decode (cod 27) 10 = .ok (.aload_n 0, 1) := by decide +kernel
theorem d27_11 : decode (cod 27) 11 = .ok (.iload_n 3, 1) := by decide +kernel
theorem d27_12 : decode (cod 27) 12 = .ok (.putfield 22, 3) := by decide +kernel
theorem d27_15 : decode (cod 27) 15 = .ok (.iconst 0, 1) := by decide +kernel
theorem d27_16 : decode (cod 27) 16 = .ok (.istore 4, 2) := by decide +kernel
theorem d27_18 : decode (cod 27) 18 = .ok (.iload 4, 2) := by decide +kernel
theorem d27_20 : decode (cod 27) 20 = .ok (.aload_n 0, 1) := by decide +kernel
theorem d27_21 : decode (cod 27) 21 = .ok (.getfield 19, 3) := by decide +kernel
theorem d27_24 : decode (cod 27) 24 = .ok (.if_icmp .ge 66, 3) := by decide +kernel
theorem d27_27 : decode (cod 27) 27 = .ok (.aload_n 0, 1) := by decide +kernel
theorem d27_28 : decode (cod 27) 28 = .ok (.getfield 31, 3) := by decide +kernel
theorem d27_31 : decode (cod 27) 31 = .ok (.iload 4, 2) := by decide +kernel
theorem d27_33 : decode (cod 27) 33 = .ok (.aload_n 1, 1) := by decide +kernel
theorem d27_34 : decode (cod 27) 34 = .ok (.getfield 40, 3) := by decide +kernel
theorem d27_37 : decode (cod 27) 37 = .ok (.getfield 45, 3) := by decide +kernel
theorem d27_40 : decode (cod 27) 40 = .ok (.iload 4, 2) := by decide +kernel
theorem d27_42 : decode (cod 27) 42 = .ok (.iaload, 1) := by decide +kernel
theorem d27_43 : decode (cod 27) 43 = .ok (.iastore, 1) := by decide +kernel
theorem d27_44 : decode (cod 27) 44 = .ok (.iconst 0, 1) := by decide +kernel
theorem d27_45 : decode (cod 27) 45 = .ok (.istore 5, 2) := by decide +kernel
theorem d27_47 : decode (cod 27) 47 = .ok (.iload 5, 2) := by decide +kernel
theorem d27_49 : decode (cod 27) 49 = .ok (.iload 4, 2) := by decide +kernel
theorem d27_51 : decode (cod 27) 51 = .ok (.if_icmp .ge 33, 3) := by decide +kernel
theorem d27_54 : decode (cod 27) 54 = .ok (.aload_n 0, 1) := by decide +kernel
theorem d27_55 : decode (cod 27) 55 = .ok (.getfield 28, 3) := by decide +kernel
theorem d27_58 : decode (cod 27) 58 = .ok (.bipush 7, 2) := by decide +kernel
theorem d27_60 : decode (cod 27) 60 = .ok (.iload 4, 2) := by decide +kernel
theorem d27_62 : decode (cod 27) 62 = .ok (.imul, 1) := by decide +kernel
theorem d27_63 : decode (cod 27) 63 = .ok (.iload 5, 2) := by decide +kernel
theorem d27_65 : decode (cod 27) 65 = .ok (.iadd, 1) := by decide +kernel
theorem d27_66 : decode (cod 27) 66 = .ok (.aload_n 1, 1) := by decide +kernel
theorem d27_67 : decode (cod 27) 67 = .ok (.getfield 48, 3) := by decide +kernel
theorem d27_70 : decode (cod 27) 70 = .ok (.iload 4, 2) := by decide +kernel
theorem d27_72 : decode (cod 27) 72 = .ok (.iload 5, 2) := by decide +kernel
theorem d27_74 : decode (cod 27) 74 = .ok (.invokevirtual 51, 3) := by decide +kernel
theorem d27_77 : decode (cod 27) 77 = .ok (.iastore, 1) := by decide +kernel
theorem d27_78 : decode (cod 27) 78 = .ok (.iinc 5 1, 3) := by decide +kernel
theorem d27_81 : decode (cod 27) 81 = .ok (.goto (-34), 3) := by decide +kernel
theorem d27_84 : decode (cod 27) 84 = .ok (.iinc 4 1, 3) := by decide +kernel
theorem d27_87 : decode (cod 27) 87 = .ok (.goto (-69), 3) := by decide +kernel
theorem d27_90 : decode (cod 27) 90 = .ok (.aload_n 0, 1) := by decide +kernel
theorem d27_91 : decode (cod 27) 91 = .ok (.ldc 56, 2) := by decide +kernel
theorem d27_93 : decode (cod 27) 93 = .ok (.putfield 9, 3) := by decide +kernel
theorem d27_96 : decode (cod 27) 96 = .ok (.aload_n 0, 1) := by decide +kernel
theorem d27_97 : decode (cod 27) 97 = .ok (.iconst 0, 1) := by decide +kernel
theorem d27_98 : decode (cod 27) 98 = .ok (.iconst 0, 1) := by decide +kernel
theorem d27_99 : decode (cod 27) 99 = .ok (.invokevirtual 57, 3) := by decide +kernel
theorem d27_102 : decode (cod 27) 102 = .ok (.aload_n 0, 1) := by decide +kernel
theorem d27_103 : decode (cod 27) 103 = .ok (.getfield 9, 3) := by decide +kernel
theorem d27_106 : decode (cod 27) 106 = .ok (.ldc 56, 2) := by decide +kernel
theorem d27_108 : decode (cod 27) 108 = .ok (.if_icmp .ge 7, 3) := by decide +kernel
theorem d27_111 : decode (cod 27) 111 = .ok (.iconst 1, 1) := by decide +kernel
theorem d27_112 : decode (cod 27) 112 = .ok (.goto 4, 3) := by decide +kernel
theorem d27_115 : decode (cod 27) 115 = .ok (.iconst 0, 1) := by decide +kernel
theorem d27_116 : decode (cod 27) 116 = .ok (.ireturn, 1) := by decide +kernel
theorem d28_0 : decode (cod 28) 0 = .ok (.iload_n 2, 1) := by decide +kernel
theorem d28_1 : decode (cod 28) 1 = .ok (.aload_n 0, 1) := by decide +kernel
theorem d28_2 : decode (cod 28) 2 = .ok (.getfield 9, 3) := by decide +kernel
theorem d28_5 : decode (cod 28) 5 = .ok (.if_icmp .lt 4, 3) := by decide +kernel
theorem d28_8 : decode (cod 28) 8 = .ok (.return_, 1) := by decide +kernel
theorem d28_9 : decode (cod 28) 9 = .ok (.iload_n 1, 1) := by decide +kernel
theorem d28_10 : decode (cod 28) 10 = .ok (.aload_n 0, 1) := by decide +kernel
theorem d28_11 : decode (cod 28) 11 = .ok (.getfield 19, 3) := by decide +kernel
theorem d28_14 : decode (cod 28) 14 = .ok (.if_icmp .ge 9, 3) := by decide +kernel
theorem d28_17 : decode (cod 28) 17 = .ok (.iload_n 1, 1) := by decide +kernel
theorem d28_18 : decode (cod 28) 18 = .ok (.bipush 7, 2) := by decide +kernel
theorem d28_20 : decode (cod 28) 20 = .ok (.if_icmp .lt 24, 3) := by decide +kernel
theorem d28_23 : decode (cod 28) 23 = .ok (.aload_n 0, 1) := by decide +kernel
theorem d28_24 : decode (cod 28) 24 = .ok (.iload_n 2, 1) := by decide +kernel
theorem d28_25 : decode (cod 28) 25 = .ok (.putfield 9, 3) := by decide +kernel
theorem d28_28 : decode (cod 28) 28 = .ok (.aload_n 0, 1) := by decide +kernel
theorem d28_29 : decode (cod 28) 29 = .ok (.getfield 25, 3) := by decide +kernel
theorem d28_32 : decode (cod 28) 32 = .ok (.iconst 0, 1) := by decide +kernel
theorem d28_33 : decode (cod 28) 33 = .ok (.aload_n 0, 1) := by decide +kernel
theorem d28_34 : decode (cod 28) 34 = .ok (.getfield 15, 3) := by decide +kernel
theorem d28_37 : decode (cod 28) 37 = .ok (.iconst 0, 1) := by decide +kernel
theorem d28_38 : decode (cod 28) 38 = .ok (.bipush 7, 2) := by decide +kernel
theorem d28_40 : decode (cod 28) 40 = .ok (.invokestatic 61, 3) := by decide +kernel
theorem d28_43 : decode (cod 28) 43 = .ok (.return_, 1) := by decide +kernel
theorem d28_44 : decode (cod 28) 44 = .ok (.iconst 0, 1) := by decide +kernel
theorem d28_45 : decode (cod 28) 45 = .ok (.istore_n 3, 1) := by decide +kernel
theorem d28_46 : decode (cod 28) 46 = .ok (.iload_n 3, 1) := by decide +kernel
theorem d28_47 : decode (cod 28) 47 = .ok (.aload_n 0, 1) := by decide +kernel
theorem d28_48 : decode (cod 28) 48 = .ok (.getfield 22, 3) := by decide +kernel
theorem d28_51 : decode (cod 28) 51 = .ok (.if_icmp .ge 16, 3) := by decide +kernel
theorem d28_54 : decode (cod 28) 54 = .ok (.aload_n 0, 1) := by decide +kernel
theorem d28_55 : decode (cod 28) 55 = .ok (.iload_n 1, 1) := by decide +kernel
theorem d28_56 : decode (cod 28) 56 = .ok (.iload_n 3, 1) := by decide +kernel
theorem d28_57 : decode (cod 28) 57 = .ok (.iload_n 2, 1) := by decide +kernel
theorem d28_58 : decode (cod 28) 58 = .ok (.invokevirtual 67, 3) := by decide +kernel
theorem d28_61 : decode (cod 28) 61 = .ok (.iinc 3 1, 3) := by decide +kernel
theorem d28_64 : decode (cod 28) 64 = .ok (.goto (-18), 3) := by decide +kernel
theorem d28_67 : decode (cod 28) 67 = .ok (.return_, 1) := by decide +kernel
theorem d29_0 : decode (cod 29) 0 = .ok (.iload_n 1, 1) := by decide +kernel
theorem d29_1 : decode (cod 29) 1 = .ok (.ifCond .lt 9, 3) := by decide +kernel
theorem d29_4 : decode (cod 29) 4 = .ok (.iload_n 1, 1) := by decide +kernel
theorem d29_5 : decode (cod 29) 5 = .ok (.bipush 7, 2) := by decide +kernel
theorem d29_7 : decode (cod 29) 7 = .ok (.if_icmp .lt 4, 3) := by decide +kernel
theorem d29_10 : decode (cod 29) 10 = .ok (.return_, 1) := by decide +kernel
theorem d29_11 : decode (cod 29) 11 = .ok (.iload_n 3, 1) := by decide +kernel
theorem d29_12 : decode (cod 29) 12 = .ok (.istore 4, 2) := by decide +kernel
theorem d29_14 : decode (cod 29) 14 = .ok (.iconst 0, 1) := by decide +kernel
theorem d29_15 : decode (cod 29) 15 = .ok (.istore 5, 2) := by decide +kernel
theorem d29_17 : decode (cod 29) 17 = .ok (.iload 5, 2) := by decide +kernel
theorem d29_19 : decode (cod 29) 19 = .ok (.iload_n 1, 1) := by decide +kernel
theorem d29_20 : decode (cod 29) 20 = .ok (.if_icmp .ge 73, 3) := by decide +kernel
theorem d29_23 : decode (cod 29) 23 = .ok (.aload_n 0, 1) := by decide +kernel
theorem d29_24 : decode (cod 29) 24 = .ok (.getfield 25, 3) := by decide +kernel
theorem d29_27 : decode (cod 29) 27 = .ok (.iload 5, 2) := by decide +kernel
theorem d29_29 : decode (cod 29) 29 = .ok (.iaload, 1) := by decide +kernel
theorem d29_30 : decode (cod 29) 30 = .ok (.iload_n 2, 1) := by decide +kernel
theorem d29_31 : decode (cod 29) 31 = .ok (.if_icmp .ne 7, 3) := by decide +kernel
theorem d29_34 : decode (cod 29) 34 = .ok (.iconst 1, 1) := by decide +kernel
theorem d29_35 : decode (cod 29) 35 = .ok (.goto 4, 3) := by decide +kernel
theorem d29_38 : decode (cod 29) 38 = .ok (.iconst 0, 1) := by decide +kernel
theorem d29_39 : decode (cod 29) 39 = .ok (.istore 6, 2) := by decide +kernel
theorem d29_41 : decode (cod 29) 41 = .ok (.iload 6, 2) := by decide +kernel
theorem d29_43 : decode (cod 29) 43 = .ok (.ifCond .eq 18, 3) := by decide +kernel
theorem d29_46 : decode (cod 29) 46 = .ok (.aload_n 0, 1) := by decide +kernel
theorem d29_47 : decode (cod 29) 47 = .ok (.getfield 31, 3) := by decide +kernel
theorem d29_50 : decode (cod 29) 50 = .ok (.iload_n 1, 1) := by decide +kernel
theorem d29_51 : decode (cod 29) 51 = .ok (.iaload, 1) := by decide +kernel
theorem d29_52 : decode (cod 29) 52 = .ok (.iload 5, 2) := by decide +kernel
theorem d29_54 : decode (cod 29) 54 = .ok (.ishr, 1) := by decide +kernel
theorem d29_55 : decode (cod 29) 55 = .ok (.iconst 1, 1) := by decide +kernel
theorem d29_56 : decode (cod 29) 56 = .ok (.iand, 1) := by decide +kernel
theorem d29_57 : decode (cod 29) 57 = .ok (.ifCond .eq 4, 3) := by decide +kernel
theorem d29_60 : decode (cod 29) 60 = .ok (.return_, 1) := by decide +kernel
theorem d29_61 : decode (cod 29) 61 = .ok (.iload 4, 2) := by decide +kernel
theorem d29_63 : decode (cod 29) 63 = .ok (.iload 6, 2) := by decide +kernel
theorem d29_65 : decode (cod 29) 65 = .ok (.ifCond .eq 7, 3) := by decide +kernel
theorem d29_68 : decode (cod 29) 68 = .ok (.iconst 1, 1) := by decide +kernel
theorem d29_69 : decode (cod 29) 69 = .ok (.goto 15, 3) := by decide +kernel
theorem d29_72 : decode (cod 29) 72 = .ok (.aload_n 0, 1) := by decide +kernel
theorem d29_73 : decode (cod 29) 73 = .ok (.getfield 28, 3) := by decide +kernel
theorem d29_76 : decode (cod 29) 76 = .ok (.bipush 7, 2) := by decide +kernel
theorem d29_78 : decode (cod 29) 78 = .ok (.iload_n 1, 1) := by decide +kernel
theorem d29_79 : decode (cod 29) 79 = .ok (.imul, 1) := by decide +kernel
theorem d29_80 : decode (cod 29) 80 = .ok (.iload 5, 2) := by decide +kernel
theorem d29_82 : decode (cod 29) 82 = .ok (.iadd, 1) := by decide +kernel
theorem d29_83 : decode (cod 29) 83 = .ok (.iaload, 1) := by decide +kernel
theorem d29_84 : decode (cod 29) 84 = .ok (.iadd, 1) := by decide +kernel
theorem d29_85 : decode (cod 29) 85 = .ok (.istore 4, 2) := by decide +kernel
theorem d29_87 : decode (cod 29) 87 = .ok (.iinc 5 1, 3) := by decide +kernel
theorem d29_90 : decode (cod 29) 90 = .ok (.goto (-73), 3) := by decide +kernel
theorem d29_93 : decode (cod 29) 93 = .ok (.aload_n 0, 1) := by decide +kernel
theorem d29_94 : decode (cod 29) 94 = .ok (.getfield 25, 3) := by decide +kernel
theorem d29_97 : decode (cod 29) 97 = .ok (.iload_n 1, 1) := by decide +kernel
theorem d29_98 : decode (cod 29) 98 = .ok (.iload_n 2, 1) := by decide +kernel
theorem d29_99 : decode (cod 29) 99 = .ok (.iastore, 1) := by decide +kernel
theorem d29_100 : decode (cod 29) 100 = .ok (.aload_n 0, 1) := by decide +kernel
theorem d29_101 : decode (cod 29) 101 = .ok (.iload_n 1, 1) := by decide +kernel
theorem d29_102 : decode (cod 29) 102 = .ok (.iconst 1, 1) := by decide +kernel
theorem d29_103 : decode (cod 29) 103 = .ok (.iadd, 1) := by decide +kernel
theorem d29_104 : decode (cod 29) 104 = .ok (.iload 4, 2) := by decide +kernel
theorem d29_106 : decode (cod 29) 106 = .ok (.invokevirtual 57, 3) := by decide +kernel
theorem d29_109 : decode (cod 29) 109 = .ok (.return_, 1) := by decide +kernel
theorem d30_0 : decode (cod 30) 0 = .ok (.aload_n 0, 1) := by decide +kernel
theorem d30_1 : decode (cod 30) 1 = .ok (.invokespecial 3, 3) := by decide +kernel
theorem d30_4 : decode (cod 30) 4 = .ok (.aload_n 0, 1) := by decide +kernel
theorem d30_5 : decode (cod 30) 5 = .ok (.bipush 60, 2) := by decide +kernel
theorem d30_7 : decode (cod 30) 7 = .ok (.newarray .int, 2) := by decide +kernel
theorem d30_9 : decode (cod 30) 9 = .ok (.putfield 9, 3) := by decide +kernel
theorem d30_12 : decode (cod 30) 12 = .ok (.aload_n 0, 1) := by decide +kernel
theorem d30_13 : decode (cod 30) 13 = .ok (.bipush 60, 2) := by decide +kernel
theorem d30_15 : decode (cod 30) 15 = .ok (.newarray .int, 2) := by decide +kernel
theorem d30_17 : decode (cod 30) 17 = .ok (.putfield 15, 3) := by decide +kernel
theorem d30_20 : decode (cod 30) 20 = .ok (.aload_n 0, 1) := by decide +kernel
theorem d30_21 : decode (cod 30) 21 = .ok (.iconst 0, 1) := by decide +kernel
theorem d30_22 : decode (cod 30) 22 = .ok (.putfield 18, 3) := by decide +kernel
theorem d30_25 : decode (cod 30) 25 = .ok (.aload_n 0, 1) := by decide +kernel
theorem d30_26 : decode (cod 30) 26 = .ok (.iconst 0, 1) := by decide +kernel
theorem d30_27 : decode (cod 30) 27 = .ok (.putfield 22, 3) := by decide +kernel
theorem d30_30 : decode (cod 30) 30 = .ok (.aload_n 0, 1) := by decide +kernel
theorem d30_31 : decode (cod 30) 31 = .ok (.iconst 0, 1) := by decide +kernel
theorem d30_32 : decode (cod 30) 32 = .ok (.putfield 25, 3) := by decide +kernel
theorem d30_35 : decode (cod 30) 35 = .ok (.aload_n 0, 1) := by decide +kernel
theorem d30_36 : decode (cod 30) 36 = .ok (.iconst 0, 1) := by decide +kernel
theorem d30_37 : decode (cod 30) 37 = .ok (.putfield 28, 3) := by decide +kernel
theorem d30_40 : decode (cod 30) 40 = .ok (.return_, 1) := by decide +kernel
theorem d31_0 : decode (cod 31) 0 = .ok (.aload_n 0, 1) := by decide +kernel
theorem d31_1 : decode (cod 31) 1 = .ok (.aload_n 1, 1) := by decide +kernel
theorem d31_2 : decode (cod 31) 2 = .ok (.invokevirtual 31, 3) := by decide +kernel
theorem d31_5 : decode (cod 31) 5 = .ok (.iconst 0, 1) := by decide +kernel
theorem d31_6 : decode (cod 31) 6 = .ok (.istore_n 3, 1) := by decide +kernel
theorem d31_7 : decode (cod 31) 7 = .ok (.iconst 0, 1) := by decide +kernel
theorem d31_8 : decode (cod 31) 8 = .ok (.istore 4, 2) := by decide +kernel
theorem d31_10 : decode (cod 31) 10 = .ok (.iload 4, 2) := by decide +kernel
theorem d31_12 : decode (cod 31) 12 = .ok (.iload_n 2, 1) := by decide +kernel
theorem d31_13 : decode (cod 31) 13 = .ok (.if_icmp .ge 60, 3) := by decide +kernel
theorem d31_16 : decode (cod 31) 16 = .ok (.iload_n 3, 1) := by decide +kernel
theorem d31_17 : decode (cod 31) 17 = .ok (.ifCond .ne 40, 3) := by decide +kernel
theorem d31_20 : decode (cod 31) 20 = .ok (.aload_n 0, 1) := by decide +kernel
theorem d31_21 : decode (cod 31) 21 = .ok (.aload_n 1, 1) := by decide +kernel
theorem d31_22 : decode (cod 31) 22 = .ok (.getfield 35, 3) := by decide +kernel
theorem d31_25 : decode (cod 31) 25 = .ok (.aload_n 1, 1) := by decide +kernel
theorem d31_26 : decode (cod 31) 26 = .ok (.getfield 41, 3) := by decide +kernel
theorem d31_29 : decode (cod 31) 29 = .ok (.invokevirtual 44, 3) := by decide +kernel
theorem d31_32 : decode (cod 31) 32 = .ok (.aload_n 0, 1) := by decide +kernel
theorem d31_33 : decode (cod 31) 33 = .ok (.aload_n 1, 1) := by decide +kernel
theorem d31_34 : decode (cod 31) 34 = .ok (.invokevirtual 48, 3) := by decide +kernel
theorem d31_37 : decode (cod 31) 37 = .ok (.aload_n 0, 1) := by decide +kernel
theorem d31_38 : decode (cod 31) 38 = .ok (.getfield 28, 3) := by decide +kernel
theorem d31_41 : decode (cod 31) 41 = .ok (.ifCond .ne 14, 3) := by decide +kernel
theorem d31_44 : decode (cod 31) 44 = .ok (.aload_n 0, 1) := by decide +kernel
theorem d31_45 : decode (cod 31) 45 = .ok (.getfield 18, 3) := by decide +kernel
theorem d31_48 : decode (cod 31) 48 = .ok (.ifCond .ne 7, 3) := by decide +kernel
theorem d31_51 : decode (cod 31) 51 = .ok (.iconst 1, 1) := by decide +kernel
theorem d31_52 : decode (cod 31) 52 = .ok (.goto 4, 3) := by decide +kernel
theorem d31_55 : decode (cod 31) 55 = .ok (.iconst 0, 1) := by decide +kernel
theorem d31_56 : decode (cod 31) 56 = .ok (.istore_n 3, 1) := by decide +kernel
theorem d31_57 : decode (cod 31) 57 = .ok (.aload_n 1, 1) := by decide +kernel
theorem d31_58 : decode (cod 31) 58 = .ok (.dup, 1) := by decide +kernel
theorem d31_59 : decode (cod 31) 59 = .ok (.getfield 41, 3) := by decide +kernel
theorem d31_62 : decode (cod 31) 62 = .ok (.iconst 1, 1) := by decide +kernel
theorem d31_63 : decode (cod 31) 63 = .ok (.iadd, 1) := by decide +kernel
theorem d31_64 : decode (cod 31) 64 = .ok (.putfield 41, 3) := by decide +kernel
theorem d31_67 : decode (cod 31) 67 = .ok (.iinc 4 1, 3) := by decide +kernel
theorem d31_70 : decode (cod 31) 70 = .ok (.goto (-60), 3) := by decide +kernel
theorem d31_73 : decode (cod 31) 73 = .ok (.return_, 1) := by decide +kernel
theorem d32_0 : decode (cod 32) 0 = .ok (.aload_n 1, 1) := by decide +kernel
theorem d32_1 : decode (cod 32) 1 = .ok (.getfield 35, 3) := by decide +kernel
theorem d32_4 : decode (cod 32) 4 = .ok (.astore_n 2, 1) := by decide +kernel
theorem d32_5 : decode (cod 32) 5 = .ok (.aload_n 0, 1) := by decide +kernel
theorem d32_6 : decode (cod 32) 6 = .ok (.iconst 0, 1) := by decide +kernel
theorem d32_7 : decode (cod 32) 7 = .ok (.putfield 18, 3) := by decide +kernel
theorem d32_10 : decode (cod 32) 10 = .ok (.iconst 0, 1) := by decide +kernel
theorem d32_11 : decode (cod 32) 11 = .ok (.istore_n 3, 1) := by decide +kernel
theorem d32_12 : decode (cod 32) 12 = .ok (.iload_n 3, 1) := by decide +kernel
theorem d32_13 : decode (cod 32) 13 = .ok (.aload_n 2, 1) := by decide +kernel
theorem d32_14 : decode (cod 32) 14 = .ok (.getfield 51, 3) := by decide +kernel
theorem d32_17 : decode (cod 32) 17 = .ok (.if_icmp .ge 136, 3) := by decide +kernel
theorem d32_20 : decode (cod 32) 20 = .ok (.aload_n 0, 1) := by decide +kernel
theorem d32_21 : decode (cod 32) 21 = .ok (.getfield 18, 3) := by decide +kernel
theorem d32_24 : decode (cod 32) 24 = .ok (.bipush 60, 2) := by decide +kernel
theorem d32_26 : decode (cod 32) 26 = .ok (.if_icmp .ge 127, 3) := by decide +kernel
theorem d32_29 : decode (cod 32) 29 = .ok (.aload_n 2, 1) := by decide +kernel
theorem d32_30 : decode (cod 32) 30 = .ok (.getfield 56, 3) := by decide +kernel
theorem d32_33 : decode (cod 32) 33 = .ok (.iload_n 3, 1) := by decide +kernel
theorem d32_34 : decode (cod 32) 34 = .ok (.iaload, 1) := by decide +kernel
theorem d32_35 : decode (cod 32) 35 = .ok (.ifCond .eq 6, 3) := by decide +kernel
theorem d32_38 : decode (cod 32) 38 = .ok (.goto 109, 3) := by decide +kernel
theorem d32_41 : decode (cod 32) 41 = .ok (.aload_n 1, 1) := by decide +kernel
theorem d32_42 : decode (cod 32) 42 = .ok (.iload_n 3, 1) := by decide +kernel
theorem d32_43 : decode (cod 32) 43 = .ok (.aload_n 2, 1) := by decide +kernel
theorem d32_44 : decode (cod 32) 44 = .ok (.getfield 59, 3) := by decide +kernel
theorem d32_47 : decode (cod 32) 47 = .ok (.iload_n 3, 1) := by decide +kernel
theorem d32_48 : decode (cod 32) 48 = .ok (.iaload, 1) := by decide +kernel
theorem d32_49 : decode (cod 32) 49 = .ok (.bipush 100, 2) := by decide +kernel
theorem d32_51 : decode (cod 32) 51 = .ok (.idiv, 1) := by decide +kernel
theorem d32_52 : decode (cod 32) 52 = .ok (.invokevirtual 62, 3) := by decide +kernel
theorem d32_55 : decode (cod 32) 55 = .ok (.istore 4, 2) := by decide +kernel
theorem d32_57 : decode (cod 32) 57 = .ok (.aload_n 0, 1) := by decide +kernel
theorem d32_58 : decode (cod 32) 58 = .ok (.getfield 18, 3) := by decide +kernel
theorem d32_61 : decode (cod 32) 61 = .ok (.istore 5, 2) := by decide +kernel
theorem d32_63 : decode (cod 32) 63 = .ok (.iload 5, 2) := by decide +kernel
theorem d32_65 : decode (cod 32) 65 = .ok (.ifCond .le 55, 3) := by decide +kernel
theorem d32_68 : decode (cod 32) 68 = .ok (.aload_n 0, 1) := by decide +kernel
theorem d32_69 : decode (cod 32) 69 = .ok (.getfield 15, 3) := by decide +kernel
theorem d32_72 : decode (cod 32) 72 = .ok (.iload 5, 2) := by decide +kernel
theorem d32_74 : decode (cod 32) 74 = .ok (.iconst 1, 1) := by decide +kernel
theorem d32_75 : decode (cod 32) 75 = .ok (.isub, 1) := by decide +kernel
theorem d32_76 : decode (cod 32) 76 = .ok (.iaload, 1) := by decide +kernel
theorem d32_77 : decode (cod 32) 77 = .ok (.iload 4, 2) := by decide +kernel
theorem d32_79 : decode (cod 32) 79 = .ok (.if_icmp .le 41, 3) := by decide +kernel
theorem d32_82 : decode (cod 32) 82 = .ok (.aload_n 0, 1) := by decide +kernel
theorem d32_83 : decode (cod 32) 83 = .ok (.getfield 15, 3) := by decide +kernel
theorem d32_86 : decode (cod 32) 86 = .ok (.iload 5, 2) := by decide +kernel
theorem d32_88 : decode (cod 32) 88 = .ok (.aload_n 0, 1) := by decide +kernel
theorem d32_89 : decode (cod 32) 89 = .ok (.getfield 15, 3) := by decide +kernel
theorem d32_92 : decode (cod 32) 92 = .ok (.iload 5, 2) := by decide +kernel
theorem d32_94 : decode (cod 32) 94 = .ok (.iconst 1, 1) := by decide +kernel
theorem d32_95 : decode (cod 32) 95 = .ok (.isub, 1) := by decide +kernel
theorem d32_96 : decode (cod 32) 96 = .ok (.iaload, 1) := by decide +kernel
theorem d32_97 : decode (cod 32) 97 = .ok (.iastore, 1) := by decide +kernel
theorem d32_98 : decode (cod 32) 98 = .ok (.aload_n 0, 1) := by decide +kernel
theorem d32_99 : decode (cod 32) 99 = .ok (.getfield 9, 3) := by decide +kernel
theorem d32_102 : decode (cod 32) 102 = .ok (.iload 5, 2) := by decide +kernel
theorem d32_104 : decode (cod 32) 104 = .ok (.aload_n 0, 1) := by decide +kernel
theorem d32_105 : decode (cod 32) 105 = .ok (.getfield 9, 3) := by decide +kernel
theorem d32_108 : decode (cod 32) 108 = .ok (.iload 5, 2) := by decide +kernel
theorem d32_110 : decode (cod 32) 110 = .ok (.iconst 1, 1) := by decide +kernel
theorem d32_111 : decode (cod 32) 111 = .ok (.isub, 1) := by decide +kernel
theorem d32_112 : decode (cod 32) 112 = .ok (.iaload, 1) := by decide +kernel
theorem d32_113 : decode (cod 32) 113 = .ok (.iastore, 1) := by decide +kernel
theorem d32_114 : decode (cod 32) 114 = .ok (.iinc 5 (-1), 3) := by decide +kernel
theorem d32_117 : decode (cod 32) 117 = .ok (.goto (-54), 3) := by decide +kernel
theorem d32_120 : decode (cod 32) 120 = .ok (.aload_n 0, 1) := by decide +kernel
theorem d32_121 : decode (cod 32) 121 = .ok (.getfield 15, 3) := by decide +kernel
theorem d32_124 : decode (cod 32) 124 = .ok (.iload 5, 2) := by decide +kernel
theorem d32_126 : decode (cod 32) 126 = .ok (.iload 4, 2) := by decide +kernel
theorem d32_128 : decode (cod 32) 128 = .ok (.iastore, 1) := by decide +kernel
theorem d32_129 : decode (cod 32) 129 = .ok (.aload_n 0, 1) := by decide +kernel
theorem d32_130 : decode (cod 32) 130 = .ok (.getfield 9, 3) := by decide +kernel
theorem d32_133 : decode (cod 32) 133 = .ok (.iload 5, 2) := by decide +kernel
theorem d32_135 : decode (cod 32) 135 = .ok (.iload_n 3, 1) := by decide +kernel
theorem d32_136 : decode (cod 32) 136 = .ok (.iastore, 1) := by decide +kernel
theorem d32_137 : decode (cod 32) 137 = .ok (.aload_n 0, 1) := by decide +kernel
theorem d32_138 : decode (cod 32) 138 = .ok (.dup, 1) := by decide +kernel
theorem d32_139 : decode (cod 32) 139 = .ok (.getfield 18, 3) := by decide +kernel
theorem d32_142 : decode (cod 32) 142 = .ok (.iconst 1, 1) := by decide +kernel
theorem d32_143 : decode (cod 32) 143 = .ok (.iadd, 1) := by decide +kernel
theorem d32_144 : decode (cod 32) 144 = .ok (.putfield 18, 3) := by decide +kernel
theorem d32_147 : decode (cod 32) 147 = .ok (.iinc 3 1, 3) := by decide +kernel
theorem d32_150 : decode (cod 32) 150 = .ok (.goto (-138), 3) := by decide +kernel
theorem d32_153 : decode (cod 32) 153 = .ok (.return_, 1) := by decide +kernel
theorem d33_0 : decode (cod 33) 0 = .ok (.aload_n 0, 1) := by decide +kernel
theorem d33_1 : decode (cod 33) 1 = .ok (.iconst 0, 1) := by decide +kernel
theorem d33_2 : decode (cod 33) 2 = .ok (.putfield 22, 3) := by decide +kernel
theorem d33_5 : decode (cod 33) 5 = .ok (.aload_n 0, 1) := by decide +kernel
theorem d33_6 : decode (cod 33) 6 = .ok (.iconst 0, 1) := by decide +kernel
theorem d33_7 : decode (cod 33) 7 = .ok (.putfield 25, 3) := by decide +kernel
theorem d33_10 : decode (cod 33) 10 = .ok (.aload_n 0, 1) := by decide +kernel
theorem d33_11 : decode (cod 33) 11 = .ok (.iconst 0, 1) := by decide +kernel
theorem d33_12 : decode (cod 33) 12 = .ok (.putfield 28, 3) := by decide +kernel
theorem d33_15 : decode (cod 33) 15 = .ok (.iconst 0, 1) := by decide +kernel
theorem d33_16 : decode (cod 33) 16 = .ok (.istore_n 3, 1) := by decide +kernel
theorem d33_17 : decode (cod 33) 17 = .ok (.iload_n 3, 1) := by decide +kernel
theorem d33_18 : decode (cod 33) 18 = .ok (.aload_n 1, 1) := by decide +kernel
theorem d33_19 : decode (cod 33) 19 = .ok (.getfield 51, 3) := by decide +kernel
theorem d33_22 : decode (cod 33) 22 = .ok (.if_icmp .ge 55, 3) := by decide +kernel
theorem d33_25 : decode (cod 33) 25 = .ok (.aload_n 1, 1) := by decide +kernel
theorem d33_26 : decode (cod 33) 26 = .ok (.getfield 56, 3) := by decide +kernel
theorem d33_29 : decode (cod 33) 29 = .ok (.iload_n 3, 1) := by decide +kernel
theorem d33_30 : decode (cod 33) 30 = .ok (.iaload, 1) := by decide +kernel
theorem d33_31 : decode (cod 33) 31 = .ok (.iconst 1, 1) := by decide +kernel
theorem d33_32 : decode (cod 33) 32 = .ok (.if_icmp .eq 6, 3) := by decide +kernel
theorem d33_35 : decode (cod 33) 35 = .ok (.goto 36, 3) := by decide +kernel
theorem d33_38 : decode (cod 33) 38 = .ok (.iload_n 2, 1) := by decide +kernel
theorem d33_39 : decode (cod 33) 39 = .ok (.aload_n 1, 1) := by decide +kernel
theorem d33_40 : decode (cod 33) 40 = .ok (.getfield 66, 3) := by decide +kernel
theorem d33_43 : decode (cod 33) 43 = .ok (.iload_n 3, 1) := by decide +kernel
theorem d33_44 : decode (cod 33) 44 = .ok (.iaload, 1) := by decide +kernel
theorem d33_45 : decode (cod 33) 45 = .ok (.isub, 1) := by decide +kernel
theorem d33_46 : decode (cod 33) 46 = .ok (.aload_n 1, 1) := by decide +kernel
theorem d33_47 : decode (cod 33) 47 = .ok (.getfield 69, 3) := by decide +kernel
theorem d33_50 : decode (cod 33) 50 = .ok (.iload_n 3, 1) := by decide +kernel
theorem d33_51 : decode (cod 33) 51 = .ok (.iaload, 1) := by decide +kernel
theorem d33_52 : decode (cod 33) 52 = .ok (.if_icmp .lt 13, 3) := by decide +kernel
theorem d33_55 : decode (cod 33) 55 = .ok (.aload_n 1, 1) := by decide +kernel
theorem d33_56 : decode (cod 33) 56 = .ok (.getfield 56, 3) := by decide +kernel
theorem d33_59 : decode (cod 33) 59 = .ok (.iload_n 3, 1) := by decide +kernel
theorem d33_60 : decode (cod 33) 60 = .ok (.iconst 2, 1) := by decide +kernel
theorem d33_61 : decode (cod 33) 61 = .ok (.iastore, 1) := by decide +kernel
theorem d33_62 : decode (cod 33) 62 = .ok (.goto 9, 3) := by decide +kernel
theorem d33_65 : decode (cod 33) 65 = .ok (.aload_n 0, 1) := by decide +kernel
theorem d33_66 : decode (cod 33) 66 = .ok (.aload_n 1, 1) := by decide +kernel
theorem d33_67 : decode (cod 33) 67 = .ok (.iload_n 3, 1) := by decide +kernel
theorem d33_68 : decode (cod 33) 68 = .ok (.invokevirtual 72, 3) := by decide +kernel
theorem d33_71 : decode (cod 33) 71 = .ok (.iinc 3 1, 3) := by decide +kernel
theorem d33_74 : decode (cod 33) 74 = .ok (.goto (-57), 3) := by decide +kernel
theorem d33_77 : decode (cod 33) 77 = .ok (.return_, 1) := by decide +kernel
theorem d34_0 : decode (cod 34) 0 = .ok (.aload_n 0, 1) := by decide +kernel
theorem d34_1 : decode (cod 34) 1 = .ok (.dup, 1) := by decide +kernel
theorem d34_2 : decode (cod 34) 2 = .ok (.getfield 22, 3) := by decide +kernel
theorem d34_5 : decode (cod 34) 5 = .ok (.aload_n 1, 1) := by decide +kernel
theorem d34_6 : decode (cod 34) 6 = .ok (.getfield 75, 3) := by decide +kernel
theorem d34_9 : decode (cod 34) 9 = .ok (.iload_n 2, 1) := by decide +kernel
theorem d34_10 : decode (cod 34) 10 = .ok (.iaload, 1) := by decide +kernel
theorem d34_11 : decode (cod 34) 11 = .ok (.ior, 1) := by decide +kernel
theorem d34_12 : decode (cod 34) 12 = .ok (.putfield 22, 3) := by decide +kernel
theorem d34_15 : decode (cod 34) 15 = .ok (.aload_n 0, 1) := by decide +kernel
theorem d34_16 : decode (cod 34) 16 = .ok (.dup, 1) := by decide +kernel
theorem d34_17 : decode (cod 34) 17 = .ok (.getfield 25, 3) := by decide +kernel
theorem d34_20 : decode (cod 34) 20 = .ok (.aload_n 1, 1) := by decide +kernel
theorem d34_21 : decode (cod 34) 21 = .ok (.iload_n 2, 1) := by decide +kernel
theorem d34_22 : decode (cod 34) 22 = .ok (.invokevirtual 78, 3) := by decide +kernel
theorem d34_25 : decode (cod 34) 25 = .ok (.iadd, 1) := by decide +kernel
theorem d34_26 : decode (cod 34) 26 = .ok (.putfield 25, 3) := by decide +kernel
theorem d34_29 : decode (cod 34) 29 = .ok (.aload_n 0, 1) := by decide +kernel
theorem d34_30 : decode (cod 34) 30 = .ok (.dup, 1) := by decide +kernel
theorem d34_31 : decode (cod 34) 31 = .ok (.getfield 28, 3) := by decide +kernel
theorem d34_34 : decode (cod 34) 34 = .ok (.iconst 1, 1) := by decide +kernel
theorem d34_35 : decode (cod 34) 35 = .ok (.iadd, 1) := by decide +kernel
theorem d34_36 : decode (cod 34) 36 = .ok (.putfield 28, 3) := by decide +kernel
theorem d34_39 : decode (cod 34) 39 = .ok (.return_, 1) := by decide +kernel
theorem d35_0 : decode (cod 35) 0 = .ok (.aload_n 0, 1) := by decide +kernel
theorem d35_1 : decode (cod 35) 1 = .ok (.getfield 18, 3) := by decide +kernel
theorem d35_4 : decode (cod 35) 4 = .ok (.istore_n 2, 1) := by decide +kernel
theorem d35_5 : decode (cod 35) 5 = .ok (.aload_n 0, 1) := by decide +kernel
theorem d35_6 : decode (cod 35) 6 = .ok (.iconst 0, 1) := by decide +kernel
theorem d35_7 : decode (cod 35) 7 = .ok (.putfield 18, 3) := by decide +kernel
theorem d35_10 : decode (cod 35) 10 = .ok (.iload_n 2, 1) := by decide +kernel
theorem d35_11 : decode (cod 35) 11 = .ok (.ifCond .ne 7, 3) := by decide +kernel
theorem d35_14 : decode (cod 35) 14 = .ok (.iconst 0, 1) := by decide +kernel
theorem d35_15 : decode (cod 35) 15 = .ok (.goto 13, 3) := by decide +kernel
theorem d35_18 : decode (cod 35) 18 = .ok (.aload_n 1, 1) := by decide +kernel
theorem d35_19 : decode (cod 35) 19 = .ok (.iconst 4, 1) := by decide +kernel
theorem d35_20 : decode (cod 35) 20 = .ok (.iconst (-1), 1) := by decide +kernel
theorem d35_21 : decode (cod 35) 21 = .ok (.aload_n 1, 1) := by decide +kernel
theorem d35_22 : decode (cod 35) 22 = .ok (.invokevirtual 81, 3) := by decide +kernel
theorem d35_25 : decode (cod 35) 25 = .ok (.invokevirtual 85, 3) := by decide +kernel
theorem d35_28 : decode (cod 35) 28 = .ok (.istore_n 3, 1) := by decide +kernel
theorem d35_29 : decode (cod 35) 29 = .ok (.iconst 0, 1) := by decide +kernel
theorem d35_30 : decode (cod 35) 30 = .ok (.istore 4, 2) := by decide +kernel
theorem d35_32 : decode (cod 35) 32 = .ok (.iload 4, 2) := by decide +kernel
theorem d35_34 : decode (cod 35) 34 = .ok (.iload_n 2, 1) := by decide +kernel
theorem d35_35 : decode (cod 35) 35 = .ok (.if_icmp .ge 82, 3) := by decide +kernel
theorem d35_38 : decode (cod 35) 38 = .ok (.iload 4, 2) := by decide +kernel
theorem d35_40 : decode (cod 35) 40 = .ok (.bipush 60, 2) := by decide +kernel
theorem d35_42 : decode (cod 35) 42 = .ok (.if_icmp .ge 75, 3) := by decide +kernel
theorem d35_45 : decode (cod 35) 45 = .ok (.aload_n 0, 1) := by decide +kernel
theorem d35_46 : decode (cod 35) 46 = .ok (.getfield 9, 3) := by decide +kernel
theorem d35_49 : decode (cod 35) 49 = .ok (.iload 4, 2) := by decide +kernel
theorem d35_51 : decode (cod 35) 51 = .ok (.iaload, 1) := by decide +kernel
theorem d35_52 : decode (cod 35) 52 = .ok (.istore 5, 2) := by decide +kernel
theorem d35_54 : decode (cod 35) 54 = .ok (.aload_n 1, 1) := by decide +kernel
theorem d35_55 : decode (cod 35) 55 = .ok (.getfield 35, 3) := by decide +kernel
theorem d35_58 : decode (cod 35) 58 = .ok (.iload 5, 2) := by decide +kernel
theorem d35_60 : decode (cod 35) 60 = .ok (.invokevirtual 89, 3) := by decide +kernel
theorem d35_63 : decode (cod 35) 63 = .ok (.ifCond .ne 6, 3) := by decide +kernel
theorem d35_66 : decode (cod 35) 66 = .ok (.goto 45, 3) := by decide +kernel
theorem d35_69 : decode (cod 35) 69 = .ok (.aload_n 0, 1) := by decide +kernel
theorem d35_70 : decode (cod 35) 70 = .ok (.aload_n 1, 1) := by decide +kernel
theorem d35_71 : decode (cod 35) 71 = .ok (.iload 5, 2) := by decide +kernel
theorem d35_73 : decode (cod 35) 73 = .ok (.iload_n 3, 1) := by decide +kernel
theorem d35_74 : decode (cod 35) 74 = .ok (.invokevirtual 93, 3) := by decide +kernel
theorem d35_77 : decode (cod 35) 77 = .ok (.aload_n 1, 1) := by decide +kernel
theorem d35_78 : decode (cod 35) 78 = .ok (.getfield 35, 3) := by decide +kernel
theorem d35_81 : decode (cod 35) 81 = .ok (.getfield 56, 3) := by decide +kernel
theorem d35_84 : decode (cod 35) 84 = .ok (.iload 5, 2) := by decide +kernel
theorem d35_86 : decode (cod 35) 86 = .ok (.iaload, 1) := by decide +kernel
theorem d35_87 : decode (cod 35) 87 = .ok (.ifCond .ne 24, 3) := by decide +kernel
theorem d35_90 : decode (cod 35) 90 = .ok (.aload_n 0, 1) := by decide +kernel
theorem d35_91 : decode (cod 35) 91 = .ok (.getfield 9, 3) := by decide +kernel
theorem d35_94 : decode (cod 35) 94 = .ok (.aload_n 0, 1) := by decide +kernel
theorem d35_95 : decode (cod 35) 95 = .ok (.getfield 18, 3) := by decide +kernel
theorem d35_98 : decode (cod 35) 98 = .ok (.iload 5, 2) := by decide +kernel
theorem d35_100 : decode (cod 35) 100 = .ok (.iastore, 1) := by decide +kernel
theorem d35_101 : decode (cod 35) 101 = .ok (.aload_n 0, 1) := by decide +kernel
theorem d35_102 : decode (cod 35) 102 = .ok (.dup, 1) := by decide +kernel
theorem d35_103 : decode (cod 35) 103 = .ok (.getfield 18, 3) := by decide +kernel
theorem d35_106 : decode (cod 35) 106 = .ok (.iconst 1, 1) := by decide +kernel
theorem d35_107 : decode (cod 35) 107 = .ok (.iadd, 1) := by decide +kernel
theorem d35_108 : decode (cod 35) 108 = .ok (.putfield 18, 3) := by decide +kernel
theorem d35_111 : decode (cod 35) 111 = .ok (.iinc 4 1, 3) := by decide +kernel
theorem d35_114 : decode (cod 35) 114 = .ok (.goto (-82), 3) := by decide +kernel
theorem d35_117 : decode (cod 35) 117 = .ok (.return_, 1) := by decide +kernel
theorem d36_0 : decode (cod 36) 0 = .ok (.aload_n 1, 1) := by decide +kernel
theorem d36_1 : decode (cod 36) 1 = .ok (.getfield 35, 3) := by decide +kernel
theorem d36_4 : decode (cod 36) 4 = .ok (.astore 4, 2) := by decide +kernel
theorem d36_6 : decode (cod 36) 6 = .ok (.aload 4, 2) := by decide +kernel
theorem d36_8 : decode (cod 36) 8 = .ok (.iload_n 2, 1) := by decide +kernel
theorem d36_9 : decode (cod 36) 9 = .ok (.invokevirtual 78, 3) := by decide +kernel
theorem d36_12 : decode (cod 36) 12 = .ok (.ifCond .eq 11, 3) := by decide +kernel
theorem d36_15 : decode (cod 36) 15 = .ok (.aload_n 0, 1) := by decide +kernel
theorem d36_16 : decode (cod 36) 16 = .ok (.getfield 25, 3) := by decide +kernel
theorem d36_19 : decode (cod 36) 19 = .ok (.iload_n 3, 1) := by decide +kernel
theorem d36_20 : decode (cod 36) 20 = .ok (.if_icmp .ge 7, 3) := by decide +kernel
theorem d36_23 : decode (cod 36) 23 = .ok (.iconst 1, 1) := by decide +kernel
theorem d36_24 : decode (cod 36) 24 = .ok (.goto 4, 3) := by decide +kernel
theorem d36_27 : decode (cod 36) 27 = .ok (.iconst 0, 1) := by decide +kernel
theorem d36_28 : decode (cod 36) 28 = .ok (.istore 5, 2) := by decide +kernel
theorem d36_30 : decode (cod 36) 30 = .ok (.aload 4, 2) := by decide +kernel
theorem d36_32 : decode (cod 36) 32 = .ok (.getfield 97, 3) := by decide +kernel
theorem d36_35 : decode (cod 36) 35 = .ok (.iload_n 2, 1) := by decide +kernel
theorem d36_36 : decode (cod 36) 36 = .ok (.laload, 1) := by decide +kernel
theorem d36_37 : decode (cod 36) 37 = .ok (.aload_n 1, 1) := by decide +kernel
theorem d36_38 : decode (cod 36) 38 = .ok (.getfield 101, 3) := by decide +kernel
theorem d36_41 : decode (cod 36) 41 = .ok (.getfield 105, 3) := by decide +kernel
theorem d36_44 : decode (cod 36) 44 = .ok (.land, 1) := by decide +kernel
theorem d36_45 : decode (cod 36) 45 = .ok (.lconst 0, 1) := by decide +kernel
theorem d36_46 : decode (cod 36) 46 = .ok (.lcmp, 1) := by decide +kernel
theorem d36_47 : decode (cod 36) 47 = .ok (.ifCond .eq 14, 3) := by decide +kernel
theorem d36_50 : decode (cod 36) 50 = .ok (.aload 4, 2) := by decide +kernel
theorem d36_52 : decode (cod 36) 52 = .ok (.getfield 56, 3) := by decide +kernel
theorem d36_55 : decode (cod 36) 55 = .ok (.iload_n 2, 1) := by decide +kernel
theorem d36_56 : decode (cod 36) 56 = .ok (.iconst 3, 1) := by decide +kernel
theorem d36_57 : decode (cod 36) 57 = .ok (.iastore, 1) := by decide +kernel
theorem d36_58 : decode (cod 36) 58 = .ok (.goto 77, 3) := by decide +kernel
theorem d36_61 : decode (cod 36) 61 = .ok (.iload 5, 2) := by decide +kernel
theorem d36_63 : decode (cod 36) 63 = .ok (.ifCond .eq 47, 3) := by decide +kernel
theorem d36_66 : decode (cod 36) 66 = .ok (.aload 4, 2) := by decide +kernel
theorem d36_68 : decode (cod 36) 68 = .ok (.getfield 75, 3) := by decide +kernel
theorem d36_71 : decode (cod 36) 71 = .ok (.iload_n 2, 1) := by decide +kernel
theorem d36_72 : decode (cod 36) 72 = .ok (.iaload, 1) := by decide +kernel
theorem d36_73 : decode (cod 36) 73 = .ok (.aload_n 0, 1) := by decide +kernel
theorem d36_74 : decode (cod 36) 74 = .ok (.getfield 22, 3) := by decide +kernel
theorem d36_77 : decode (cod 36) 77 = .ok (.iand, 1) := by decide +kernel
theorem d36_78 : decode (cod 36) 78 = .ok (.ifCond .ne 32, 3) := by decide +kernel
theorem d36_81 : decode (cod 36) 81 = .ok (.aload 4, 2) := by decide +kernel
theorem d36_83 : decode (cod 36) 83 = .ok (.getfield 56, 3) := by decide +kernel
theorem d36_86 : decode (cod 36) 86 = .ok (.iload_n 2, 1) := by decide +kernel
theorem d36_87 : decode (cod 36) 87 = .ok (.iconst 1, 1) := by decide +kernel
theorem d36_88 : decode (cod 36) 88 = .ok (.iastore, 1) := by decide +kernel
theorem d36_89 : decode (cod 36) 89 = .ok (.aload 4, 2) := by decide +kernel
theorem d36_91 : decode (cod 36) 91 = .ok (.getfield 66, 3) := by decide +kernel
theorem d36_94 : decode (cod 36) 94 = .ok (.iload_n 2, 1) := by decide +kernel
theorem d36_95 : decode (cod 36) 95 = .ok (.aload_n 1, 1) := by decide +kernel
theorem d36_96 : decode (cod 36) 96 = .ok (.getfield 41, 3) := by decide +kernel
theorem d36_99 : decode (cod 36) 99 = .ok (.iastore, 1) := by decide +kernel
theorem d36_100 : decode (cod 36) 100 = .ok (.aload_n 0, 1) := by decide +kernel
theorem d36_101 : decode (cod 36) 101 = .ok (.aload 4, 2) := by decide +kernel
theorem d36_103 : decode (cod 36) 103 = .ok (.iload_n 2, 1) := by decide +kernel
theorem d36_104 : decode (cod 36) 104 = .ok (.invokevirtual 72, 3) := by decide +kernel
theorem d36_107 : decode (cod 36) 107 = .ok (.goto 28, 3) := by decide +kernel
theorem d36_110 : decode (cod 36) 110 = .ok (.aload_n 1, 1) := by decide +kernel
theorem d36_111 : decode (cod 36) 111 = .ok (.getfield 41, 3) := by decide +kernel
theorem d36_114 : decode (cod 36) 114 = .ok (.aload 4, 2) := by decide +kernel
theorem d36_116 : decode (cod 36) 116 = .ok (.getfield 59, 3) := by decide +kernel
theorem d36_119 : decode (cod 36) 119 = .ok (.iload_n 2, 1) := by decide +kernel
theorem d36_120 : decode (cod 36) 120 = .ok (.iaload, 1) := by decide +kernel
theorem d36_121 : decode (cod 36) 121 = .ok (.isub, 1) := by decide +kernel
theorem d36_122 : decode (cod 36) 122 = .ok (.bipush 30, 2) := by decide +kernel
theorem d36_124 : decode (cod 36) 124 = .ok (.if_icmp .lt 11, 3) := by decide +kernel
theorem d36_127 : decode (cod 36) 127 = .ok (.aload 4, 2) := by decide +kernel
theorem d36_129 : decode (cod 36) 129 = .ok (.getfield 56, 3) := by decide +kernel
theorem d36_132 : decode (cod 36) 132 = .ok (.iload_n 2, 1) := by decide +kernel
theorem d36_133 : decode (cod 36) 133 = .ok (.iconst 3, 1) := by decide +kernel
theorem d36_134 : decode (cod 36) 134 = .ok (.iastore, 1) := by decide +kernel
theorem d36_135 : decode (cod 36) 135 = .ok (.return_, 1) := by decide +kernel
theorem d37_0 : decode (cod 37) 0 = .ok (.aload_n 0, 1) := by decide +kernel
theorem d37_1 : decode (cod 37) 1 = .ok (.invokespecial 3, 3) := by decide +kernel
theorem d37_4 : decode (cod 37) 4 = .ok (.aload_n 0, 1) := by decide +kernel
theorem d37_5 : decode (cod 37) 5 = .ok (.iconst 0, 1) := by decide +kernel
theorem d37_6 : decode (cod 37) 6 = .ok (.putfield 9, 3) := by decide +kernel
theorem d37_9 : decode (cod 37) 9 = .ok (.aload_n 0, 1) := by decide +kernel
theorem d37_10 : decode (cod 37) 10 = .ok (.bipush 12, 2) := by decide +kernel
theorem d37_12 : decode (cod 37) 12 = .ok (.newarray .int, 2) := by decide +kernel
theorem d37_14 : decode (cod 37) 14 = .ok (.putfield 15, 3) := by decide +kernel
theorem d37_17 : decode (cod 37) 17 = .ok (.aload_n 0, 1) := by decide +kernel
theorem d37_18 : decode (cod 37) 18 = .ok (.bipush 12, 2) := by decide +kernel
theorem d37_20 : decode (cod 37) 20 = .ok (.newarray .int, 2) := by decide +kernel
theorem d37_22 : decode (cod 37) 22 = .ok (.putfield 19, 3) := by decide +kernel
theorem d37_25 : decode (cod 37) 25 = .ok (.aload_n 0, 1) := by decide +kernel
theorem d37_26 : decode (cod 37) 26 = .ok (.bipush 12, 2) := by decide +kernel
theorem d37_28 : decode (cod 37) 28 = .ok (.newarray .int, 2) := by decide +kernel
theorem d37_30 : decode (cod 37) 30 = .ok (.putfield 22, 3) := by decide +kernel
theorem d37_33 : decode (cod 37) 33 = .ok (.aload_n 0, 1) := by decide +kernel
theorem d37_34 : decode (cod 37) 34 = .ok (.bipush 12, 2) := by decide +kernel
theorem d37_36 : decode (cod 37) 36 = .ok (.newarray .int, 2) := by decide +kernel
theorem d37_38 : decode (cod 37) 38 = .ok (.putfield 25, 3) := by decide +kernel
theorem d37_41 : decode (cod 37) 41 = .ok (.aload_n 0, 1) := by decide +kernel
theorem d37_42 : decode (cod 37) 42 = .ok (.bipush 12, 2) := by decide +kernel
theorem d37_44 : decode (cod 37) 44 = .ok (.newarray .int, 2) := by decide +kernel
theorem d37_46 : decode (cod 37) 46 = .ok (.putfield 28, 3) := by decide +kernel
theorem d37_49 : decode (cod 37) 49 = .ok (.aload_n 0, 1) := by decide +kernel
theorem d37_50 : decode (cod 37) 50 = .ok (.bipush 12, 2) := by decide +kernel
theorem d37_52 : decode (cod 37) 52 = .ok (.newarray .int, 2) := by decide +kernel
theorem d37_54 : decode (cod 37) 54 = .ok (.putfield 31, 3) := by decide +kernel
theorem d37_57 : decode (cod 37) 57 = .ok (.return_, 1) := by decide +kernel
theorem d38_0 : decode (cod 38) 0 = .ok (.aload_n 0, 1) := by decide +kernel
theorem d38_1 : decode (cod 38) 1 = .ok (.aload_n 1, 1) := by decide +kernel
theorem d38_2 : decode (cod 38) 2 = .ok (.getfield 9, 3) := by decide +kernel
theorem d38_5 : decode (cod 38) 5 = .ok (.putfield 9, 3) := by decide +kernel
theorem d38_8 : decode (cod 38) 8 = .ok (.aload_n 1, 1) := by decide +kernel
theorem d38_9 : decode (cod 38) 9 = .ok (.getfield 15, 3) := by decide +kernel
theorem d38_12 : decode (cod 38) 12 = .ok (.iconst 0, 1) := by decide +kernel
theorem d38_13 : decode (cod 38) 13 = .ok (.aload_n 0, 1) := by decide +kernel
theorem d38_14 : decode (cod 38) 14 = .ok (.getfield 15, 3) := by decide +kernel
theorem d38_17 : decode (cod 38) 17 = .ok (.iconst 0, 1) := by decide +kernel
theorem d38_18 : decode (cod 38) 18 = .ok (.bipush 12, 2) := by decide +kernel
theorem d38_20 : decode (cod 38) 20 = .ok (.invokestatic 34, 3) := by decide +kernel
theorem d38_23 : decode (cod 38) 23 = .ok (.aload_n 1, 1) := by decide +kernel
theorem d38_24 : decode (cod 38) 24 = .ok (.getfield 19, 3) := by decide +kernel
theorem d38_27 : decode (cod 38) 27 = .ok (.iconst 0, 1) := by decide +kernel
theorem d38_28 : decode (cod 38) 28 = .ok (.aload_n 0, 1) := by decide +kernel
theorem d38_29 : decode (cod 38) 29 = .ok (.getfield 19, 3) := by decide +kernel
theorem d38_32 : decode (cod 38) 32 = .ok (.iconst 0, 1) := by decide +kernel
theorem d38_33 : decode (cod 38) 33 = .ok (.bipush 12, 2) := by decide +kernel
theorem d38_35 : decode (cod 38) 35 = .ok (.invokestatic 34, 3) := by decide +kernel
theorem d38_38 : decode (cod 38) 38 = .ok (.aload_n 1, 1) := by decide +kernel
theorem d38_39 : decode (cod 38) 39 = .ok (.getfield 22, 3) := by decide +kernel
theorem d38_42 : decode (cod 38) 42 = .ok (.iconst 0, 1) := by decide +kernel
theorem d38_43 : decode (cod 38) 43 = .ok (.aload_n 0, 1) := by decide +kernel
theorem d38_44 : decode (cod 38) 44 = .ok (.getfield 22, 3) := by decide +kernel
theorem d38_47 : decode (cod 38) 47 = .ok (.iconst 0, 1) := by decide +kernel
theorem d38_48 : decode (cod 38) 48 = .ok (.bipush 12, 2) := by decide +kernel
theorem d38_50 : decode (cod 38) 50 = .ok (.invokestatic 34, 3) := by decide +kernel
theorem d38_53 : decode (cod 38) 53 = .ok (.aload_n 1, 1) := by decide +kernel
theorem d38_54 : decode (cod 38) 54 = .ok (.getfield 25, 3) := by decide +kernel
theorem d38_57 : decode (cod 38) 57 = .ok (.iconst 0, 1) := by decide +kernel
theorem d38_58 : decode (cod 38) 58 = .ok (.aload_n 0, 1) := by decide +kernel
theorem d38_59 : decode (cod 38) 59 = .ok (.getfield 25, 3) := by decide +kernel
theorem d38_62 : decode (cod 38) 62 = .ok (.iconst 0, 1) := by decide +kernel
theorem d38_63 : decode (cod 38) 63 = .ok (.bipush 12, 2) := by decide +kernel
theorem d38_65 : decode (cod 38) 65 = .ok (.invokestatic 34, 3) := by decide +kernel
theorem d38_68 : decode (cod 38) 68 = .ok (.aload_n 1, 1) := by decide +kernel
theorem d38_69 : decode (cod 38) 69 = .ok (.getfield 28, 3) := by decide +kernel
theorem d38_72 : decode (cod 38) 72 = .ok (.iconst 0, 1) := by decide +kernel
theorem d38_73 : decode (cod 38) 73 = .ok (.aload_n 0, 1) := by decide +kernel
theorem d38_74 : decode (cod 38) 74 = .ok (.getfield 28, 3) := by decide +kernel
theorem d38_77 : decode (cod 38) 77 = .ok (.iconst 0, 1) := by decide +kernel
theorem d38_78 : decode (cod 38) 78 = .ok (.bipush 12, 2) := by decide +kernel
theorem d38_80 : decode (cod 38) 80 = .ok (.invokestatic 34, 3) := by decide +kernel
theorem d38_83 : decode (cod 38) 83 = .ok (.aload_n 1, 1) := by decide +kernel
theorem d38_84 : decode (cod 38) 84 = .ok (.getfield 31, 3) := by decide +kernel
theorem d38_87 : decode (cod 38) 87 = .ok (.iconst 0, 1) := by decide +kernel
theorem d38_88 : decode (cod 38) 88 = .ok (.aload_n 0, 1) := by decide +kernel
theorem d38_89 : decode (cod 38) 89 = .ok (.getfield 31, 3) := by decide +kernel
theorem d38_92 : decode (cod 38) 92 = .ok (.iconst 0, 1) := by decide +kernel
theorem d38_93 : decode (cod 38) 93 = .ok (.bipush 12, 2) := by decide +kernel
theorem d38_95 : decode (cod 38) 95 = .ok (.invokestatic 34, 3) := by decide +kernel
theorem d38_98 : decode (cod 38) 98 = .ok (.return_, 1) := by decide +kernel
theorem d39_0 : decode (cod 39) 0 = .ok (.iload_n 1, 1) := by decide +kernel
theorem d39_1 : decode (cod 39) 1 = .ok (.ifCond .lt 15, 3) := by decide +kernel
theorem d39_4 : decode (cod 39) 4 = .ok (.iload_n 1, 1) := by decide +kernel
theorem d39_5 : decode (cod 39) 5 = .ok (.aload_n 0, 1) := by decide +kernel
theorem d39_6 : decode (cod 39) 6 = .ok (.getfield 9, 3) := by decide +kernel
theorem d39_9 : decode (cod 39) 9 = .ok (.if_icmp .ge 7, 3) := by decide +kernel
theorem d39_12 : decode (cod 39) 12 = .ok (.iconst 1, 1) := by decide +kernel
theorem d39_13 : decode (cod 39) 13 = .ok (.goto 4, 3) := by decide +kernel
theorem d39_16 : decode (cod 39) 16 = .ok (.iconst 0, 1) := by decide +kernel
theorem d39_17 : decode (cod 39) 17 = .ok (.ireturn, 1) := by decide +kernel
theorem d40_0 : decode (cod 40) 0 = .ok (.iload_n 1, 1) := by decide +kernel
theorem d40_1 : decode (cod 40) 1 = .ok (.bipush 12, 2) := by decide +kernel
theorem d40_3 : decode (cod 40) 3 = .ok (.if_icmp .eq 11, 3) := by decide +kernel
theorem d40_6 : decode (cod 40) 6 = .ok (.aload_n 0, 1) := by decide +kernel
theorem d40_7 : decode (cod 40) 7 = .ok (.iload_n 1, 1) := by decide +kernel
theorem d40_8 : decode (cod 40) 8 = .ok (.invokevirtual 40, 3) := by decide +kernel
theorem d40_11 : decode (cod 40) 11 = .ok (.ifCond .eq 7, 3) := by decide +kernel
theorem d40_14 : decode (cod 40) 14 = .ok (.iconst 1, 1) := by decide +kernel
theorem d40_15 : decode (cod 40) 15 = .ok (.goto 4, 3) := by decide +kernel
theorem d40_18 : decode (cod 40) 18 = .ok (.iconst 0, 1) := by decide +kernel
theorem d40_19 : decode (cod 40) 19 = .ok (.ireturn, 1) := by decide +kernel
