/-! THE LAW's own rows (printed by gen_law.py) -/
theorem dW_0 : decode code 0 = .ok (.new 7, 3) := by decide +kernel
theorem dW_3 : decode code 3 = .ok (.dup, 1) := by decide +kernel
theorem dW_4 : decode code 4 = .ok (.invokespecial 9, 3) := by decide +kernel
theorem dW_7 : decode code 7 = .ok (.astore_n 1, 1) := by decide +kernel
theorem dW_8 : decode code 8 = .ok (.new 10, 3) := by decide +kernel
theorem dW_11 : decode code 11 = .ok (.dup, 1) := by decide +kernel
theorem dW_12 : decode code 12 = .ok (.invokespecial 12, 3) := by decide +kernel
theorem dW_15 : decode code 15 = .ok (.astore_n 2, 1) := by decide +kernel
theorem dW_16 : decode code 16 = .ok (.iconst 0, 1) := by decide +kernel
theorem dW_17 : decode code 17 = .ok (.istore_n 3, 1) := by decide +kernel
theorem dW_18 : decode code 18 = .ok (.iload_n 3, 1) := by decide +kernel
theorem dW_19 : decode code 19 = .ok (.aload_n 0, 1) := by decide +kernel
theorem dW_20 : decode code 20 = .ok (.arraylength, 1) := by decide +kernel
theorem dW_21 : decode code 21 = .ok (.iconst 3, 1) := by decide +kernel
theorem dW_22 : decode code 22 = .ok (.isub, 1) := by decide +kernel
theorem dW_23 : decode code 23 = .ok (.if_icmp .gt 524, 3) := by decide +kernel
theorem dW_26 : decode code 26 = .ok (.aload_n 0, 1) := by decide +kernel
theorem dW_27 : decode code 27 = .ok (.iload_n 3, 1) := by decide +kernel
theorem dW_28 : decode code 28 = .ok (.iaload, 1) := by decide +kernel
theorem dW_29 : decode code 29 = .ok (.bipush 31, 2) := by decide +kernel
theorem dW_31 : decode code 31 = .ok (.iand, 1) := by decide +kernel
theorem dW_32 : decode code 32 = .ok (.tableswitch 509 0 18 #[92, 125, 138, 171, 204, 227, 250, 263, 276, 289, 322, 355, 378, 391, 424, 447, 460, 483, 496], 92) := by decide +kernel
theorem dW_124 : decode code 124 = .ok (.aload_n 1, 1) := by decide +kernel
theorem dW_125 : decode code 125 = .ok (.aload_n 0, 1) := by decide +kernel
theorem dW_126 : decode code 126 = .ok (.iload_n 3, 1) := by decide +kernel
theorem dW_127 : decode code 127 = .ok (.iconst 1, 1) := by decide +kernel
theorem dW_128 : decode code 128 = .ok (.iadd, 1) := by decide +kernel
theorem dW_129 : decode code 129 = .ok (.iaload, 1) := by decide +kernel
theorem dW_130 : decode code 130 = .ok (.aload_n 0, 1) := by decide +kernel
theorem dW_131 : decode code 131 = .ok (.iload_n 3, 1) := by decide +kernel
theorem dW_132 : decode code 132 = .ok (.iconst 2, 1) := by decide +kernel
theorem dW_133 : decode code 133 = .ok (.iadd, 1) := by decide +kernel
theorem dW_134 : decode code 134 = .ok (.iaload, 1) := by decide +kernel
theorem dW_135 : decode code 135 = .ok (.invokevirtual 13, 3) := by decide +kernel
theorem dW_138 : decode code 138 = .ok (.aload_n 2, 1) := by decide +kernel
theorem dW_139 : decode code 139 = .ok (.aload_n 0, 1) := by decide +kernel
theorem dW_140 : decode code 140 = .ok (.iload_n 3, 1) := by decide +kernel
theorem dW_141 : decode code 141 = .ok (.iconst 1, 1) := by decide +kernel
theorem dW_142 : decode code 142 = .ok (.iadd, 1) := by decide +kernel
theorem dW_143 : decode code 143 = .ok (.iaload, 1) := by decide +kernel
theorem dW_144 : decode code 144 = .ok (.aload_n 0, 1) := by decide +kernel
theorem dW_145 : decode code 145 = .ok (.iload_n 3, 1) := by decide +kernel
theorem dW_146 : decode code 146 = .ok (.iconst 2, 1) := by decide +kernel
theorem dW_147 : decode code 147 = .ok (.iadd, 1) := by decide +kernel
theorem dW_148 : decode code 148 = .ok (.iaload, 1) := by decide +kernel
theorem dW_149 : decode code 149 = .ok (.invokevirtual 17, 3) := by decide +kernel
theorem dW_152 : decode code 152 = .ok (.if_icmp .eq 389, 3) := by decide +kernel
theorem dW_155 : decode code 155 = .ok (.iconst 0, 1) := by decide +kernel
theorem dW_156 : decode code 156 = .ok (.ireturn, 1) := by decide +kernel
theorem dW_157 : decode code 157 = .ok (.aload_n 1, 1) := by decide +kernel
theorem dW_158 : decode code 158 = .ok (.invokevirtual 18, 3) := by decide +kernel
theorem dW_161 : decode code 161 = .ok (.aload_n 2, 1) := by decide +kernel
theorem dW_162 : decode code 162 = .ok (.invokevirtual 22, 3) := by decide +kernel
theorem dW_165 : decode code 165 = .ok (.if_icmp .eq 376, 3) := by decide +kernel
theorem dW_168 : decode code 168 = .ok (.iconst 0, 1) := by decide +kernel
theorem dW_169 : decode code 169 = .ok (.ireturn, 1) := by decide +kernel
theorem dW_170 : decode code 170 = .ok (.aload_n 1, 1) := by decide +kernel
theorem dW_171 : decode code 171 = .ok (.aload_n 0, 1) := by decide +kernel
theorem dW_172 : decode code 172 = .ok (.iload_n 3, 1) := by decide +kernel
theorem dW_173 : decode code 173 = .ok (.iconst 1, 1) := by decide +kernel
theorem dW_174 : decode code 174 = .ok (.iadd, 1) := by decide +kernel
theorem dW_175 : decode code 175 = .ok (.iaload, 1) := by decide +kernel
theorem dW_176 : decode code 176 = .ok (.aload_n 0, 1) := by decide +kernel
theorem dW_177 : decode code 177 = .ok (.iload_n 3, 1) := by decide +kernel
theorem dW_178 : decode code 178 = .ok (.iconst 2, 1) := by decide +kernel
theorem dW_179 : decode code 179 = .ok (.iadd, 1) := by decide +kernel
theorem dW_180 : decode code 180 = .ok (.iaload, 1) := by decide +kernel
theorem dW_181 : decode code 181 = .ok (.invokevirtual 23, 3) := by decide +kernel
theorem dW_184 : decode code 184 = .ok (.aload_n 2, 1) := by decide +kernel
theorem dW_185 : decode code 185 = .ok (.aload_n 0, 1) := by decide +kernel
theorem dW_186 : decode code 186 = .ok (.iload_n 3, 1) := by decide +kernel
theorem dW_187 : decode code 187 = .ok (.iconst 1, 1) := by decide +kernel
theorem dW_188 : decode code 188 = .ok (.iadd, 1) := by decide +kernel
theorem dW_189 : decode code 189 = .ok (.iaload, 1) := by decide +kernel
theorem dW_190 : decode code 190 = .ok (.aload_n 0, 1) := by decide +kernel
theorem dW_191 : decode code 191 = .ok (.iload_n 3, 1) := by decide +kernel
theorem dW_192 : decode code 192 = .ok (.iconst 2, 1) := by decide +kernel
theorem dW_193 : decode code 193 = .ok (.iadd, 1) := by decide +kernel
theorem dW_194 : decode code 194 = .ok (.iaload, 1) := by decide +kernel
theorem dW_195 : decode code 195 = .ok (.invokevirtual 26, 3) := by decide +kernel
theorem dW_198 : decode code 198 = .ok (.if_icmp .eq 343, 3) := by decide +kernel
theorem dW_201 : decode code 201 = .ok (.iconst 0, 1) := by decide +kernel
theorem dW_202 : decode code 202 = .ok (.ireturn, 1) := by decide +kernel
theorem dW_203 : decode code 203 = .ok (.aload_n 1, 1) := by decide +kernel
theorem dW_204 : decode code 204 = .ok (.aload_n 0, 1) := by decide +kernel
theorem dW_205 : decode code 205 = .ok (.iload_n 3, 1) := by decide +kernel
theorem dW_206 : decode code 206 = .ok (.iconst 1, 1) := by decide +kernel
theorem dW_207 : decode code 207 = .ok (.iadd, 1) := by decide +kernel
theorem dW_208 : decode code 208 = .ok (.iaload, 1) := by decide +kernel
theorem dW_209 : decode code 209 = .ok (.aload_n 0, 1) := by decide +kernel
theorem dW_210 : decode code 210 = .ok (.iload_n 3, 1) := by decide +kernel
theorem dW_211 : decode code 211 = .ok (.iconst 2, 1) := by decide +kernel
theorem dW_212 : decode code 212 = .ok (.iadd, 1) := by decide +kernel
theorem dW_213 : decode code 213 = .ok (.iaload, 1) := by decide +kernel
theorem dW_214 : decode code 214 = .ok (.invokevirtual 27, 3) := by decide +kernel
theorem dW_217 : decode code 217 = .ok (.aload_n 2, 1) := by decide +kernel
theorem dW_218 : decode code 218 = .ok (.aload_n 0, 1) := by decide +kernel
theorem dW_219 : decode code 219 = .ok (.iload_n 3, 1) := by decide +kernel
theorem dW_220 : decode code 220 = .ok (.iconst 1, 1) := by decide +kernel
theorem dW_221 : decode code 221 = .ok (.iadd, 1) := by decide +kernel
theorem dW_222 : decode code 222 = .ok (.iaload, 1) := by decide +kernel
theorem dW_223 : decode code 223 = .ok (.aload_n 0, 1) := by decide +kernel
theorem dW_224 : decode code 224 = .ok (.iload_n 3, 1) := by decide +kernel
theorem dW_225 : decode code 225 = .ok (.iconst 2, 1) := by decide +kernel
theorem dW_226 : decode code 226 = .ok (.iadd, 1) := by decide +kernel
theorem dW_227 : decode code 227 = .ok (.iaload, 1) := by decide +kernel
theorem dW_228 : decode code 228 = .ok (.invokevirtual 30, 3) := by decide +kernel
theorem dW_231 : decode code 231 = .ok (.if_icmp .eq 310, 3) := by decide +kernel
theorem dW_234 : decode code 234 = .ok (.iconst 0, 1) := by decide +kernel
theorem dW_235 : decode code 235 = .ok (.ireturn, 1) := by decide +kernel
theorem dW_236 : decode code 236 = .ok (.aload_n 1, 1) := by decide +kernel
theorem dW_237 : decode code 237 = .ok (.aload_n 0, 1) := by decide +kernel
theorem dW_238 : decode code 238 = .ok (.iload_n 3, 1) := by decide +kernel
theorem dW_239 : decode code 239 = .ok (.iconst 1, 1) := by decide +kernel
theorem dW_240 : decode code 240 = .ok (.iadd, 1) := by decide +kernel
theorem dW_241 : decode code 241 = .ok (.iaload, 1) := by decide +kernel
theorem dW_242 : decode code 242 = .ok (.invokevirtual 31, 3) := by decide +kernel
theorem dW_245 : decode code 245 = .ok (.aload_n 2, 1) := by decide +kernel
theorem dW_246 : decode code 246 = .ok (.aload_n 0, 1) := by decide +kernel
theorem dW_247 : decode code 247 = .ok (.iload_n 3, 1) := by decide +kernel
theorem dW_248 : decode code 248 = .ok (.iconst 1, 1) := by decide +kernel
theorem dW_249 : decode code 249 = .ok (.iadd, 1) := by decide +kernel
theorem dW_250 : decode code 250 = .ok (.iaload, 1) := by decide +kernel
theorem dW_251 : decode code 251 = .ok (.invokevirtual 35, 3) := by decide +kernel
theorem dW_254 : decode code 254 = .ok (.if_icmp .eq 287, 3) := by decide +kernel
theorem dW_257 : decode code 257 = .ok (.iconst 0, 1) := by decide +kernel
theorem dW_258 : decode code 258 = .ok (.ireturn, 1) := by decide +kernel
theorem dW_259 : decode code 259 = .ok (.aload_n 1, 1) := by decide +kernel
theorem dW_260 : decode code 260 = .ok (.aload_n 0, 1) := by decide +kernel
theorem dW_261 : decode code 261 = .ok (.iload_n 3, 1) := by decide +kernel
theorem dW_262 : decode code 262 = .ok (.iconst 1, 1) := by decide +kernel
theorem dW_263 : decode code 263 = .ok (.iadd, 1) := by decide +kernel
theorem dW_264 : decode code 264 = .ok (.iaload, 1) := by decide +kernel
theorem dW_265 : decode code 265 = .ok (.invokevirtual 36, 3) := by decide +kernel
theorem dW_268 : decode code 268 = .ok (.aload_n 2, 1) := by decide +kernel
theorem dW_269 : decode code 269 = .ok (.aload_n 0, 1) := by decide +kernel
theorem dW_270 : decode code 270 = .ok (.iload_n 3, 1) := by decide +kernel
theorem dW_271 : decode code 271 = .ok (.iconst 1, 1) := by decide +kernel
theorem dW_272 : decode code 272 = .ok (.iadd, 1) := by decide +kernel
theorem dW_273 : decode code 273 = .ok (.iaload, 1) := by decide +kernel
theorem dW_274 : decode code 274 = .ok (.invokevirtual 39, 3) := by decide +kernel
theorem dW_277 : decode code 277 = .ok (.if_icmp .eq 264, 3) := by decide +kernel
theorem dW_280 : decode code 280 = .ok (.iconst 0, 1) := by decide +kernel
theorem dW_281 : decode code 281 = .ok (.ireturn, 1) := by decide +kernel
theorem dW_282 : decode code 282 = .ok (.aload_n 1, 1) := by decide +kernel
theorem dW_283 : decode code 283 = .ok (.invokevirtual 40, 3) := by decide +kernel
theorem dW_286 : decode code 286 = .ok (.aload_n 2, 1) := by decide +kernel
theorem dW_287 : decode code 287 = .ok (.invokevirtual 43, 3) := by decide +kernel
theorem dW_290 : decode code 290 = .ok (.if_icmp .eq 251, 3) := by decide +kernel
theorem dW_293 : decode code 293 = .ok (.iconst 0, 1) := by decide +kernel
theorem dW_294 : decode code 294 = .ok (.ireturn, 1) := by decide +kernel
theorem dW_295 : decode code 295 = .ok (.aload_n 1, 1) := by decide +kernel
theorem dW_296 : decode code 296 = .ok (.invokevirtual 44, 3) := by decide +kernel
theorem dW_299 : decode code 299 = .ok (.aload_n 2, 1) := by decide +kernel
theorem dW_300 : decode code 300 = .ok (.invokevirtual 47, 3) := by decide +kernel
theorem dW_303 : decode code 303 = .ok (.if_icmp .eq 238, 3) := by decide +kernel
theorem dW_306 : decode code 306 = .ok (.iconst 0, 1) := by decide +kernel
theorem dW_307 : decode code 307 = .ok (.ireturn, 1) := by decide +kernel
theorem dW_308 : decode code 308 = .ok (.aload_n 1, 1) := by decide +kernel
theorem dW_309 : decode code 309 = .ok (.invokevirtual 48, 3) := by decide +kernel
theorem dW_312 : decode code 312 = .ok (.aload_n 2, 1) := by decide +kernel
theorem dW_313 : decode code 313 = .ok (.invokevirtual 51, 3) := by decide +kernel
theorem dW_316 : decode code 316 = .ok (.if_icmp .eq 225, 3) := by decide +kernel
theorem dW_319 : decode code 319 = .ok (.iconst 0, 1) := by decide +kernel
theorem dW_320 : decode code 320 = .ok (.ireturn, 1) := by decide +kernel
theorem dW_321 : decode code 321 = .ok (.aload_n 1, 1) := by decide +kernel
theorem dW_322 : decode code 322 = .ok (.aload_n 0, 1) := by decide +kernel
theorem dW_323 : decode code 323 = .ok (.iload_n 3, 1) := by decide +kernel
theorem dW_324 : decode code 324 = .ok (.iconst 1, 1) := by decide +kernel
theorem dW_325 : decode code 325 = .ok (.iadd, 1) := by decide +kernel
theorem dW_326 : decode code 326 = .ok (.iaload, 1) := by decide +kernel
theorem dW_327 : decode code 327 = .ok (.aload_n 0, 1) := by decide +kernel
theorem dW_328 : decode code 328 = .ok (.iload_n 3, 1) := by decide +kernel
theorem dW_329 : decode code 329 = .ok (.iconst 2, 1) := by decide +kernel
theorem dW_330 : decode code 330 = .ok (.iadd, 1) := by decide +kernel
theorem dW_331 : decode code 331 = .ok (.iaload, 1) := by decide +kernel
theorem dW_332 : decode code 332 = .ok (.invokevirtual 52, 3) := by decide +kernel
theorem dW_335 : decode code 335 = .ok (.aload_n 2, 1) := by decide +kernel
theorem dW_336 : decode code 336 = .ok (.aload_n 0, 1) := by decide +kernel
theorem dW_337 : decode code 337 = .ok (.iload_n 3, 1) := by decide +kernel
theorem dW_338 : decode code 338 = .ok (.iconst 1, 1) := by decide +kernel
theorem dW_339 : decode code 339 = .ok (.iadd, 1) := by decide +kernel
theorem dW_340 : decode code 340 = .ok (.iaload, 1) := by decide +kernel
theorem dW_341 : decode code 341 = .ok (.aload_n 0, 1) := by decide +kernel
theorem dW_342 : decode code 342 = .ok (.iload_n 3, 1) := by decide +kernel
theorem dW_343 : decode code 343 = .ok (.iconst 2, 1) := by decide +kernel
theorem dW_344 : decode code 344 = .ok (.iadd, 1) := by decide +kernel
theorem dW_345 : decode code 345 = .ok (.iaload, 1) := by decide +kernel
theorem dW_346 : decode code 346 = .ok (.invokevirtual 55, 3) := by decide +kernel
theorem dW_349 : decode code 349 = .ok (.if_icmp .eq 192, 3) := by decide +kernel
theorem dW_352 : decode code 352 = .ok (.iconst 0, 1) := by decide +kernel
theorem dW_353 : decode code 353 = .ok (.ireturn, 1) := by decide +kernel
theorem dW_354 : decode code 354 = .ok (.aload_n 1, 1) := by decide +kernel
theorem dW_355 : decode code 355 = .ok (.aload_n 0, 1) := by decide +kernel
theorem dW_356 : decode code 356 = .ok (.iload_n 3, 1) := by decide +kernel
theorem dW_357 : decode code 357 = .ok (.iconst 1, 1) := by decide +kernel
theorem dW_358 : decode code 358 = .ok (.iadd, 1) := by decide +kernel
theorem dW_359 : decode code 359 = .ok (.iaload, 1) := by decide +kernel
theorem dW_360 : decode code 360 = .ok (.aload_n 0, 1) := by decide +kernel
theorem dW_361 : decode code 361 = .ok (.iload_n 3, 1) := by decide +kernel
theorem dW_362 : decode code 362 = .ok (.iconst 2, 1) := by decide +kernel
theorem dW_363 : decode code 363 = .ok (.iadd, 1) := by decide +kernel
theorem dW_364 : decode code 364 = .ok (.iaload, 1) := by decide +kernel
theorem dW_365 : decode code 365 = .ok (.invokevirtual 56, 3) := by decide +kernel
theorem dW_368 : decode code 368 = .ok (.aload_n 2, 1) := by decide +kernel
theorem dW_369 : decode code 369 = .ok (.aload_n 0, 1) := by decide +kernel
theorem dW_370 : decode code 370 = .ok (.iload_n 3, 1) := by decide +kernel
theorem dW_371 : decode code 371 = .ok (.iconst 1, 1) := by decide +kernel
theorem dW_372 : decode code 372 = .ok (.iadd, 1) := by decide +kernel
theorem dW_373 : decode code 373 = .ok (.iaload, 1) := by decide +kernel
theorem dW_374 : decode code 374 = .ok (.aload_n 0, 1) := by decide +kernel
theorem dW_375 : decode code 375 = .ok (.iload_n 3, 1) := by decide +kernel
theorem dW_376 : decode code 376 = .ok (.iconst 2, 1) := by decide +kernel
theorem dW_377 : decode code 377 = .ok (.iadd, 1) := by decide +kernel
theorem dW_378 : decode code 378 = .ok (.iaload, 1) := by decide +kernel
theorem dW_379 : decode code 379 = .ok (.invokevirtual 59, 3) := by decide +kernel
theorem dW_382 : decode code 382 = .ok (.if_icmp .eq 159, 3) := by decide +kernel
theorem dW_385 : decode code 385 = .ok (.iconst 0, 1) := by decide +kernel
theorem dW_386 : decode code 386 = .ok (.ireturn, 1) := by decide +kernel
theorem dW_387 : decode code 387 = .ok (.aload_n 1, 1) := by decide +kernel
theorem dW_388 : decode code 388 = .ok (.aload_n 0, 1) := by decide +kernel
theorem dW_389 : decode code 389 = .ok (.iload_n 3, 1) := by decide +kernel
theorem dW_390 : decode code 390 = .ok (.iconst 1, 1) := by decide +kernel
theorem dW_391 : decode code 391 = .ok (.iadd, 1) := by decide +kernel
theorem dW_392 : decode code 392 = .ok (.iaload, 1) := by decide +kernel
theorem dW_393 : decode code 393 = .ok (.invokevirtual 60, 3) := by decide +kernel
theorem dW_396 : decode code 396 = .ok (.aload_n 2, 1) := by decide +kernel
theorem dW_397 : decode code 397 = .ok (.aload_n 0, 1) := by decide +kernel
theorem dW_398 : decode code 398 = .ok (.iload_n 3, 1) := by decide +kernel
theorem dW_399 : decode code 399 = .ok (.iconst 1, 1) := by decide +kernel
theorem dW_400 : decode code 400 = .ok (.iadd, 1) := by decide +kernel
theorem dW_401 : decode code 401 = .ok (.iaload, 1) := by decide +kernel
theorem dW_402 : decode code 402 = .ok (.invokevirtual 63, 3) := by decide +kernel
theorem dW_405 : decode code 405 = .ok (.if_icmp .eq 136, 3) := by decide +kernel
theorem dW_408 : decode code 408 = .ok (.iconst 0, 1) := by decide +kernel
theorem dW_409 : decode code 409 = .ok (.ireturn, 1) := by decide +kernel
theorem dW_410 : decode code 410 = .ok (.aload_n 1, 1) := by decide +kernel
theorem dW_411 : decode code 411 = .ok (.invokevirtual 64, 3) := by decide +kernel
theorem dW_414 : decode code 414 = .ok (.aload_n 2, 1) := by decide +kernel
theorem dW_415 : decode code 415 = .ok (.invokevirtual 67, 3) := by decide +kernel
theorem dW_418 : decode code 418 = .ok (.if_icmp .eq 123, 3) := by decide +kernel
theorem dW_421 : decode code 421 = .ok (.iconst 0, 1) := by decide +kernel
theorem dW_422 : decode code 422 = .ok (.ireturn, 1) := by decide +kernel
theorem dW_423 : decode code 423 = .ok (.aload_n 1, 1) := by decide +kernel
theorem dW_424 : decode code 424 = .ok (.aload_n 0, 1) := by decide +kernel
theorem dW_425 : decode code 425 = .ok (.iload_n 3, 1) := by decide +kernel
theorem dW_426 : decode code 426 = .ok (.iconst 1, 1) := by decide +kernel
theorem dW_427 : decode code 427 = .ok (.iadd, 1) := by decide +kernel
theorem dW_428 : decode code 428 = .ok (.iaload, 1) := by decide +kernel
theorem dW_429 : decode code 429 = .ok (.aload_n 0, 1) := by decide +kernel
theorem dW_430 : decode code 430 = .ok (.iload_n 3, 1) := by decide +kernel
theorem dW_431 : decode code 431 = .ok (.iconst 2, 1) := by decide +kernel
theorem dW_432 : decode code 432 = .ok (.iadd, 1) := by decide +kernel
theorem dW_433 : decode code 433 = .ok (.iaload, 1) := by decide +kernel
theorem dW_434 : decode code 434 = .ok (.invokevirtual 68, 3) := by decide +kernel
theorem dW_437 : decode code 437 = .ok (.aload_n 2, 1) := by decide +kernel
theorem dW_438 : decode code 438 = .ok (.aload_n 0, 1) := by decide +kernel
theorem dW_439 : decode code 439 = .ok (.iload_n 3, 1) := by decide +kernel
theorem dW_440 : decode code 440 = .ok (.iconst 1, 1) := by decide +kernel
theorem dW_441 : decode code 441 = .ok (.iadd, 1) := by decide +kernel
theorem dW_442 : decode code 442 = .ok (.iaload, 1) := by decide +kernel
theorem dW_443 : decode code 443 = .ok (.aload_n 0, 1) := by decide +kernel
theorem dW_444 : decode code 444 = .ok (.iload_n 3, 1) := by decide +kernel
theorem dW_445 : decode code 445 = .ok (.iconst 2, 1) := by decide +kernel
theorem dW_446 : decode code 446 = .ok (.iadd, 1) := by decide +kernel
theorem dW_447 : decode code 447 = .ok (.iaload, 1) := by decide +kernel
theorem dW_448 : decode code 448 = .ok (.invokevirtual 71, 3) := by decide +kernel
theorem dW_451 : decode code 451 = .ok (.if_icmp .eq 90, 3) := by decide +kernel
theorem dW_454 : decode code 454 = .ok (.iconst 0, 1) := by decide +kernel
theorem dW_455 : decode code 455 = .ok (.ireturn, 1) := by decide +kernel
theorem dW_456 : decode code 456 = .ok (.aload_n 1, 1) := by decide +kernel
theorem dW_457 : decode code 457 = .ok (.aload_n 0, 1) := by decide +kernel
theorem dW_458 : decode code 458 = .ok (.iload_n 3, 1) := by decide +kernel
theorem dW_459 : decode code 459 = .ok (.iconst 1, 1) := by decide +kernel
theorem dW_460 : decode code 460 = .ok (.iadd, 1) := by decide +kernel
theorem dW_461 : decode code 461 = .ok (.iaload, 1) := by decide +kernel
theorem dW_462 : decode code 462 = .ok (.invokevirtual 72, 3) := by decide +kernel
theorem dW_465 : decode code 465 = .ok (.aload_n 2, 1) := by decide +kernel
theorem dW_466 : decode code 466 = .ok (.aload_n 0, 1) := by decide +kernel
theorem dW_467 : decode code 467 = .ok (.iload_n 3, 1) := by decide +kernel
theorem dW_468 : decode code 468 = .ok (.iconst 1, 1) := by decide +kernel
theorem dW_469 : decode code 469 = .ok (.iadd, 1) := by decide +kernel
theorem dW_470 : decode code 470 = .ok (.iaload, 1) := by decide +kernel
theorem dW_471 : decode code 471 = .ok (.invokevirtual 75, 3) := by decide +kernel
theorem dW_474 : decode code 474 = .ok (.if_icmp .eq 67, 3) := by decide +kernel
theorem dW_477 : decode code 477 = .ok (.iconst 0, 1) := by decide +kernel
theorem dW_478 : decode code 478 = .ok (.ireturn, 1) := by decide +kernel
theorem dW_479 : decode code 479 = .ok (.aload_n 1, 1) := by decide +kernel
theorem dW_480 : decode code 480 = .ok (.invokevirtual 76, 3) := by decide +kernel
theorem dW_483 : decode code 483 = .ok (.aload_n 2, 1) := by decide +kernel
theorem dW_484 : decode code 484 = .ok (.invokevirtual 79, 3) := by decide +kernel
theorem dW_487 : decode code 487 = .ok (.if_icmp .eq 54, 3) := by decide +kernel
theorem dW_490 : decode code 490 = .ok (.iconst 0, 1) := by decide +kernel
theorem dW_491 : decode code 491 = .ok (.ireturn, 1) := by decide +kernel
theorem dW_492 : decode code 492 = .ok (.aload_n 1, 1) := by decide +kernel
theorem dW_493 : decode code 493 = .ok (.aload_n 0, 1) := by decide +kernel
theorem dW_494 : decode code 494 = .ok (.iload_n 3, 1) := by decide +kernel
theorem dW_495 : decode code 495 = .ok (.iconst 1, 1) := by decide +kernel
theorem dW_496 : decode code 496 = .ok (.iadd, 1) := by decide +kernel
theorem dW_497 : decode code 497 = .ok (.iaload, 1) := by decide +kernel
theorem dW_498 : decode code 498 = .ok (.invokevirtual 80, 3) := by decide +kernel
theorem dW_501 : decode code 501 = .ok (.aload_n 2, 1) := by decide +kernel
theorem dW_502 : decode code 502 = .ok (.aload_n 0, 1) := by decide +kernel
theorem dW_503 : decode code 503 = .ok (.iload_n 3, 1) := by decide +kernel
theorem dW_504 : decode code 504 = .ok (.iconst 1, 1) := by decide +kernel
theorem dW_505 : decode code 505 = .ok (.iadd, 1) := by decide +kernel
theorem dW_506 : decode code 506 = .ok (.iaload, 1) := by decide +kernel
theorem dW_507 : decode code 507 = .ok (.invokevirtual 83, 3) := by decide +kernel
theorem dW_510 : decode code 510 = .ok (.if_icmp .eq 31, 3) := by decide +kernel
theorem dW_513 : decode code 513 = .ok (.iconst 0, 1) := by decide +kernel
theorem dW_514 : decode code 514 = .ok (.ireturn, 1) := by decide +kernel
theorem dW_515 : decode code 515 = .ok (.aload_n 1, 1) := by decide +kernel
theorem dW_516 : decode code 516 = .ok (.invokevirtual 84, 3) := by decide +kernel
theorem dW_519 : decode code 519 = .ok (.aload_n 2, 1) := by decide +kernel
theorem dW_520 : decode code 520 = .ok (.invokevirtual 87, 3) := by decide +kernel
theorem dW_523 : decode code 523 = .ok (.if_icmp .eq 18, 3) := by decide +kernel
theorem dW_526 : decode code 526 = .ok (.iconst 0, 1) := by decide +kernel
theorem dW_527 : decode code 527 = .ok (.ireturn, 1) := by decide +kernel
theorem dW_528 : decode code 528 = .ok (.aload_n 1, 1) := by decide +kernel
theorem dW_529 : decode code 529 = .ok (.invokevirtual 88, 3) := by decide +kernel
theorem dW_532 : decode code 532 = .ok (.aload_n 2, 1) := by decide +kernel
theorem dW_533 : decode code 533 = .ok (.invokevirtual 91, 3) := by decide +kernel
theorem dW_536 : decode code 536 = .ok (.if_icmp .eq 5, 3) := by decide +kernel
theorem dW_539 : decode code 539 = .ok (.iconst 0, 1) := by decide +kernel
theorem dW_540 : decode code 540 = .ok (.ireturn, 1) := by decide +kernel
theorem dW_541 : decode code 541 = .ok (.iinc 3 3, 3) := by decide +kernel
theorem dW_544 : decode code 544 = .ok (.goto (-526), 3) := by decide +kernel
theorem dW_547 : decode code 547 = .ok (.iconst 1, 1) := by decide +kernel
theorem dW_548 : decode code 548 = .ok (.ireturn, 1) := by decide +kernel
theorem yc_mem {z q : Nat} : q ∈ (Yc z).1 ↔ z ≤ q ∧ q < z + 269 := List.mem_range'_1
theorem ym_mem {b q : Nat} : q ∈ (Ym b).1 ↔ b ≤ q ∧ q < b + 29 := List.mem_range'_1
/-- what the law holds: the object under test, the reference, nothing else written that was there -/
def LW (G : GG) (z : Nat) (s : State) (Sc Sm : HS) (H : Heap) (locs : List Loc) : Prop := WP G (Yc z) Sc H ∧ WP G (Ym (z + 269)) Sm H ∧ va_S (fun q : Nat => s.heap.size ≤ q) s.heap H locs
theorem ce_agr {G : GG} {Y Y1 : LY} {S S1 : HS} {a : Nat} (hk : Y1.2.1 a = Y.2.1 a) (hl : Y1.2.2 a = Y.2.2 a) (hI : ∀ f, S1.1 f a = S.1 f a ∧ S1.2.1 f a = S.2.1 f a) (hA : S1.2.2.1 a = S.2.2.1 a) (hQ : S1.2.2.2 a = S.2.2.2 a) : ce G Y1 S1 a = ce G Y S a := by
  unfold ce
  have e : ∀ d, fv S1 d a = fv S d a := by
    intro d
    unfold fv
    apply List.map_congr_left
    intro k _
    unfold vl
    rw [(hI _).1, (hI _).2]
  rw [hk, hl, hA, hQ, e]
section LAWR
variable {p : Program} {l : Launch} {e : Env} {R : Room} {s : State} {m : MethodId} {args : Array Value} {below : List Frame} {meth : Method} {c : Code} {H : Heap} {locs : List Loc} {cells slots : Nat} {Q : State → Prop}
variable {G : GG} {rt : Option FieldType} {S Sc Sm S1 S2 : HS} {pc : Nat} {ls : Array Slot} {rest : List Value} {z q a0 L : Nat} {xs : Nat → Int32} {i : Int32}
theorem lw_HPc (hz : s.heap.size ≤ z) (h : LW G z s Sc Sm H locs) : HP (fun q : Nat => s.heap.size ≤ q) G (Yc z) s Sc H locs := ⟨h.1, WD_of List.nodup_range' (fun q hq => by have := yc_mem.mp hq; show s.heap.size ≤ q; omega), h.2.2⟩
theorem lw_HPm (hz : s.heap.size ≤ z) (h : LW G z s Sc Sm H locs) : HP (fun q : Nat => s.heap.size ≤ q) G (Ym (z + 269)) s Sm H locs := ⟨h.2.1, WD_of List.nodup_range' (fun q hq => by have := ym_mem.mp hq; show s.heap.size ≤ q; omega), h.2.2⟩
theorem lw_szc (h : LW G z s Sc Sm H locs) : z + 269 ≤ H.size := by
  have := WP_lt h.1 (a := z + 268) (yc_mem.mpr ⟨by omega, by omega⟩)
  omega
theorem lw_callC (X : Cx p R s m args meth c RL code 4 2048 84000 (fun q : Nat => s.heap.size ≤ q) G rt) (hz : s.heap.size ≤ z) (hW : LW G z s Sc Sm H locs) {index : Nat} {y : MethodName} {b : ByteArray} {n f lo : Nat} {ret : Option FieldType} {As st0 : List Value} {rv : Int32}
    (hdg : decode code pc = .ok (.invokevirtual index, 3)) (hC : CLv RL index y b n ret) (hy : PY y As.length) (hM : MM l y b n ret f lo G (Yc z) Sc (.ref z :: As) S1 (some (.int rv))) (hroom : f + 1 ≤ 2048 ∧ 8 + (n + 11) + lo ≤ 84000) (hcN : some RX11 = some y.cls) (hcs : cells ≤ R.cells ∧ slots ≤ R.slots)
    (hst : st0 = As.reverse ++ .ref z :: rest) (hcat : (rest.map fun v => v.category).sum ≤ 8) (hsz : ls.size = 4)
    (kk : ∀ (H1 : Heap) (locs1 : List Loc), LW G z s S1 Sm H1 locs1 → W p l e R s m args below meth c H1 locs1 cells slots Q (F0 m (pc + 3) ls (.int rv :: rest))) : W p l e R s m args below meth c H locs cells slots Q (F0 m pc ls st0) :=
  rq_callV (cN := 11) (rv := some (.int rv)) X hdg hC hy hM hroom (Yc_chk (z := z) (o := 0) (c := 11) (by omega) rfl) hcN (lw_HPc hz hW) hcs hst hcat hsz (fun H1 locs1 h1 h2 h3 => kk H1 locs1 ⟨h1, WP_keep hW.2.1 (fun q hq => h2 q (WP_lt hW.2.1 hq) (fun h => by have h4 := yc_mem.mp h; have h5 := ym_mem.mp hq; omega)), h3⟩)
theorem lw_callM (X : Cx p R s m args meth c RL code 4 2048 84000 (fun q : Nat => s.heap.size ≤ q) G rt) (hz : s.heap.size ≤ z) (hW : LW G z s Sc Sm H locs) {index : Nat} {y : MethodName} {b : ByteArray} {n f lo : Nat} {ret : Option FieldType} {As st0 : List Value} {rv : Int32}
    (hdg : decode code pc = .ok (.invokevirtual index, 3)) (hC : CLv RL index y b n ret) (hy : PY y As.length) (hM : MM l y b n ret f lo G (Ym (z + 269)) Sm (.ref (z + 269) :: As) S1 (some (.int rv))) (hroom : f + 1 ≤ 2048 ∧ 8 + (n + 11) + lo ≤ 84000) (hcN : some RX12 = some y.cls) (hcs : cells ≤ R.cells ∧ slots ≤ R.slots)
    (hst : st0 = As.reverse ++ .ref (z + 269) :: rest) (hcat : (rest.map fun v => v.category).sum ≤ 8) (hsz : ls.size = 4)
    (kk : ∀ (H1 : Heap) (locs1 : List Loc), LW G z s Sc S1 H1 locs1 → W p l e R s m args below meth c H1 locs1 cells slots Q (F0 m (pc + 3) ls (.int rv :: rest))) : W p l e R s m args below meth c H locs cells slots Q (F0 m pc ls st0) :=
  rq_callV (cN := 12) (rv := some (.int rv)) X hdg hC hy hM hroom (by unfold chk Ym; simp) hcN (lw_HPm hz hW) hcs hst hcat hsz (fun H1 locs1 h1 h2 h3 => kk H1 locs1 ⟨WP_keep hW.1 (fun q hq => h2 q (WP_lt hW.1 hq) (fun h => by have h4 := ym_mem.mp h; have h5 := yc_mem.mp hq; omega)), h1, h3⟩)
theorem lw_callA (X : Cx p R s m args meth c RL code 4 2048 84000 (fun q : Nat => s.heap.size ≤ q) G rt) (hz : s.heap.size ≤ z) (hW : LW G z s Sc Sm H locs) {index mc ms : Nat} {y : MethodName} {b : ByteArray} {n f lo : Nat} {ret : Option FieldType} {As st0 : List Value} {rv : Int32} {Y1 : LY} {N1 : Nat × Nat}
    (hdg : decode code pc = .ok (.invokevirtual index, 3)) (hC : CLv RL index y b n ret) (hy : PY y As.length) (hM : MA l y b n ret f lo mc ms G (Yc z) Sc (H.size, 0) (.ref z :: As) Y1 S1 N1 (some (.int rv))) (hag : AGR z S1 S2) (hlay : ∀ a, a < H.size → (a ∈ Y1.1 ↔ a ∈ (Yc z).1) ∧ Y1.2.1 a = (Yc z).2.1 a ∧ Y1.2.2 a = (Yc z).2.2 a) (hroom : f + 1 ≤ 2048 ∧ 8 + (n + 11) + lo ≤ 84000) (hcN : some RX11 = some y.cls) (hcs : cells + mc ≤ R.cells ∧ slots + ms ≤ R.slots)
    (hst : st0 = As.reverse ++ .ref z :: rest) (hcat : (rest.map fun v => v.category).sum ≤ 8) (hsz : ls.size = 4)
    (kk : ∀ (H1 : Heap) (locs1 : List Loc), LW G z s S2 Sm H1 locs1 → W p l e R s m args below meth c H1 locs1 (cells + mc) (slots + ms) Q (F0 m (pc + 3) ls (.int rv :: rest))) : W p l e R s m args below meth c H locs cells slots Q (F0 m pc ls st0) :=
  rq_callA (cN := 11) (rv := some (.int rv)) X hdg hC hy hM hroom (Yc_chk (z := z) (o := 0) (c := 11) (by omega) rfl) hcN (lw_HPc hz hW) (fun _ h => h) rfl hcs hst hcat hsz (fun H1 locs1 h1 h2 hsz1 h3 => kk H1 locs1 ⟨WP_sub h1 (fun a ha => by
    have h4 := yc_mem.mp ha
    obtain ⟨k1, k2, k3⟩ := hlay a (WP_lt hW.1 ha)
    obtain ⟨g1, g2, g3⟩ := hag a h4.1 h4.2
    exact ⟨k1.mpr ha, ce_agr k2 k3 (fun f => ⟨(g1 f).1.symm, (g1 f).2.symm⟩) g2.symm g3.symm⟩), WP_keep hW.2.1 (fun q hq => h2 q (WP_lt hW.2.1 hq) (fun h => by have h4 := yc_mem.mp h; have h5 := ym_mem.mp hq; omega)), h3⟩)
theorem lc_append (X : Cx p R s m args meth c RL code 4 2048 84000 (fun q : Nat => s.heap.size ≤ q) G rt) (hz : s.heap.size ≤ z) (hX : va_X a0 L xs s s.heap) (hbl : a0 < s.heap.size) (hq : q + 400000 < 2 ^ 31) (hR : REL z (z + 269) q Sc Sm) (hW : LW G z s Sc Sm H locs) (hl : lv_has ls 4 [(0, .ref a0), (1, .ref z), (2, .ref (z + 269)), (3, .int i)]) (i1 : vp_in (i + 1) L) (i2 : vp_in (i + 2) L) (hcs : cells + 1 ≤ R.cells ∧ slots + 3 ≤ R.slots) (KC : ∀ (S1 M1 : HS) (H1 : Heap) (locs1 : List Loc), REL z (z + 269) (q + 360000) S1 M1 → LW G z s S1 M1 H1 locs1 → W p l e R s m args below meth c H1 locs1 (cells + 1) (slots + 3) Q (F0 m 541 ls [])) : W p l e R s m args below meth c H locs cells slots Q (F0 m 124 ls []) := by
  have hx := X.1.1
  have hb := X.1.2.1
  obtain ⟨S1, M1, r, f1, f2, hR1⟩ := x_append (x := xs (i + 1).toNatClampNeg) (y := xs (i + 2).toNatClampNeg) hR
  refine lv_aload_n hx hb dW_124 rfl (lv_at hl 1 rfl) ?_
  refine lv_aload_n hx hb dW_125 rfl (lv_at hl 0 rfl) ?_
  refine lv_iload_n hx hb dW_126 rfl (lv_at hl 3 rfl) ?_
  refine lv_iconst (v := 1) hx hb dW_127 (by decide) ?_
  refine lv_iadd hx hb dW_128 ?_
  refine va_sld hx hb hX hbl (Nat.not_le.mpr hbl) hW.2.2 i1 dW_129 ?_
  refine lv_aload_n hx hb dW_130 rfl (lv_at hl 0 rfl) ?_
  refine lv_iload_n hx hb dW_131 rfl (lv_at hl 3 rfl) ?_
  refine lv_iconst (v := 2) hx hb dW_132 (by decide) ?_
  refine lv_iadd hx hb dW_133 ?_
  refine va_sld hx hb hX hbl (Nat.not_le.mpr hbl) hW.2.2 i2 dW_134 ?_
  refine lw_callC (rest := []) X hz hW (As := [.int (xs (i + 1).toNatClampNeg), .int (xs (i + 2).toNatClampNeg)]) dW_135 clL_13 pyX11_append (mX11_append l f1) ⟨Nat.le_of_ble_eq_true rfl, Nat.le_of_ble_eq_true rfl⟩ rfl ⟨by omega, by omega⟩ rfl (Nat.le_of_ble_eq_true rfl) hl.1 (fun H1 locs1 hW => ?_)
  refine lv_aload_n hx hb dW_138 rfl (lv_at hl 2 rfl) ?_
  refine lv_aload_n hx hb dW_139 rfl (lv_at hl 0 rfl) ?_
  refine lv_iload_n hx hb dW_140 rfl (lv_at hl 3 rfl) ?_
  refine lv_iconst (v := 1) hx hb dW_141 (by decide) ?_
  refine lv_iadd hx hb dW_142 ?_
  refine va_sld hx hb hX hbl (Nat.not_le.mpr hbl) hW.2.2 i1 dW_143 ?_
  refine lv_aload_n hx hb dW_144 rfl (lv_at hl 0 rfl) ?_
  refine lv_iload_n hx hb dW_145 rfl (lv_at hl 3 rfl) ?_
  refine lv_iconst (v := 2) hx hb dW_146 (by decide) ?_
  refine lv_iadd hx hb dW_147 ?_
  refine va_sld hx hb hX hbl (Nat.not_le.mpr hbl) hW.2.2 i2 dW_148 ?_
  refine lw_callM (rest := [.int r]) X hz hW (As := [.int (xs (i + 1).toNatClampNeg), .int (xs (i + 2).toNatClampNeg)]) dW_149 clL_17 pyX12_append (mX12_append l f2) ⟨Nat.le_of_ble_eq_true rfl, Nat.le_of_ble_eq_true rfl⟩ rfl ⟨by omega, by omega⟩ rfl (Nat.le_of_ble_eq_true rfl) hl.1 (fun H1 locs1 hW => ?_)
  refine lv_icmp_eq (tgt := 541) hx hb dW_152 (by decide) (fun _ => ?_) (fun h => absurd rfl h)
  exact W.widen (k := cells + 1) (n := slots + 3) (by omega) (by omega) (KC S1 M1 _ _ (REL_mono (by omega) hR1) hW)
theorem lc_readTree (X : Cx p R s m args meth c RL code 4 2048 84000 (fun q : Nat => s.heap.size ≤ q) G rt) (hz : s.heap.size ≤ z) (hX : va_X a0 L xs s s.heap) (hbl : a0 < s.heap.size) (hq : q + 400000 < 2 ^ 31) (hR : REL z (z + 269) q Sc Sm) (hW : LW G z s Sc Sm H locs) (hl : lv_has ls 4 [(0, .ref a0), (1, .ref z), (2, .ref (z + 269)), (3, .int i)]) (i1 : vp_in (i + 1) L) (i2 : vp_in (i + 2) L) (hcs : cells + 1 ≤ R.cells ∧ slots + 3 ≤ R.slots) (KC : ∀ (S1 M1 : HS) (H1 : Heap) (locs1 : List Loc), REL z (z + 269) (q + 360000) S1 M1 → LW G z s S1 M1 H1 locs1 → W p l e R s m args below meth c H1 locs1 (cells + 1) (slots + 3) Q (F0 m 541 ls [])) : W p l e R s m args below meth c H locs cells slots Q (F0 m 157 ls []) := by
  have hx := X.1.1
  have hb := X.1.2.1
  obtain ⟨S1, S2, M1, Y1, N1, r, f1, f2, hR1, hag, hN1, hlay⟩ := x_readTree hR (N := (H.size, 0)) (lw_szc hW)
  refine lv_aload_n hx hb dW_157 rfl (lv_at hl 1 rfl) ?_
  refine lw_callA (rest := []) X hz hW (As := []) dW_158 clL_18 pyX11_readTree (mX11_readTree l f1) hag hlay ⟨Nat.le_of_ble_eq_true rfl, Nat.le_of_ble_eq_true rfl⟩ rfl ⟨by omega, by omega⟩ rfl (Nat.le_of_ble_eq_true rfl) hl.1 (fun H1 locs1 hW => ?_)
  refine lv_aload_n hx hb dW_161 rfl (lv_at hl 2 rfl) ?_
  refine lw_callM (rest := [.int r]) X hz hW (As := []) dW_162 clL_22 pyX12_readTree (mX12_readTree l f2) ⟨Nat.le_of_ble_eq_true rfl, Nat.le_of_ble_eq_true rfl⟩ rfl ⟨by omega, by omega⟩ rfl (Nat.le_of_ble_eq_true rfl) hl.1 (fun H1 locs1 hW => ?_)
  refine lv_icmp_eq (tgt := 541) hx hb dW_165 (by decide) (fun _ => ?_) (fun h => absurd rfl h)
  exact W.widen (k := cells + 1) (n := slots + 3) (by omega) (by omega) (KC S2 M1 _ _ (REL_mono (by omega) hR1) hW)
theorem lc_set (X : Cx p R s m args meth c RL code 4 2048 84000 (fun q : Nat => s.heap.size ≤ q) G rt) (hz : s.heap.size ≤ z) (hX : va_X a0 L xs s s.heap) (hbl : a0 < s.heap.size) (hq : q + 400000 < 2 ^ 31) (hR : REL z (z + 269) q Sc Sm) (hW : LW G z s Sc Sm H locs) (hl : lv_has ls 4 [(0, .ref a0), (1, .ref z), (2, .ref (z + 269)), (3, .int i)]) (i1 : vp_in (i + 1) L) (i2 : vp_in (i + 2) L) (hcs : cells + 1 ≤ R.cells ∧ slots + 3 ≤ R.slots) (KC : ∀ (S1 M1 : HS) (H1 : Heap) (locs1 : List Loc), REL z (z + 269) (q + 360000) S1 M1 → LW G z s S1 M1 H1 locs1 → W p l e R s m args below meth c H1 locs1 (cells + 1) (slots + 3) Q (F0 m 541 ls [])) : W p l e R s m args below meth c H locs cells slots Q (F0 m 170 ls []) := by
  have hx := X.1.1
  have hb := X.1.2.1
  obtain ⟨S1, M1, r, f1, f2, hR1⟩ := x_set (x := xs (i + 1).toNatClampNeg) (y := xs (i + 2).toNatClampNeg) hR
  refine lv_aload_n hx hb dW_170 rfl (lv_at hl 1 rfl) ?_
  refine lv_aload_n hx hb dW_171 rfl (lv_at hl 0 rfl) ?_
  refine lv_iload_n hx hb dW_172 rfl (lv_at hl 3 rfl) ?_
  refine lv_iconst (v := 1) hx hb dW_173 (by decide) ?_
  refine lv_iadd hx hb dW_174 ?_
  refine va_sld hx hb hX hbl (Nat.not_le.mpr hbl) hW.2.2 i1 dW_175 ?_
  refine lv_aload_n hx hb dW_176 rfl (lv_at hl 0 rfl) ?_
  refine lv_iload_n hx hb dW_177 rfl (lv_at hl 3 rfl) ?_
  refine lv_iconst (v := 2) hx hb dW_178 (by decide) ?_
  refine lv_iadd hx hb dW_179 ?_
  refine va_sld hx hb hX hbl (Nat.not_le.mpr hbl) hW.2.2 i2 dW_180 ?_
  refine lw_callC (rest := []) X hz hW (As := [.int (xs (i + 1).toNatClampNeg), .int (xs (i + 2).toNatClampNeg)]) dW_181 clL_23 pyX11_set (mX11_set l f1) ⟨Nat.le_of_ble_eq_true rfl, Nat.le_of_ble_eq_true rfl⟩ rfl ⟨by omega, by omega⟩ rfl (Nat.le_of_ble_eq_true rfl) hl.1 (fun H1 locs1 hW => ?_)
  refine lv_aload_n hx hb dW_184 rfl (lv_at hl 2 rfl) ?_
  refine lv_aload_n hx hb dW_185 rfl (lv_at hl 0 rfl) ?_
  refine lv_iload_n hx hb dW_186 rfl (lv_at hl 3 rfl) ?_
  refine lv_iconst (v := 1) hx hb dW_187 (by decide) ?_
  refine lv_iadd hx hb dW_188 ?_
  refine va_sld hx hb hX hbl (Nat.not_le.mpr hbl) hW.2.2 i1 dW_189 ?_
  refine lv_aload_n hx hb dW_190 rfl (lv_at hl 0 rfl) ?_
  refine lv_iload_n hx hb dW_191 rfl (lv_at hl 3 rfl) ?_
  refine lv_iconst (v := 2) hx hb dW_192 (by decide) ?_
  refine lv_iadd hx hb dW_193 ?_
  refine va_sld hx hb hX hbl (Nat.not_le.mpr hbl) hW.2.2 i2 dW_194 ?_
  refine lw_callM (rest := [.int r]) X hz hW (As := [.int (xs (i + 1).toNatClampNeg), .int (xs (i + 2).toNatClampNeg)]) dW_195 clL_26 pyX12_set (mX12_set l f2) ⟨Nat.le_of_ble_eq_true rfl, Nat.le_of_ble_eq_true rfl⟩ rfl ⟨by omega, by omega⟩ rfl (Nat.le_of_ble_eq_true rfl) hl.1 (fun H1 locs1 hW => ?_)
  refine lv_icmp_eq (tgt := 541) hx hb dW_198 (by decide) (fun _ => ?_) (fun h => absurd rfl h)
  exact W.widen (k := cells + 1) (n := slots + 3) (by omega) (by omega) (KC S1 M1 _ _ (REL_mono (by omega) hR1) hW)
theorem lc_value (X : Cx p R s m args meth c RL code 4 2048 84000 (fun q : Nat => s.heap.size ≤ q) G rt) (hz : s.heap.size ≤ z) (hX : va_X a0 L xs s s.heap) (hbl : a0 < s.heap.size) (hq : q + 400000 < 2 ^ 31) (hR : REL z (z + 269) q Sc Sm) (hW : LW G z s Sc Sm H locs) (hl : lv_has ls 4 [(0, .ref a0), (1, .ref z), (2, .ref (z + 269)), (3, .int i)]) (i1 : vp_in (i + 1) L) (i2 : vp_in (i + 2) L) (hcs : cells + 1 ≤ R.cells ∧ slots + 3 ≤ R.slots) (KC : ∀ (S1 M1 : HS) (H1 : Heap) (locs1 : List Loc), REL z (z + 269) (q + 360000) S1 M1 → LW G z s S1 M1 H1 locs1 → W p l e R s m args below meth c H1 locs1 (cells + 1) (slots + 3) Q (F0 m 541 ls [])) : W p l e R s m args below meth c H locs cells slots Q (F0 m 203 ls []) := by
  have hx := X.1.1
  have hb := X.1.2.1
  obtain ⟨r, f1, f2⟩ := x_value (x := xs (i + 1).toNatClampNeg) (y := xs (i + 2).toNatClampNeg) hR
  refine lv_aload_n hx hb dW_203 rfl (lv_at hl 1 rfl) ?_
  refine lv_aload_n hx hb dW_204 rfl (lv_at hl 0 rfl) ?_
  refine lv_iload_n hx hb dW_205 rfl (lv_at hl 3 rfl) ?_
  refine lv_iconst (v := 1) hx hb dW_206 (by decide) ?_
  refine lv_iadd hx hb dW_207 ?_
  refine va_sld hx hb hX hbl (Nat.not_le.mpr hbl) hW.2.2 i1 dW_208 ?_
  refine lv_aload_n hx hb dW_209 rfl (lv_at hl 0 rfl) ?_
  refine lv_iload_n hx hb dW_210 rfl (lv_at hl 3 rfl) ?_
  refine lv_iconst (v := 2) hx hb dW_211 (by decide) ?_
  refine lv_iadd hx hb dW_212 ?_
  refine va_sld hx hb hX hbl (Nat.not_le.mpr hbl) hW.2.2 i2 dW_213 ?_
  refine lw_callC (rest := []) X hz hW (As := [.int (xs (i + 1).toNatClampNeg), .int (xs (i + 2).toNatClampNeg)]) dW_214 clL_27 pyX11_value (mX11_value l f1) ⟨Nat.le_of_ble_eq_true rfl, Nat.le_of_ble_eq_true rfl⟩ rfl ⟨by omega, by omega⟩ rfl (Nat.le_of_ble_eq_true rfl) hl.1 (fun H1 locs1 hW => ?_)
  refine lv_aload_n hx hb dW_217 rfl (lv_at hl 2 rfl) ?_
  refine lv_aload_n hx hb dW_218 rfl (lv_at hl 0 rfl) ?_
  refine lv_iload_n hx hb dW_219 rfl (lv_at hl 3 rfl) ?_
  refine lv_iconst (v := 1) hx hb dW_220 (by decide) ?_
  refine lv_iadd hx hb dW_221 ?_
  refine va_sld hx hb hX hbl (Nat.not_le.mpr hbl) hW.2.2 i1 dW_222 ?_
  refine lv_aload_n hx hb dW_223 rfl (lv_at hl 0 rfl) ?_
  refine lv_iload_n hx hb dW_224 rfl (lv_at hl 3 rfl) ?_
  refine lv_iconst (v := 2) hx hb dW_225 (by decide) ?_
  refine lv_iadd hx hb dW_226 ?_
  refine va_sld hx hb hX hbl (Nat.not_le.mpr hbl) hW.2.2 i2 dW_227 ?_
  refine lw_callM (rest := [.int r]) X hz hW (As := [.int (xs (i + 1).toNatClampNeg), .int (xs (i + 2).toNatClampNeg)]) dW_228 clL_30 pyX12_value (mX12_value l f2) ⟨Nat.le_of_ble_eq_true rfl, Nat.le_of_ble_eq_true rfl⟩ rfl ⟨by omega, by omega⟩ rfl (Nat.le_of_ble_eq_true rfl) hl.1 (fun H1 locs1 hW => ?_)
  refine lv_icmp_eq (tgt := 541) hx hb dW_231 (by decide) (fun _ => ?_) (fun h => absurd rfl h)
  exact W.widen (k := cells + 1) (n := slots + 3) (by omega) (by omega) (KC Sc Sm _ _ (REL_mono (by omega) hR) hW)
theorem lc_tick (X : Cx p R s m args meth c RL code 4 2048 84000 (fun q : Nat => s.heap.size ≤ q) G rt) (hz : s.heap.size ≤ z) (hX : va_X a0 L xs s s.heap) (hbl : a0 < s.heap.size) (hq : q + 400000 < 2 ^ 31) (hR : REL z (z + 269) q Sc Sm) (hW : LW G z s Sc Sm H locs) (hl : lv_has ls 4 [(0, .ref a0), (1, .ref z), (2, .ref (z + 269)), (3, .int i)]) (i1 : vp_in (i + 1) L) (i2 : vp_in (i + 2) L) (hcs : cells + 1 ≤ R.cells ∧ slots + 3 ≤ R.slots) (KC : ∀ (S1 M1 : HS) (H1 : Heap) (locs1 : List Loc), REL z (z + 269) (q + 360000) S1 M1 → LW G z s S1 M1 H1 locs1 → W p l e R s m args below meth c H1 locs1 (cells + 1) (slots + 3) Q (F0 m 541 ls [])) : W p l e R s m args below meth c H locs cells slots Q (F0 m 236 ls []) := by
  have hx := X.1.1
  have hb := X.1.2.1
  obtain ⟨S1, M1, r, f1, f2, hR1⟩ := x_tick (x := xs (i + 1).toNatClampNeg) hR (by omega)
  refine lv_aload_n hx hb dW_236 rfl (lv_at hl 1 rfl) ?_
  refine lv_aload_n hx hb dW_237 rfl (lv_at hl 0 rfl) ?_
  refine lv_iload_n hx hb dW_238 rfl (lv_at hl 3 rfl) ?_
  refine lv_iconst (v := 1) hx hb dW_239 (by decide) ?_
  refine lv_iadd hx hb dW_240 ?_
  refine va_sld hx hb hX hbl (Nat.not_le.mpr hbl) hW.2.2 i1 dW_241 ?_
  refine lw_callC (rest := []) X hz hW (As := [.int (xs (i + 1).toNatClampNeg)]) dW_242 clL_31 pyX11_tick (mX11_tick l f1) ⟨Nat.le_of_ble_eq_true rfl, Nat.le_of_ble_eq_true rfl⟩ rfl ⟨by omega, by omega⟩ rfl (Nat.le_of_ble_eq_true rfl) hl.1 (fun H1 locs1 hW => ?_)
  refine lv_aload_n hx hb dW_245 rfl (lv_at hl 2 rfl) ?_
  refine lv_aload_n hx hb dW_246 rfl (lv_at hl 0 rfl) ?_
  refine lv_iload_n hx hb dW_247 rfl (lv_at hl 3 rfl) ?_
  refine lv_iconst (v := 1) hx hb dW_248 (by decide) ?_
  refine lv_iadd hx hb dW_249 ?_
  refine va_sld hx hb hX hbl (Nat.not_le.mpr hbl) hW.2.2 i1 dW_250 ?_
  refine lw_callM (rest := [.int r]) X hz hW (As := [.int (xs (i + 1).toNatClampNeg)]) dW_251 clL_35 pyX12_tick (mX12_tick l f2) ⟨Nat.le_of_ble_eq_true rfl, Nat.le_of_ble_eq_true rfl⟩ rfl ⟨by omega, by omega⟩ rfl (Nat.le_of_ble_eq_true rfl) hl.1 (fun H1 locs1 hW => ?_)
  refine lv_icmp_eq (tgt := 541) hx hb dW_254 (by decide) (fun _ => ?_) (fun h => absurd rfl h)
  exact W.widen (k := cells + 1) (n := slots + 3) (by omega) (by omega) (KC S1 M1 _ _ (REL_mono (by omega) hR1) hW)
theorem lc_run (X : Cx p R s m args meth c RL code 4 2048 84000 (fun q : Nat => s.heap.size ≤ q) G rt) (hz : s.heap.size ≤ z) (hX : va_X a0 L xs s s.heap) (hbl : a0 < s.heap.size) (hq : q + 400000 < 2 ^ 31) (hR : REL z (z + 269) q Sc Sm) (hW : LW G z s Sc Sm H locs) (hl : lv_has ls 4 [(0, .ref a0), (1, .ref z), (2, .ref (z + 269)), (3, .int i)]) (i1 : vp_in (i + 1) L) (i2 : vp_in (i + 2) L) (hcs : cells + 1 ≤ R.cells ∧ slots + 3 ≤ R.slots) (KC : ∀ (S1 M1 : HS) (H1 : Heap) (locs1 : List Loc), REL z (z + 269) (q + 360000) S1 M1 → LW G z s S1 M1 H1 locs1 → W p l e R s m args below meth c H1 locs1 (cells + 1) (slots + 3) Q (F0 m 541 ls [])) : W p l e R s m args below meth c H locs cells slots Q (F0 m 259 ls []) := by
  have hx := X.1.1
  have hb := X.1.2.1
  obtain ⟨S1, M1, r, f1, f2, hR1⟩ := x_run (x := xs (i + 1).toNatClampNeg) hR (by omega)
  refine lv_aload_n hx hb dW_259 rfl (lv_at hl 1 rfl) ?_
  refine lv_aload_n hx hb dW_260 rfl (lv_at hl 0 rfl) ?_
  refine lv_iload_n hx hb dW_261 rfl (lv_at hl 3 rfl) ?_
  refine lv_iconst (v := 1) hx hb dW_262 (by decide) ?_
  refine lv_iadd hx hb dW_263 ?_
  refine va_sld hx hb hX hbl (Nat.not_le.mpr hbl) hW.2.2 i1 dW_264 ?_
  refine lw_callC (rest := []) X hz hW (As := [.int (xs (i + 1).toNatClampNeg)]) dW_265 clL_36 pyX11_run (mX11_run l f1) ⟨Nat.le_of_ble_eq_true rfl, Nat.le_of_ble_eq_true rfl⟩ rfl ⟨by omega, by omega⟩ rfl (Nat.le_of_ble_eq_true rfl) hl.1 (fun H1 locs1 hW => ?_)
  refine lv_aload_n hx hb dW_268 rfl (lv_at hl 2 rfl) ?_
  refine lv_aload_n hx hb dW_269 rfl (lv_at hl 0 rfl) ?_
  refine lv_iload_n hx hb dW_270 rfl (lv_at hl 3 rfl) ?_
  refine lv_iconst (v := 1) hx hb dW_271 (by decide) ?_
  refine lv_iadd hx hb dW_272 ?_
  refine va_sld hx hb hX hbl (Nat.not_le.mpr hbl) hW.2.2 i1 dW_273 ?_
  refine lw_callM (rest := [.int r]) X hz hW (As := [.int (xs (i + 1).toNatClampNeg)]) dW_274 clL_39 pyX12_run (mX12_run l f2) ⟨Nat.le_of_ble_eq_true rfl, Nat.le_of_ble_eq_true rfl⟩ rfl ⟨by omega, by omega⟩ rfl (Nat.le_of_ble_eq_true rfl) hl.1 (fun H1 locs1 hW => ?_)
  refine lv_icmp_eq (tgt := 541) hx hb dW_277 (by decide) (fun _ => ?_) (fun h => absurd rfl h)
  exact W.widen (k := cells + 1) (n := slots + 3) (by omega) (by omega) (KC S1 M1 _ _ (REL_mono (by omega) hR1) hW)
theorem lc_foresee (X : Cx p R s m args meth c RL code 4 2048 84000 (fun q : Nat => s.heap.size ≤ q) G rt) (hz : s.heap.size ≤ z) (hX : va_X a0 L xs s s.heap) (hbl : a0 < s.heap.size) (hq : q + 400000 < 2 ^ 31) (hR : REL z (z + 269) q Sc Sm) (hW : LW G z s Sc Sm H locs) (hl : lv_has ls 4 [(0, .ref a0), (1, .ref z), (2, .ref (z + 269)), (3, .int i)]) (i1 : vp_in (i + 1) L) (i2 : vp_in (i + 2) L) (hcs : cells + 1 ≤ R.cells ∧ slots + 3 ≤ R.slots) (KC : ∀ (S1 M1 : HS) (H1 : Heap) (locs1 : List Loc), REL z (z + 269) (q + 360000) S1 M1 → LW G z s S1 M1 H1 locs1 → W p l e R s m args below meth c H1 locs1 (cells + 1) (slots + 3) Q (F0 m 541 ls [])) : W p l e R s m args below meth c H locs cells slots Q (F0 m 282 ls []) := by
  have hx := X.1.1
  have hb := X.1.2.1
  obtain ⟨S1, M1, r, f1, f2, hR1⟩ := x_foresee hR (by omega)
  refine lv_aload_n hx hb dW_282 rfl (lv_at hl 1 rfl) ?_
  refine lw_callC (rest := []) X hz hW (As := []) dW_283 clL_40 pyX11_foresee (mX11_foresee l f1) ⟨Nat.le_of_ble_eq_true rfl, Nat.le_of_ble_eq_true rfl⟩ rfl ⟨by omega, by omega⟩ rfl (Nat.le_of_ble_eq_true rfl) hl.1 (fun H1 locs1 hW => ?_)
  refine lv_aload_n hx hb dW_286 rfl (lv_at hl 2 rfl) ?_
  refine lw_callM (rest := [.int r]) X hz hW (As := []) dW_287 clL_43 pyX12_foresee (mX12_foresee l f2) ⟨Nat.le_of_ble_eq_true rfl, Nat.le_of_ble_eq_true rfl⟩ rfl ⟨by omega, by omega⟩ rfl (Nat.le_of_ble_eq_true rfl) hl.1 (fun H1 locs1 hW => ?_)
  refine lv_icmp_eq (tgt := 541) hx hb dW_290 (by decide) (fun _ => ?_) (fun h => absurd rfl h)
  exact W.widen (k := cells + 1) (n := slots + 3) (by omega) (by omega) (KC S1 M1 _ _ (REL_mono (by omega) hR1) hW)
theorem lc_ticksToGo (X : Cx p R s m args meth c RL code 4 2048 84000 (fun q : Nat => s.heap.size ≤ q) G rt) (hz : s.heap.size ≤ z) (hX : va_X a0 L xs s s.heap) (hbl : a0 < s.heap.size) (hq : q + 400000 < 2 ^ 31) (hR : REL z (z + 269) q Sc Sm) (hW : LW G z s Sc Sm H locs) (hl : lv_has ls 4 [(0, .ref a0), (1, .ref z), (2, .ref (z + 269)), (3, .int i)]) (i1 : vp_in (i + 1) L) (i2 : vp_in (i + 2) L) (hcs : cells + 1 ≤ R.cells ∧ slots + 3 ≤ R.slots) (KC : ∀ (S1 M1 : HS) (H1 : Heap) (locs1 : List Loc), REL z (z + 269) (q + 360000) S1 M1 → LW G z s S1 M1 H1 locs1 → W p l e R s m args below meth c H1 locs1 (cells + 1) (slots + 3) Q (F0 m 541 ls [])) : W p l e R s m args below meth c H locs cells slots Q (F0 m 295 ls []) := by
  have hx := X.1.1
  have hb := X.1.2.1
  obtain ⟨S1, M1, r, f1, f2, hR1⟩ := x_ticksToGo hR (by omega)
  refine lv_aload_n hx hb dW_295 rfl (lv_at hl 1 rfl) ?_
  refine lw_callC (rest := []) X hz hW (As := []) dW_296 clL_44 pyX11_ticksToGo (mX11_ticksToGo l f1) ⟨Nat.le_of_ble_eq_true rfl, Nat.le_of_ble_eq_true rfl⟩ rfl ⟨by omega, by omega⟩ rfl (Nat.le_of_ble_eq_true rfl) hl.1 (fun H1 locs1 hW => ?_)
  refine lv_aload_n hx hb dW_299 rfl (lv_at hl 2 rfl) ?_
  refine lw_callM (rest := [.int r]) X hz hW (As := []) dW_300 clL_47 pyX12_ticksToGo (mX12_ticksToGo l f2) ⟨Nat.le_of_ble_eq_true rfl, Nat.le_of_ble_eq_true rfl⟩ rfl ⟨by omega, by omega⟩ rfl (Nat.le_of_ble_eq_true rfl) hl.1 (fun H1 locs1 hW => ?_)
  refine lv_icmp_eq (tgt := 541) hx hb dW_303 (by decide) (fun _ => ?_) (fun h => absurd rfl h)
  exact W.widen (k := cells + 1) (n := slots + 3) (by omega) (by omega) (KC S1 M1 _ _ (REL_mono (by omega) hR1) hW)
theorem lc_abort (X : Cx p R s m args meth c RL code 4 2048 84000 (fun q : Nat => s.heap.size ≤ q) G rt) (hz : s.heap.size ≤ z) (hX : va_X a0 L xs s s.heap) (hbl : a0 < s.heap.size) (hq : q + 400000 < 2 ^ 31) (hR : REL z (z + 269) q Sc Sm) (hW : LW G z s Sc Sm H locs) (hl : lv_has ls 4 [(0, .ref a0), (1, .ref z), (2, .ref (z + 269)), (3, .int i)]) (i1 : vp_in (i + 1) L) (i2 : vp_in (i + 2) L) (hcs : cells + 1 ≤ R.cells ∧ slots + 3 ≤ R.slots) (KC : ∀ (S1 M1 : HS) (H1 : Heap) (locs1 : List Loc), REL z (z + 269) (q + 360000) S1 M1 → LW G z s S1 M1 H1 locs1 → W p l e R s m args below meth c H1 locs1 (cells + 1) (slots + 3) Q (F0 m 541 ls [])) : W p l e R s m args below meth c H locs cells slots Q (F0 m 308 ls []) := by
  have hx := X.1.1
  have hb := X.1.2.1
  obtain ⟨S1, M1, r, f1, f2, hR1⟩ := x_abort hR (by omega)
  refine lv_aload_n hx hb dW_308 rfl (lv_at hl 1 rfl) ?_
  refine lw_callC (rest := []) X hz hW (As := []) dW_309 clL_48 pyX11_abort (mX11_abort l f1) ⟨Nat.le_of_ble_eq_true rfl, Nat.le_of_ble_eq_true rfl⟩ rfl ⟨by omega, by omega⟩ rfl (Nat.le_of_ble_eq_true rfl) hl.1 (fun H1 locs1 hW => ?_)
  refine lv_aload_n hx hb dW_312 rfl (lv_at hl 2 rfl) ?_
  refine lw_callM (rest := [.int r]) X hz hW (As := []) dW_313 clL_51 pyX12_abort (mX12_abort l f2) ⟨Nat.le_of_ble_eq_true rfl, Nat.le_of_ble_eq_true rfl⟩ rfl ⟨by omega, by omega⟩ rfl (Nat.le_of_ble_eq_true rfl) hl.1 (fun H1 locs1 hW => ?_)
  refine lv_icmp_eq (tgt := 541) hx hb dW_316 (by decide) (fun _ => ?_) (fun h => absurd rfl h)
  exact W.widen (k := cells + 1) (n := slots + 3) (by omega) (by omega) (KC S1 M1 _ _ (REL_mono (by omega) hR1) hW)
theorem lc_node (X : Cx p R s m args meth c RL code 4 2048 84000 (fun q : Nat => s.heap.size ≤ q) G rt) (hz : s.heap.size ≤ z) (hX : va_X a0 L xs s s.heap) (hbl : a0 < s.heap.size) (hq : q + 400000 < 2 ^ 31) (hR : REL z (z + 269) q Sc Sm) (hW : LW G z s Sc Sm H locs) (hl : lv_has ls 4 [(0, .ref a0), (1, .ref z), (2, .ref (z + 269)), (3, .int i)]) (i1 : vp_in (i + 1) L) (i2 : vp_in (i + 2) L) (hcs : cells + 1 ≤ R.cells ∧ slots + 3 ≤ R.slots) (KC : ∀ (S1 M1 : HS) (H1 : Heap) (locs1 : List Loc), REL z (z + 269) (q + 360000) S1 M1 → LW G z s S1 M1 H1 locs1 → W p l e R s m args below meth c H1 locs1 (cells + 1) (slots + 3) Q (F0 m 541 ls [])) : W p l e R s m args below meth c H locs cells slots Q (F0 m 321 ls []) := by
  have hx := X.1.1
  have hb := X.1.2.1
  obtain ⟨r, f1, f2⟩ := x_node (x := xs (i + 1).toNatClampNeg) (y := xs (i + 2).toNatClampNeg) hR
  refine lv_aload_n hx hb dW_321 rfl (lv_at hl 1 rfl) ?_
  refine lv_aload_n hx hb dW_322 rfl (lv_at hl 0 rfl) ?_
  refine lv_iload_n hx hb dW_323 rfl (lv_at hl 3 rfl) ?_
  refine lv_iconst (v := 1) hx hb dW_324 (by decide) ?_
  refine lv_iadd hx hb dW_325 ?_
  refine va_sld hx hb hX hbl (Nat.not_le.mpr hbl) hW.2.2 i1 dW_326 ?_
  refine lv_aload_n hx hb dW_327 rfl (lv_at hl 0 rfl) ?_
  refine lv_iload_n hx hb dW_328 rfl (lv_at hl 3 rfl) ?_
  refine lv_iconst (v := 2) hx hb dW_329 (by decide) ?_
  refine lv_iadd hx hb dW_330 ?_
  refine va_sld hx hb hX hbl (Nat.not_le.mpr hbl) hW.2.2 i2 dW_331 ?_
  refine lw_callC (rest := []) X hz hW (As := [.int (xs (i + 1).toNatClampNeg), .int (xs (i + 2).toNatClampNeg)]) dW_332 clL_52 pyX11_node (mX11_node l f1) ⟨Nat.le_of_ble_eq_true rfl, Nat.le_of_ble_eq_true rfl⟩ rfl ⟨by omega, by omega⟩ rfl (Nat.le_of_ble_eq_true rfl) hl.1 (fun H1 locs1 hW => ?_)
  refine lv_aload_n hx hb dW_335 rfl (lv_at hl 2 rfl) ?_
  refine lv_aload_n hx hb dW_336 rfl (lv_at hl 0 rfl) ?_
  refine lv_iload_n hx hb dW_337 rfl (lv_at hl 3 rfl) ?_
  refine lv_iconst (v := 1) hx hb dW_338 (by decide) ?_
  refine lv_iadd hx hb dW_339 ?_
  refine va_sld hx hb hX hbl (Nat.not_le.mpr hbl) hW.2.2 i1 dW_340 ?_
  refine lv_aload_n hx hb dW_341 rfl (lv_at hl 0 rfl) ?_
  refine lv_iload_n hx hb dW_342 rfl (lv_at hl 3 rfl) ?_
  refine lv_iconst (v := 2) hx hb dW_343 (by decide) ?_
  refine lv_iadd hx hb dW_344 ?_
  refine va_sld hx hb hX hbl (Nat.not_le.mpr hbl) hW.2.2 i2 dW_345 ?_
  refine lw_callM (rest := [.int r]) X hz hW (As := [.int (xs (i + 1).toNatClampNeg), .int (xs (i + 2).toNatClampNeg)]) dW_346 clL_55 pyX12_node (mX12_node l f2) ⟨Nat.le_of_ble_eq_true rfl, Nat.le_of_ble_eq_true rfl⟩ rfl ⟨by omega, by omega⟩ rfl (Nat.le_of_ble_eq_true rfl) hl.1 (fun H1 locs1 hW => ?_)
  refine lv_icmp_eq (tgt := 541) hx hb dW_349 (by decide) (fun _ => ?_) (fun h => absurd rfl h)
  exact W.widen (k := cells + 1) (n := slots + 3) (by omega) (by omega) (KC Sc Sm _ _ (REL_mono (by omega) hR) hW)
theorem lc_child (X : Cx p R s m args meth c RL code 4 2048 84000 (fun q : Nat => s.heap.size ≤ q) G rt) (hz : s.heap.size ≤ z) (hX : va_X a0 L xs s s.heap) (hbl : a0 < s.heap.size) (hq : q + 400000 < 2 ^ 31) (hR : REL z (z + 269) q Sc Sm) (hW : LW G z s Sc Sm H locs) (hl : lv_has ls 4 [(0, .ref a0), (1, .ref z), (2, .ref (z + 269)), (3, .int i)]) (i1 : vp_in (i + 1) L) (i2 : vp_in (i + 2) L) (hcs : cells + 1 ≤ R.cells ∧ slots + 3 ≤ R.slots) (KC : ∀ (S1 M1 : HS) (H1 : Heap) (locs1 : List Loc), REL z (z + 269) (q + 360000) S1 M1 → LW G z s S1 M1 H1 locs1 → W p l e R s m args below meth c H1 locs1 (cells + 1) (slots + 3) Q (F0 m 541 ls [])) : W p l e R s m args below meth c H locs cells slots Q (F0 m 354 ls []) := by
  have hx := X.1.1
  have hb := X.1.2.1
  obtain ⟨r, f1, f2⟩ := x_child (x := xs (i + 1).toNatClampNeg) (y := xs (i + 2).toNatClampNeg) hR
  refine lv_aload_n hx hb dW_354 rfl (lv_at hl 1 rfl) ?_
  refine lv_aload_n hx hb dW_355 rfl (lv_at hl 0 rfl) ?_
  refine lv_iload_n hx hb dW_356 rfl (lv_at hl 3 rfl) ?_
  refine lv_iconst (v := 1) hx hb dW_357 (by decide) ?_
  refine lv_iadd hx hb dW_358 ?_
  refine va_sld hx hb hX hbl (Nat.not_le.mpr hbl) hW.2.2 i1 dW_359 ?_
  refine lv_aload_n hx hb dW_360 rfl (lv_at hl 0 rfl) ?_
  refine lv_iload_n hx hb dW_361 rfl (lv_at hl 3 rfl) ?_
  refine lv_iconst (v := 2) hx hb dW_362 (by decide) ?_
  refine lv_iadd hx hb dW_363 ?_
  refine va_sld hx hb hX hbl (Nat.not_le.mpr hbl) hW.2.2 i2 dW_364 ?_
  refine lw_callC (rest := []) X hz hW (As := [.int (xs (i + 1).toNatClampNeg), .int (xs (i + 2).toNatClampNeg)]) dW_365 clL_56 pyX11_child (mX11_child l f1) ⟨Nat.le_of_ble_eq_true rfl, Nat.le_of_ble_eq_true rfl⟩ rfl ⟨by omega, by omega⟩ rfl (Nat.le_of_ble_eq_true rfl) hl.1 (fun H1 locs1 hW => ?_)
  refine lv_aload_n hx hb dW_368 rfl (lv_at hl 2 rfl) ?_
  refine lv_aload_n hx hb dW_369 rfl (lv_at hl 0 rfl) ?_
  refine lv_iload_n hx hb dW_370 rfl (lv_at hl 3 rfl) ?_
  refine lv_iconst (v := 1) hx hb dW_371 (by decide) ?_
  refine lv_iadd hx hb dW_372 ?_
  refine va_sld hx hb hX hbl (Nat.not_le.mpr hbl) hW.2.2 i1 dW_373 ?_
  refine lv_aload_n hx hb dW_374 rfl (lv_at hl 0 rfl) ?_
  refine lv_iload_n hx hb dW_375 rfl (lv_at hl 3 rfl) ?_
  refine lv_iconst (v := 2) hx hb dW_376 (by decide) ?_
  refine lv_iadd hx hb dW_377 ?_
  refine va_sld hx hb hX hbl (Nat.not_le.mpr hbl) hW.2.2 i2 dW_378 ?_
  refine lw_callM (rest := [.int r]) X hz hW (As := [.int (xs (i + 1).toNatClampNeg), .int (xs (i + 2).toNatClampNeg)]) dW_379 clL_59 pyX12_child (mX12_child l f2) ⟨Nat.le_of_ble_eq_true rfl, Nat.le_of_ble_eq_true rfl⟩ rfl ⟨by omega, by omega⟩ rfl (Nat.le_of_ble_eq_true rfl) hl.1 (fun H1 locs1 hW => ?_)
  refine lv_icmp_eq (tgt := 541) hx hb dW_382 (by decide) (fun _ => ?_) (fun h => absurd rfl h)
  exact W.widen (k := cells + 1) (n := slots + 3) (by omega) (by omega) (KC Sc Sm _ _ (REL_mono (by omega) hR) hW)
theorem lc_underWay (X : Cx p R s m args meth c RL code 4 2048 84000 (fun q : Nat => s.heap.size ≤ q) G rt) (hz : s.heap.size ≤ z) (hX : va_X a0 L xs s s.heap) (hbl : a0 < s.heap.size) (hq : q + 400000 < 2 ^ 31) (hR : REL z (z + 269) q Sc Sm) (hW : LW G z s Sc Sm H locs) (hl : lv_has ls 4 [(0, .ref a0), (1, .ref z), (2, .ref (z + 269)), (3, .int i)]) (i1 : vp_in (i + 1) L) (i2 : vp_in (i + 2) L) (hcs : cells + 1 ≤ R.cells ∧ slots + 3 ≤ R.slots) (KC : ∀ (S1 M1 : HS) (H1 : Heap) (locs1 : List Loc), REL z (z + 269) (q + 360000) S1 M1 → LW G z s S1 M1 H1 locs1 → W p l e R s m args below meth c H1 locs1 (cells + 1) (slots + 3) Q (F0 m 541 ls [])) : W p l e R s m args below meth c H locs cells slots Q (F0 m 387 ls []) := by
  have hx := X.1.1
  have hb := X.1.2.1
  obtain ⟨r, f1, f2⟩ := x_underWay (x := xs (i + 1).toNatClampNeg) hR
  refine lv_aload_n hx hb dW_387 rfl (lv_at hl 1 rfl) ?_
  refine lv_aload_n hx hb dW_388 rfl (lv_at hl 0 rfl) ?_
  refine lv_iload_n hx hb dW_389 rfl (lv_at hl 3 rfl) ?_
  refine lv_iconst (v := 1) hx hb dW_390 (by decide) ?_
  refine lv_iadd hx hb dW_391 ?_
  refine va_sld hx hb hX hbl (Nat.not_le.mpr hbl) hW.2.2 i1 dW_392 ?_
  refine lw_callC (rest := []) X hz hW (As := [.int (xs (i + 1).toNatClampNeg)]) dW_393 clL_60 pyX11_underWay (mX11_underWay l f1) ⟨Nat.le_of_ble_eq_true rfl, Nat.le_of_ble_eq_true rfl⟩ rfl ⟨by omega, by omega⟩ rfl (Nat.le_of_ble_eq_true rfl) hl.1 (fun H1 locs1 hW => ?_)
  refine lv_aload_n hx hb dW_396 rfl (lv_at hl 2 rfl) ?_
  refine lv_aload_n hx hb dW_397 rfl (lv_at hl 0 rfl) ?_
  refine lv_iload_n hx hb dW_398 rfl (lv_at hl 3 rfl) ?_
  refine lv_iconst (v := 1) hx hb dW_399 (by decide) ?_
  refine lv_iadd hx hb dW_400 ?_
  refine va_sld hx hb hX hbl (Nat.not_le.mpr hbl) hW.2.2 i1 dW_401 ?_
  refine lw_callM (rest := [.int r]) X hz hW (As := [.int (xs (i + 1).toNatClampNeg)]) dW_402 clL_63 pyX12_underWay (mX12_underWay l f2) ⟨Nat.le_of_ble_eq_true rfl, Nat.le_of_ble_eq_true rfl⟩ rfl ⟨by omega, by omega⟩ rfl (Nat.le_of_ble_eq_true rfl) hl.1 (fun H1 locs1 hW => ?_)
  refine lv_icmp_eq (tgt := 541) hx hb dW_405 (by decide) (fun _ => ?_) (fun h => absurd rfl h)
  exact W.widen (k := cells + 1) (n := slots + 3) (by omega) (by omega) (KC Sc Sm _ _ (REL_mono (by omega) hR) hW)
theorem lc_pending (X : Cx p R s m args meth c RL code 4 2048 84000 (fun q : Nat => s.heap.size ≤ q) G rt) (hz : s.heap.size ≤ z) (hX : va_X a0 L xs s s.heap) (hbl : a0 < s.heap.size) (hq : q + 400000 < 2 ^ 31) (hR : REL z (z + 269) q Sc Sm) (hW : LW G z s Sc Sm H locs) (hl : lv_has ls 4 [(0, .ref a0), (1, .ref z), (2, .ref (z + 269)), (3, .int i)]) (i1 : vp_in (i + 1) L) (i2 : vp_in (i + 2) L) (hcs : cells + 1 ≤ R.cells ∧ slots + 3 ≤ R.slots) (KC : ∀ (S1 M1 : HS) (H1 : Heap) (locs1 : List Loc), REL z (z + 269) (q + 360000) S1 M1 → LW G z s S1 M1 H1 locs1 → W p l e R s m args below meth c H1 locs1 (cells + 1) (slots + 3) Q (F0 m 541 ls [])) : W p l e R s m args below meth c H locs cells slots Q (F0 m 410 ls []) := by
  have hx := X.1.1
  have hb := X.1.2.1
  obtain ⟨r, f1, f2⟩ := x_pending hR
  refine lv_aload_n hx hb dW_410 rfl (lv_at hl 1 rfl) ?_
  refine lw_callC (rest := []) X hz hW (As := []) dW_411 clL_64 pyX11_pending (mX11_pending l f1) ⟨Nat.le_of_ble_eq_true rfl, Nat.le_of_ble_eq_true rfl⟩ rfl ⟨by omega, by omega⟩ rfl (Nat.le_of_ble_eq_true rfl) hl.1 (fun H1 locs1 hW => ?_)
  refine lv_aload_n hx hb dW_414 rfl (lv_at hl 2 rfl) ?_
  refine lw_callM (rest := [.int r]) X hz hW (As := []) dW_415 clL_67 pyX12_pending (mX12_pending l f2) ⟨Nat.le_of_ble_eq_true rfl, Nat.le_of_ble_eq_true rfl⟩ rfl ⟨by omega, by omega⟩ rfl (Nat.le_of_ble_eq_true rfl) hl.1 (fun H1 locs1 hW => ?_)
  refine lv_icmp_eq (tgt := 541) hx hb dW_418 (by decide) (fun _ => ?_) (fun h => absurd rfl h)
  exact W.widen (k := cells + 1) (n := slots + 3) (by omega) (by omega) (KC Sc Sm _ _ (REL_mono (by omega) hR) hW)
theorem lc_trace (X : Cx p R s m args meth c RL code 4 2048 84000 (fun q : Nat => s.heap.size ≤ q) G rt) (hz : s.heap.size ≤ z) (hX : va_X a0 L xs s s.heap) (hbl : a0 < s.heap.size) (hq : q + 400000 < 2 ^ 31) (hR : REL z (z + 269) q Sc Sm) (hW : LW G z s Sc Sm H locs) (hl : lv_has ls 4 [(0, .ref a0), (1, .ref z), (2, .ref (z + 269)), (3, .int i)]) (i1 : vp_in (i + 1) L) (i2 : vp_in (i + 2) L) (hcs : cells + 1 ≤ R.cells ∧ slots + 3 ≤ R.slots) (KC : ∀ (S1 M1 : HS) (H1 : Heap) (locs1 : List Loc), REL z (z + 269) (q + 360000) S1 M1 → LW G z s S1 M1 H1 locs1 → W p l e R s m args below meth c H1 locs1 (cells + 1) (slots + 3) Q (F0 m 541 ls [])) : W p l e R s m args below meth c H locs cells slots Q (F0 m 423 ls []) := by
  have hx := X.1.1
  have hb := X.1.2.1
  obtain ⟨r, f1, f2⟩ := x_trace (x := xs (i + 1).toNatClampNeg) (y := xs (i + 2).toNatClampNeg) hR (by omega)
  refine lv_aload_n hx hb dW_423 rfl (lv_at hl 1 rfl) ?_
  refine lv_aload_n hx hb dW_424 rfl (lv_at hl 0 rfl) ?_
  refine lv_iload_n hx hb dW_425 rfl (lv_at hl 3 rfl) ?_
  refine lv_iconst (v := 1) hx hb dW_426 (by decide) ?_
  refine lv_iadd hx hb dW_427 ?_
  refine va_sld hx hb hX hbl (Nat.not_le.mpr hbl) hW.2.2 i1 dW_428 ?_
  refine lv_aload_n hx hb dW_429 rfl (lv_at hl 0 rfl) ?_
  refine lv_iload_n hx hb dW_430 rfl (lv_at hl 3 rfl) ?_
  refine lv_iconst (v := 2) hx hb dW_431 (by decide) ?_
  refine lv_iadd hx hb dW_432 ?_
  refine va_sld hx hb hX hbl (Nat.not_le.mpr hbl) hW.2.2 i2 dW_433 ?_
  refine lw_callC (rest := []) X hz hW (As := [.int (xs (i + 1).toNatClampNeg), .int (xs (i + 2).toNatClampNeg)]) dW_434 clL_68 pyX11_trace (mX11_trace l f1) ⟨Nat.le_of_ble_eq_true rfl, Nat.le_of_ble_eq_true rfl⟩ rfl ⟨by omega, by omega⟩ rfl (Nat.le_of_ble_eq_true rfl) hl.1 (fun H1 locs1 hW => ?_)
  refine lv_aload_n hx hb dW_437 rfl (lv_at hl 2 rfl) ?_
  refine lv_aload_n hx hb dW_438 rfl (lv_at hl 0 rfl) ?_
  refine lv_iload_n hx hb dW_439 rfl (lv_at hl 3 rfl) ?_
  refine lv_iconst (v := 1) hx hb dW_440 (by decide) ?_
  refine lv_iadd hx hb dW_441 ?_
  refine va_sld hx hb hX hbl (Nat.not_le.mpr hbl) hW.2.2 i1 dW_442 ?_
  refine lv_aload_n hx hb dW_443 rfl (lv_at hl 0 rfl) ?_
  refine lv_iload_n hx hb dW_444 rfl (lv_at hl 3 rfl) ?_
  refine lv_iconst (v := 2) hx hb dW_445 (by decide) ?_
  refine lv_iadd hx hb dW_446 ?_
  refine va_sld hx hb hX hbl (Nat.not_le.mpr hbl) hW.2.2 i2 dW_447 ?_
  refine lw_callM (rest := [.int r]) X hz hW (As := [.int (xs (i + 1).toNatClampNeg), .int (xs (i + 2).toNatClampNeg)]) dW_448 clL_71 pyX12_trace (mX12_trace l f2) ⟨Nat.le_of_ble_eq_true rfl, Nat.le_of_ble_eq_true rfl⟩ rfl ⟨by omega, by omega⟩ rfl (Nat.le_of_ble_eq_true rfl) hl.1 (fun H1 locs1 hW => ?_)
  refine lv_icmp_eq (tgt := 541) hx hb dW_451 (by decide) (fun _ => ?_) (fun h => absurd rfl h)
  exact W.widen (k := cells + 1) (n := slots + 3) (by omega) (by omega) (KC Sc Sm _ _ (REL_mono (by omega) hR) hW)
theorem lc_count (X : Cx p R s m args meth c RL code 4 2048 84000 (fun q : Nat => s.heap.size ≤ q) G rt) (hz : s.heap.size ≤ z) (hX : va_X a0 L xs s s.heap) (hbl : a0 < s.heap.size) (hq : q + 400000 < 2 ^ 31) (hR : REL z (z + 269) q Sc Sm) (hW : LW G z s Sc Sm H locs) (hl : lv_has ls 4 [(0, .ref a0), (1, .ref z), (2, .ref (z + 269)), (3, .int i)]) (i1 : vp_in (i + 1) L) (i2 : vp_in (i + 2) L) (hcs : cells + 1 ≤ R.cells ∧ slots + 3 ≤ R.slots) (KC : ∀ (S1 M1 : HS) (H1 : Heap) (locs1 : List Loc), REL z (z + 269) (q + 360000) S1 M1 → LW G z s S1 M1 H1 locs1 → W p l e R s m args below meth c H1 locs1 (cells + 1) (slots + 3) Q (F0 m 541 ls [])) : W p l e R s m args below meth c H locs cells slots Q (F0 m 456 ls []) := by
  have hx := X.1.1
  have hb := X.1.2.1
  obtain ⟨r, f1, f2⟩ := x_count (x := xs (i + 1).toNatClampNeg) hR (by omega)
  refine lv_aload_n hx hb dW_456 rfl (lv_at hl 1 rfl) ?_
  refine lv_aload_n hx hb dW_457 rfl (lv_at hl 0 rfl) ?_
  refine lv_iload_n hx hb dW_458 rfl (lv_at hl 3 rfl) ?_
  refine lv_iconst (v := 1) hx hb dW_459 (by decide) ?_
  refine lv_iadd hx hb dW_460 ?_
  refine va_sld hx hb hX hbl (Nat.not_le.mpr hbl) hW.2.2 i1 dW_461 ?_
  refine lw_callC (rest := []) X hz hW (As := [.int (xs (i + 1).toNatClampNeg)]) dW_462 clL_72 pyX11_count (mX11_count l f1) ⟨Nat.le_of_ble_eq_true rfl, Nat.le_of_ble_eq_true rfl⟩ rfl ⟨by omega, by omega⟩ rfl (Nat.le_of_ble_eq_true rfl) hl.1 (fun H1 locs1 hW => ?_)
  refine lv_aload_n hx hb dW_465 rfl (lv_at hl 2 rfl) ?_
  refine lv_aload_n hx hb dW_466 rfl (lv_at hl 0 rfl) ?_
  refine lv_iload_n hx hb dW_467 rfl (lv_at hl 3 rfl) ?_
  refine lv_iconst (v := 1) hx hb dW_468 (by decide) ?_
  refine lv_iadd hx hb dW_469 ?_
  refine va_sld hx hb hX hbl (Nat.not_le.mpr hbl) hW.2.2 i1 dW_470 ?_
  refine lw_callM (rest := [.int r]) X hz hW (As := [.int (xs (i + 1).toNatClampNeg)]) dW_471 clL_75 pyX12_count (mX12_count l f2) ⟨Nat.le_of_ble_eq_true rfl, Nat.le_of_ble_eq_true rfl⟩ rfl ⟨by omega, by omega⟩ rfl (Nat.le_of_ble_eq_true rfl) hl.1 (fun H1 locs1 hW => ?_)
  refine lv_icmp_eq (tgt := 541) hx hb dW_474 (by decide) (fun _ => ?_) (fun h => absurd rfl h)
  exact W.widen (k := cells + 1) (n := slots + 3) (by omega) (by omega) (KC Sc Sm _ _ (REL_mono (by omega) hR) hW)
theorem lc_write (X : Cx p R s m args meth c RL code 4 2048 84000 (fun q : Nat => s.heap.size ≤ q) G rt) (hz : s.heap.size ≤ z) (hX : va_X a0 L xs s s.heap) (hbl : a0 < s.heap.size) (hq : q + 400000 < 2 ^ 31) (hR : REL z (z + 269) q Sc Sm) (hW : LW G z s Sc Sm H locs) (hl : lv_has ls 4 [(0, .ref a0), (1, .ref z), (2, .ref (z + 269)), (3, .int i)]) (i1 : vp_in (i + 1) L) (i2 : vp_in (i + 2) L) (hcs : cells + 1 ≤ R.cells ∧ slots + 3 ≤ R.slots) (KC : ∀ (S1 M1 : HS) (H1 : Heap) (locs1 : List Loc), REL z (z + 269) (q + 360000) S1 M1 → LW G z s S1 M1 H1 locs1 → W p l e R s m args below meth c H1 locs1 (cells + 1) (slots + 3) Q (F0 m 541 ls [])) : W p l e R s m args below meth c H locs cells slots Q (F0 m 479 ls []) := by
  have hx := X.1.1
  have hb := X.1.2.1
  obtain ⟨S1, S2, M1, Y1, N1, r, f1, f2, hR1, hag, -, -, -, -, hlay⟩ := x_write hR (N := (H.size, 0)) (lw_szc hW)
  refine lv_aload_n hx hb dW_479 rfl (lv_at hl 1 rfl) ?_
  refine lw_callA (rest := []) X hz hW (As := []) dW_480 clL_76 pyX11_write (mX11_write l f1) hag hlay ⟨Nat.le_of_ble_eq_true rfl, Nat.le_of_ble_eq_true rfl⟩ rfl ⟨by omega, by omega⟩ rfl (Nat.le_of_ble_eq_true rfl) hl.1 (fun H1 locs1 hW => ?_)
  refine lv_aload_n hx hb dW_483 rfl (lv_at hl 2 rfl) ?_
  refine lw_callM (rest := [.int r]) X hz hW (As := []) dW_484 clL_79 pyX12_write (mX12_write l f2) ⟨Nat.le_of_ble_eq_true rfl, Nat.le_of_ble_eq_true rfl⟩ rfl ⟨by omega, by omega⟩ rfl (Nat.le_of_ble_eq_true rfl) hl.1 (fun H1 locs1 hW => ?_)
  refine lv_icmp_eq (tgt := 541) hx hb dW_487 (by decide) (fun _ => ?_) (fun h => absurd rfl h)
  exact W.widen (k := cells + 1) (n := slots + 3) (by omega) (by omega) (KC S2 M1 _ _ (REL_mono (by omega) hR1) hW)
theorem lc_written (X : Cx p R s m args meth c RL code 4 2048 84000 (fun q : Nat => s.heap.size ≤ q) G rt) (hz : s.heap.size ≤ z) (hX : va_X a0 L xs s s.heap) (hbl : a0 < s.heap.size) (hq : q + 400000 < 2 ^ 31) (hR : REL z (z + 269) q Sc Sm) (hW : LW G z s Sc Sm H locs) (hl : lv_has ls 4 [(0, .ref a0), (1, .ref z), (2, .ref (z + 269)), (3, .int i)]) (i1 : vp_in (i + 1) L) (i2 : vp_in (i + 2) L) (hcs : cells + 1 ≤ R.cells ∧ slots + 3 ≤ R.slots) (KC : ∀ (S1 M1 : HS) (H1 : Heap) (locs1 : List Loc), REL z (z + 269) (q + 360000) S1 M1 → LW G z s S1 M1 H1 locs1 → W p l e R s m args below meth c H1 locs1 (cells + 1) (slots + 3) Q (F0 m 541 ls [])) : W p l e R s m args below meth c H locs cells slots Q (F0 m 492 ls []) := by
  have hx := X.1.1
  have hb := X.1.2.1
  obtain ⟨r, f1, f2⟩ := x_written (x := xs (i + 1).toNatClampNeg) hR
  refine lv_aload_n hx hb dW_492 rfl (lv_at hl 1 rfl) ?_
  refine lv_aload_n hx hb dW_493 rfl (lv_at hl 0 rfl) ?_
  refine lv_iload_n hx hb dW_494 rfl (lv_at hl 3 rfl) ?_
  refine lv_iconst (v := 1) hx hb dW_495 (by decide) ?_
  refine lv_iadd hx hb dW_496 ?_
  refine va_sld hx hb hX hbl (Nat.not_le.mpr hbl) hW.2.2 i1 dW_497 ?_
  refine lw_callC (rest := []) X hz hW (As := [.int (xs (i + 1).toNatClampNeg)]) dW_498 clL_80 pyX11_written (mX11_written l f1) ⟨Nat.le_of_ble_eq_true rfl, Nat.le_of_ble_eq_true rfl⟩ rfl ⟨by omega, by omega⟩ rfl (Nat.le_of_ble_eq_true rfl) hl.1 (fun H1 locs1 hW => ?_)
  refine lv_aload_n hx hb dW_501 rfl (lv_at hl 2 rfl) ?_
  refine lv_aload_n hx hb dW_502 rfl (lv_at hl 0 rfl) ?_
  refine lv_iload_n hx hb dW_503 rfl (lv_at hl 3 rfl) ?_
  refine lv_iconst (v := 1) hx hb dW_504 (by decide) ?_
  refine lv_iadd hx hb dW_505 ?_
  refine va_sld hx hb hX hbl (Nat.not_le.mpr hbl) hW.2.2 i1 dW_506 ?_
  refine lw_callM (rest := [.int r]) X hz hW (As := [.int (xs (i + 1).toNatClampNeg)]) dW_507 clL_83 pyX12_written (mX12_written l f2) ⟨Nat.le_of_ble_eq_true rfl, Nat.le_of_ble_eq_true rfl⟩ rfl ⟨by omega, by omega⟩ rfl (Nat.le_of_ble_eq_true rfl) hl.1 (fun H1 locs1 hW => ?_)
  refine lv_icmp_eq (tgt := 541) hx hb dW_510 (by decide) (fun _ => ?_) (fun h => absurd rfl h)
  exact W.widen (k := cells + 1) (n := slots + 3) (by omega) (by omega) (KC Sc Sm _ _ (REL_mono (by omega) hR) hW)
theorem lc_save (X : Cx p R s m args meth c RL code 4 2048 84000 (fun q : Nat => s.heap.size ≤ q) G rt) (hz : s.heap.size ≤ z) (hX : va_X a0 L xs s s.heap) (hbl : a0 < s.heap.size) (hq : q + 400000 < 2 ^ 31) (hR : REL z (z + 269) q Sc Sm) (hW : LW G z s Sc Sm H locs) (hl : lv_has ls 4 [(0, .ref a0), (1, .ref z), (2, .ref (z + 269)), (3, .int i)]) (i1 : vp_in (i + 1) L) (i2 : vp_in (i + 2) L) (hcs : cells + 1 ≤ R.cells ∧ slots + 3 ≤ R.slots) (KC : ∀ (S1 M1 : HS) (H1 : Heap) (locs1 : List Loc), REL z (z + 269) (q + 360000) S1 M1 → LW G z s S1 M1 H1 locs1 → W p l e R s m args below meth c H1 locs1 (cells + 1) (slots + 3) Q (F0 m 541 ls [])) : W p l e R s m args below meth c H locs cells slots Q (F0 m 515 ls []) := by
  have hx := X.1.1
  have hb := X.1.2.1
  obtain ⟨S1, M1, r, f1, f2, hR1⟩ := x_save hR
  refine lv_aload_n hx hb dW_515 rfl (lv_at hl 1 rfl) ?_
  refine lw_callC (rest := []) X hz hW (As := []) dW_516 clL_84 pyX11_save (mX11_save l f1) ⟨Nat.le_of_ble_eq_true rfl, Nat.le_of_ble_eq_true rfl⟩ rfl ⟨by omega, by omega⟩ rfl (Nat.le_of_ble_eq_true rfl) hl.1 (fun H1 locs1 hW => ?_)
  refine lv_aload_n hx hb dW_519 rfl (lv_at hl 2 rfl) ?_
  refine lw_callM (rest := [.int r]) X hz hW (As := []) dW_520 clL_87 pyX12_save (mX12_save l f2) ⟨Nat.le_of_ble_eq_true rfl, Nat.le_of_ble_eq_true rfl⟩ rfl ⟨by omega, by omega⟩ rfl (Nat.le_of_ble_eq_true rfl) hl.1 (fun H1 locs1 hW => ?_)
  refine lv_icmp_eq (tgt := 541) hx hb dW_523 (by decide) (fun _ => ?_) (fun h => absurd rfl h)
  exact W.widen (k := cells + 1) (n := slots + 3) (by omega) (by omega) (KC S1 M1 _ _ (REL_mono (by omega) hR1) hW)
theorem lc_restore (X : Cx p R s m args meth c RL code 4 2048 84000 (fun q : Nat => s.heap.size ≤ q) G rt) (hz : s.heap.size ≤ z) (hX : va_X a0 L xs s s.heap) (hbl : a0 < s.heap.size) (hq : q + 400000 < 2 ^ 31) (hR : REL z (z + 269) q Sc Sm) (hW : LW G z s Sc Sm H locs) (hl : lv_has ls 4 [(0, .ref a0), (1, .ref z), (2, .ref (z + 269)), (3, .int i)]) (i1 : vp_in (i + 1) L) (i2 : vp_in (i + 2) L) (hcs : cells + 1 ≤ R.cells ∧ slots + 3 ≤ R.slots) (KC : ∀ (S1 M1 : HS) (H1 : Heap) (locs1 : List Loc), REL z (z + 269) (q + 360000) S1 M1 → LW G z s S1 M1 H1 locs1 → W p l e R s m args below meth c H1 locs1 (cells + 1) (slots + 3) Q (F0 m 541 ls [])) : W p l e R s m args below meth c H locs cells slots Q (F0 m 528 ls []) := by
  have hx := X.1.1
  have hb := X.1.2.1
  obtain ⟨S1, M1, r, f1, f2, hR1⟩ := x_restore hR
  refine lv_aload_n hx hb dW_528 rfl (lv_at hl 1 rfl) ?_
  refine lw_callC (rest := []) X hz hW (As := []) dW_529 clL_88 pyX11_restore (mX11_restore l f1) ⟨Nat.le_of_ble_eq_true rfl, Nat.le_of_ble_eq_true rfl⟩ rfl ⟨by omega, by omega⟩ rfl (Nat.le_of_ble_eq_true rfl) hl.1 (fun H1 locs1 hW => ?_)
  refine lv_aload_n hx hb dW_532 rfl (lv_at hl 2 rfl) ?_
  refine lw_callM (rest := [.int r]) X hz hW (As := []) dW_533 clL_91 pyX12_restore (mX12_restore l f2) ⟨Nat.le_of_ble_eq_true rfl, Nat.le_of_ble_eq_true rfl⟩ rfl ⟨by omega, by omega⟩ rfl (Nat.le_of_ble_eq_true rfl) hl.1 (fun H1 locs1 hW => ?_)
  refine lv_icmp_eq (tgt := 541) hx hb dW_536 (by decide) (fun _ => ?_) (fun h => absurd rfl h)
  exact W.widen (k := cells + 1) (n := slots + 3) (by omega) (by omega) (KC S1 M1 _ _ (REL_mono (by omega) hR1) hW)
end LAWR
