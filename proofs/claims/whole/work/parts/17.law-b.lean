theorem dL_law_0 : decode cL_law 0 = .ok (.new 7, 3) := by decide +kernel
theorem dL_law_3 : decode cL_law 3 = .ok (.dup, 1) := by decide +kernel
theorem dL_law_4 : decode cL_law 4 = .ok (.invokespecial 9, 3) := by decide +kernel
theorem dL_law_7 : decode cL_law 7 = .ok (.astore_n 1, 1) := by decide +kernel
theorem dL_law_8 : decode cL_law 8 = .ok (.new 10, 3) := by decide +kernel
theorem dL_law_11 : decode cL_law 11 = .ok (.dup, 1) := by decide +kernel
theorem dL_law_12 : decode cL_law 12 = .ok (.invokespecial 12, 3) := by decide +kernel
theorem dL_law_15 : decode cL_law 15 = .ok (.astore_n 2, 1) := by decide +kernel
theorem dL_law_16 : decode cL_law 16 = .ok (.iconst 0, 1) := by decide +kernel
theorem dL_law_17 : decode cL_law 17 = .ok (.istore_n 3, 1) := by decide +kernel
theorem dL_law_18 : decode cL_law 18 = .ok (.iload_n 3, 1) := by decide +kernel
theorem dL_law_19 : decode cL_law 19 = .ok (.aload_n 0, 1) := by decide +kernel
theorem dL_law_20 : decode cL_law 20 = .ok (.arraylength, 1) := by decide +kernel
theorem dL_law_21 : decode cL_law 21 = .ok (.iconst 5, 1) := by decide +kernel
theorem dL_law_22 : decode cL_law 22 = .ok (.isub, 1) := by decide +kernel
theorem dL_law_23 : decode cL_law 23 = .ok (.if_icmp .gt 965, 3) := by decide +kernel
theorem dL_law_26 : decode cL_law 26 = .ok (.aload_n 0, 1) := by decide +kernel
theorem dL_law_27 : decode cL_law 27 = .ok (.iload_n 3, 1) := by decide +kernel
theorem dL_law_28 : decode cL_law 28 = .ok (.iaload, 1) := by decide +kernel
theorem dL_law_29 : decode cL_law 29 = .ok (.bipush 31, 2) := by decide +kernel
theorem dL_law_31 : decode cL_law 31 = .ok (.iand, 1) := by decide +kernel
theorem dL_law_32 : decode cL_law 32 = .ok (.tableswitch 950 0 25 #[120, 183, 196, 229, 252, 305, 338, 381, 424, 457, 500, 533, 556, 579, 602, 636, 680, 713, 736, 779, 802, 845, 868, 901, 914, 927], 120) := by decide +kernel
theorem dL_law_152 : decode cL_law 152 = .ok (.aload_n 1, 1) := by decide +kernel
theorem dL_law_153 : decode cL_law 153 = .ok (.aload_n 0, 1) := by decide +kernel
theorem dL_law_154 : decode cL_law 154 = .ok (.iload_n 3, 1) := by decide +kernel
theorem dL_law_155 : decode cL_law 155 = .ok (.iconst 1, 1) := by decide +kernel
theorem dL_law_156 : decode cL_law 156 = .ok (.iadd, 1) := by decide +kernel
theorem dL_law_157 : decode cL_law 157 = .ok (.iaload, 1) := by decide +kernel
theorem dL_law_158 : decode cL_law 158 = .ok (.i2l, 1) := by decide +kernel
theorem dL_law_159 : decode cL_law 159 = .ok (.bipush 32, 2) := by decide +kernel
theorem dL_law_161 : decode cL_law 161 = .ok (.lshl, 1) := by decide +kernel
theorem dL_law_162 : decode cL_law 162 = .ok (.aload_n 0, 1) := by decide +kernel
theorem dL_law_163 : decode cL_law 163 = .ok (.iload_n 3, 1) := by decide +kernel
theorem dL_law_164 : decode cL_law 164 = .ok (.iconst 2, 1) := by decide +kernel
theorem dL_law_165 : decode cL_law 165 = .ok (.iadd, 1) := by decide +kernel
theorem dL_law_166 : decode cL_law 166 = .ok (.iaload, 1) := by decide +kernel
theorem dL_law_167 : decode cL_law 167 = .ok (.i2l, 1) := by decide +kernel
theorem dL_law_168 : decode cL_law 168 = .ok (.ldc2_w 13, 3) := by decide +kernel
theorem dL_law_171 : decode cL_law 171 = .ok (.land, 1) := by decide +kernel
theorem dL_law_172 : decode cL_law 172 = .ok (.lor, 1) := by decide +kernel
theorem dL_law_173 : decode cL_law 173 = .ok (.aload_n 0, 1) := by decide +kernel
theorem dL_law_174 : decode cL_law 174 = .ok (.iload_n 3, 1) := by decide +kernel
theorem dL_law_175 : decode cL_law 175 = .ok (.iconst 3, 1) := by decide +kernel
theorem dL_law_176 : decode cL_law 176 = .ok (.iadd, 1) := by decide +kernel
theorem dL_law_177 : decode cL_law 177 = .ok (.iaload, 1) := by decide +kernel
theorem dL_law_178 : decode cL_law 178 = .ok (.invokevirtual 15, 3) := by decide +kernel
theorem dL_law_181 : decode cL_law 181 = .ok (.aload_n 2, 1) := by decide +kernel
theorem dL_law_182 : decode cL_law 182 = .ok (.aload_n 0, 1) := by decide +kernel
theorem dL_law_183 : decode cL_law 183 = .ok (.iload_n 3, 1) := by decide +kernel
theorem dL_law_184 : decode cL_law 184 = .ok (.iconst 1, 1) := by decide +kernel
theorem dL_law_185 : decode cL_law 185 = .ok (.iadd, 1) := by decide +kernel
theorem dL_law_186 : decode cL_law 186 = .ok (.iaload, 1) := by decide +kernel
theorem dL_law_187 : decode cL_law 187 = .ok (.i2l, 1) := by decide +kernel
theorem dL_law_188 : decode cL_law 188 = .ok (.bipush 32, 2) := by decide +kernel
theorem dL_law_190 : decode cL_law 190 = .ok (.lshl, 1) := by decide +kernel
theorem dL_law_191 : decode cL_law 191 = .ok (.aload_n 0, 1) := by decide +kernel
theorem dL_law_192 : decode cL_law 192 = .ok (.iload_n 3, 1) := by decide +kernel
theorem dL_law_193 : decode cL_law 193 = .ok (.iconst 2, 1) := by decide +kernel
theorem dL_law_194 : decode cL_law 194 = .ok (.iadd, 1) := by decide +kernel
theorem dL_law_195 : decode cL_law 195 = .ok (.iaload, 1) := by decide +kernel
theorem dL_law_196 : decode cL_law 196 = .ok (.i2l, 1) := by decide +kernel
theorem dL_law_197 : decode cL_law 197 = .ok (.ldc2_w 13, 3) := by decide +kernel
theorem dL_law_200 : decode cL_law 200 = .ok (.land, 1) := by decide +kernel
theorem dL_law_201 : decode cL_law 201 = .ok (.lor, 1) := by decide +kernel
theorem dL_law_202 : decode cL_law 202 = .ok (.aload_n 0, 1) := by decide +kernel
theorem dL_law_203 : decode cL_law 203 = .ok (.iload_n 3, 1) := by decide +kernel
theorem dL_law_204 : decode cL_law 204 = .ok (.iconst 3, 1) := by decide +kernel
theorem dL_law_205 : decode cL_law 205 = .ok (.iadd, 1) := by decide +kernel
theorem dL_law_206 : decode cL_law 206 = .ok (.iaload, 1) := by decide +kernel
theorem dL_law_207 : decode cL_law 207 = .ok (.invokevirtual 19, 3) := by decide +kernel
theorem dL_law_210 : decode cL_law 210 = .ok (.if_icmp .eq 772, 3) := by decide +kernel
theorem dL_law_213 : decode cL_law 213 = .ok (.iconst 0, 1) := by decide +kernel
theorem dL_law_214 : decode cL_law 214 = .ok (.ireturn, 1) := by decide +kernel
theorem dL_law_215 : decode cL_law 215 = .ok (.aload_n 1, 1) := by decide +kernel
theorem dL_law_216 : decode cL_law 216 = .ok (.invokevirtual 20, 3) := by decide +kernel
theorem dL_law_219 : decode cL_law 219 = .ok (.aload_n 2, 1) := by decide +kernel
theorem dL_law_220 : decode cL_law 220 = .ok (.invokevirtual 24, 3) := by decide +kernel
theorem dL_law_223 : decode cL_law 223 = .ok (.if_icmp .eq 759, 3) := by decide +kernel
theorem dL_law_226 : decode cL_law 226 = .ok (.iconst 0, 1) := by decide +kernel
theorem dL_law_227 : decode cL_law 227 = .ok (.ireturn, 1) := by decide +kernel
theorem dL_law_228 : decode cL_law 228 = .ok (.aload_n 1, 1) := by decide +kernel
theorem dL_law_229 : decode cL_law 229 = .ok (.aload_n 0, 1) := by decide +kernel
theorem dL_law_230 : decode cL_law 230 = .ok (.iload_n 3, 1) := by decide +kernel
theorem dL_law_231 : decode cL_law 231 = .ok (.iconst 1, 1) := by decide +kernel
theorem dL_law_232 : decode cL_law 232 = .ok (.iadd, 1) := by decide +kernel
theorem dL_law_233 : decode cL_law 233 = .ok (.iaload, 1) := by decide +kernel
theorem dL_law_234 : decode cL_law 234 = .ok (.aload_n 0, 1) := by decide +kernel
theorem dL_law_235 : decode cL_law 235 = .ok (.iload_n 3, 1) := by decide +kernel
theorem dL_law_236 : decode cL_law 236 = .ok (.iconst 2, 1) := by decide +kernel
theorem dL_law_237 : decode cL_law 237 = .ok (.iadd, 1) := by decide +kernel
theorem dL_law_238 : decode cL_law 238 = .ok (.iaload, 1) := by decide +kernel
theorem dL_law_239 : decode cL_law 239 = .ok (.invokevirtual 25, 3) := by decide +kernel
theorem dL_law_242 : decode cL_law 242 = .ok (.aload_n 2, 1) := by decide +kernel
theorem dL_law_243 : decode cL_law 243 = .ok (.aload_n 0, 1) := by decide +kernel
theorem dL_law_244 : decode cL_law 244 = .ok (.iload_n 3, 1) := by decide +kernel
theorem dL_law_245 : decode cL_law 245 = .ok (.iconst 1, 1) := by decide +kernel
theorem dL_law_246 : decode cL_law 246 = .ok (.iadd, 1) := by decide +kernel
theorem dL_law_247 : decode cL_law 247 = .ok (.iaload, 1) := by decide +kernel
theorem dL_law_248 : decode cL_law 248 = .ok (.aload_n 0, 1) := by decide +kernel
theorem dL_law_249 : decode cL_law 249 = .ok (.iload_n 3, 1) := by decide +kernel
theorem dL_law_250 : decode cL_law 250 = .ok (.iconst 2, 1) := by decide +kernel
theorem dL_law_251 : decode cL_law 251 = .ok (.iadd, 1) := by decide +kernel
theorem dL_law_252 : decode cL_law 252 = .ok (.iaload, 1) := by decide +kernel
theorem dL_law_253 : decode cL_law 253 = .ok (.invokevirtual 29, 3) := by decide +kernel
theorem dL_law_256 : decode cL_law 256 = .ok (.if_icmp .eq 726, 3) := by decide +kernel
theorem dL_law_259 : decode cL_law 259 = .ok (.iconst 0, 1) := by decide +kernel
theorem dL_law_260 : decode cL_law 260 = .ok (.ireturn, 1) := by decide +kernel
theorem dL_law_261 : decode cL_law 261 = .ok (.aload_n 1, 1) := by decide +kernel
theorem dL_law_262 : decode cL_law 262 = .ok (.aload_n 0, 1) := by decide +kernel
theorem dL_law_263 : decode cL_law 263 = .ok (.iload_n 3, 1) := by decide +kernel
theorem dL_law_264 : decode cL_law 264 = .ok (.iconst 1, 1) := by decide +kernel
theorem dL_law_265 : decode cL_law 265 = .ok (.iadd, 1) := by decide +kernel
theorem dL_law_266 : decode cL_law 266 = .ok (.iaload, 1) := by decide +kernel
theorem dL_law_267 : decode cL_law 267 = .ok (.invokevirtual 30, 3) := by decide +kernel
theorem dL_law_270 : decode cL_law 270 = .ok (.aload_n 2, 1) := by decide +kernel
theorem dL_law_271 : decode cL_law 271 = .ok (.aload_n 0, 1) := by decide +kernel
theorem dL_law_272 : decode cL_law 272 = .ok (.iload_n 3, 1) := by decide +kernel
theorem dL_law_273 : decode cL_law 273 = .ok (.iconst 1, 1) := by decide +kernel
theorem dL_law_274 : decode cL_law 274 = .ok (.iadd, 1) := by decide +kernel
theorem dL_law_275 : decode cL_law 275 = .ok (.iaload, 1) := by decide +kernel
theorem dL_law_276 : decode cL_law 276 = .ok (.invokevirtual 34, 3) := by decide +kernel
theorem dL_law_279 : decode cL_law 279 = .ok (.if_icmp .eq 703, 3) := by decide +kernel
theorem dL_law_282 : decode cL_law 282 = .ok (.iconst 0, 1) := by decide +kernel
theorem dL_law_283 : decode cL_law 283 = .ok (.ireturn, 1) := by decide +kernel
theorem dL_law_284 : decode cL_law 284 = .ok (.aload_n 1, 1) := by decide +kernel
theorem dL_law_285 : decode cL_law 285 = .ok (.aload_n 0, 1) := by decide +kernel
theorem dL_law_286 : decode cL_law 286 = .ok (.iload_n 3, 1) := by decide +kernel
theorem dL_law_287 : decode cL_law 287 = .ok (.iconst 1, 1) := by decide +kernel
theorem dL_law_288 : decode cL_law 288 = .ok (.iadd, 1) := by decide +kernel
theorem dL_law_289 : decode cL_law 289 = .ok (.iaload, 1) := by decide +kernel
theorem dL_law_290 : decode cL_law 290 = .ok (.aload_n 0, 1) := by decide +kernel
theorem dL_law_291 : decode cL_law 291 = .ok (.iload_n 3, 1) := by decide +kernel
theorem dL_law_292 : decode cL_law 292 = .ok (.iconst 2, 1) := by decide +kernel
theorem dL_law_293 : decode cL_law 293 = .ok (.iadd, 1) := by decide +kernel
theorem dL_law_294 : decode cL_law 294 = .ok (.iaload, 1) := by decide +kernel
theorem dL_law_295 : decode cL_law 295 = .ok (.aload_n 0, 1) := by decide +kernel
theorem dL_law_296 : decode cL_law 296 = .ok (.iload_n 3, 1) := by decide +kernel
theorem dL_law_297 : decode cL_law 297 = .ok (.iconst 3, 1) := by decide +kernel
theorem dL_law_298 : decode cL_law 298 = .ok (.iadd, 1) := by decide +kernel
theorem dL_law_299 : decode cL_law 299 = .ok (.iaload, 1) := by decide +kernel
theorem dL_law_300 : decode cL_law 300 = .ok (.aload_n 0, 1) := by decide +kernel
theorem dL_law_301 : decode cL_law 301 = .ok (.iload_n 3, 1) := by decide +kernel
theorem dL_law_302 : decode cL_law 302 = .ok (.iconst 4, 1) := by decide +kernel
theorem dL_law_303 : decode cL_law 303 = .ok (.iadd, 1) := by decide +kernel
theorem dL_law_304 : decode cL_law 304 = .ok (.iaload, 1) := by decide +kernel
theorem dL_law_305 : decode cL_law 305 = .ok (.invokevirtual 35, 3) := by decide +kernel
theorem dL_law_308 : decode cL_law 308 = .ok (.aload_n 2, 1) := by decide +kernel
theorem dL_law_309 : decode cL_law 309 = .ok (.aload_n 0, 1) := by decide +kernel
theorem dL_law_310 : decode cL_law 310 = .ok (.iload_n 3, 1) := by decide +kernel
theorem dL_law_311 : decode cL_law 311 = .ok (.iconst 1, 1) := by decide +kernel
theorem dL_law_312 : decode cL_law 312 = .ok (.iadd, 1) := by decide +kernel
theorem dL_law_313 : decode cL_law 313 = .ok (.iaload, 1) := by decide +kernel
theorem dL_law_314 : decode cL_law 314 = .ok (.aload_n 0, 1) := by decide +kernel
theorem dL_law_315 : decode cL_law 315 = .ok (.iload_n 3, 1) := by decide +kernel
theorem dL_law_316 : decode cL_law 316 = .ok (.iconst 2, 1) := by decide +kernel
theorem dL_law_317 : decode cL_law 317 = .ok (.iadd, 1) := by decide +kernel
theorem dL_law_318 : decode cL_law 318 = .ok (.iaload, 1) := by decide +kernel
theorem dL_law_319 : decode cL_law 319 = .ok (.aload_n 0, 1) := by decide +kernel
theorem dL_law_320 : decode cL_law 320 = .ok (.iload_n 3, 1) := by decide +kernel
theorem dL_law_321 : decode cL_law 321 = .ok (.iconst 3, 1) := by decide +kernel
theorem dL_law_322 : decode cL_law 322 = .ok (.iadd, 1) := by decide +kernel
theorem dL_law_323 : decode cL_law 323 = .ok (.iaload, 1) := by decide +kernel
theorem dL_law_324 : decode cL_law 324 = .ok (.aload_n 0, 1) := by decide +kernel
theorem dL_law_325 : decode cL_law 325 = .ok (.iload_n 3, 1) := by decide +kernel
theorem dL_law_326 : decode cL_law 326 = .ok (.iconst 4, 1) := by decide +kernel
theorem dL_law_327 : decode cL_law 327 = .ok (.iadd, 1) := by decide +kernel
theorem dL_law_328 : decode cL_law 328 = .ok (.iaload, 1) := by decide +kernel
theorem dL_law_329 : decode cL_law 329 = .ok (.invokevirtual 39, 3) := by decide +kernel
theorem dL_law_332 : decode cL_law 332 = .ok (.if_icmp .eq 650, 3) := by decide +kernel
theorem dL_law_335 : decode cL_law 335 = .ok (.iconst 0, 1) := by decide +kernel
theorem dL_law_336 : decode cL_law 336 = .ok (.ireturn, 1) := by decide +kernel
theorem dL_law_337 : decode cL_law 337 = .ok (.aload_n 1, 1) := by decide +kernel
theorem dL_law_338 : decode cL_law 338 = .ok (.aload_n 0, 1) := by decide +kernel
theorem dL_law_339 : decode cL_law 339 = .ok (.iload_n 3, 1) := by decide +kernel
theorem dL_law_340 : decode cL_law 340 = .ok (.iconst 1, 1) := by decide +kernel
theorem dL_law_341 : decode cL_law 341 = .ok (.iadd, 1) := by decide +kernel
theorem dL_law_342 : decode cL_law 342 = .ok (.iaload, 1) := by decide +kernel
theorem dL_law_343 : decode cL_law 343 = .ok (.aload_n 0, 1) := by decide +kernel
theorem dL_law_344 : decode cL_law 344 = .ok (.iload_n 3, 1) := by decide +kernel
theorem dL_law_345 : decode cL_law 345 = .ok (.iconst 2, 1) := by decide +kernel
theorem dL_law_346 : decode cL_law 346 = .ok (.iadd, 1) := by decide +kernel
theorem dL_law_347 : decode cL_law 347 = .ok (.iaload, 1) := by decide +kernel
theorem dL_law_348 : decode cL_law 348 = .ok (.invokevirtual 40, 3) := by decide +kernel
theorem dL_law_351 : decode cL_law 351 = .ok (.aload_n 2, 1) := by decide +kernel
theorem dL_law_352 : decode cL_law 352 = .ok (.aload_n 0, 1) := by decide +kernel
theorem dL_law_353 : decode cL_law 353 = .ok (.iload_n 3, 1) := by decide +kernel
theorem dL_law_354 : decode cL_law 354 = .ok (.iconst 1, 1) := by decide +kernel
theorem dL_law_355 : decode cL_law 355 = .ok (.iadd, 1) := by decide +kernel
theorem dL_law_356 : decode cL_law 356 = .ok (.iaload, 1) := by decide +kernel
theorem dL_law_357 : decode cL_law 357 = .ok (.aload_n 0, 1) := by decide +kernel
theorem dL_law_358 : decode cL_law 358 = .ok (.iload_n 3, 1) := by decide +kernel
theorem dL_law_359 : decode cL_law 359 = .ok (.iconst 2, 1) := by decide +kernel
theorem dL_law_360 : decode cL_law 360 = .ok (.iadd, 1) := by decide +kernel
theorem dL_law_361 : decode cL_law 361 = .ok (.iaload, 1) := by decide +kernel
theorem dL_law_362 : decode cL_law 362 = .ok (.invokevirtual 43, 3) := by decide +kernel
theorem dL_law_365 : decode cL_law 365 = .ok (.if_icmp .eq 617, 3) := by decide +kernel
theorem dL_law_368 : decode cL_law 368 = .ok (.iconst 0, 1) := by decide +kernel
theorem dL_law_369 : decode cL_law 369 = .ok (.ireturn, 1) := by decide +kernel
theorem dL_law_370 : decode cL_law 370 = .ok (.aload_n 1, 1) := by decide +kernel
theorem dL_law_371 : decode cL_law 371 = .ok (.aload_n 0, 1) := by decide +kernel
theorem dL_law_372 : decode cL_law 372 = .ok (.iload_n 3, 1) := by decide +kernel
theorem dL_law_373 : decode cL_law 373 = .ok (.iconst 1, 1) := by decide +kernel
theorem dL_law_374 : decode cL_law 374 = .ok (.iadd, 1) := by decide +kernel
theorem dL_law_375 : decode cL_law 375 = .ok (.iaload, 1) := by decide +kernel
theorem dL_law_376 : decode cL_law 376 = .ok (.aload_n 0, 1) := by decide +kernel
theorem dL_law_377 : decode cL_law 377 = .ok (.iload_n 3, 1) := by decide +kernel
theorem dL_law_378 : decode cL_law 378 = .ok (.iconst 2, 1) := by decide +kernel
theorem dL_law_379 : decode cL_law 379 = .ok (.iadd, 1) := by decide +kernel
theorem dL_law_380 : decode cL_law 380 = .ok (.iaload, 1) := by decide +kernel
theorem dL_law_381 : decode cL_law 381 = .ok (.aload_n 0, 1) := by decide +kernel
theorem dL_law_382 : decode cL_law 382 = .ok (.iload_n 3, 1) := by decide +kernel
theorem dL_law_383 : decode cL_law 383 = .ok (.iconst 3, 1) := by decide +kernel
theorem dL_law_384 : decode cL_law 384 = .ok (.iadd, 1) := by decide +kernel
theorem dL_law_385 : decode cL_law 385 = .ok (.iaload, 1) := by decide +kernel
theorem dL_law_386 : decode cL_law 386 = .ok (.invokevirtual 44, 3) := by decide +kernel
theorem dL_law_389 : decode cL_law 389 = .ok (.aload_n 2, 1) := by decide +kernel
theorem dL_law_390 : decode cL_law 390 = .ok (.aload_n 0, 1) := by decide +kernel
theorem dL_law_391 : decode cL_law 391 = .ok (.iload_n 3, 1) := by decide +kernel
theorem dL_law_392 : decode cL_law 392 = .ok (.iconst 1, 1) := by decide +kernel
theorem dL_law_393 : decode cL_law 393 = .ok (.iadd, 1) := by decide +kernel
theorem dL_law_394 : decode cL_law 394 = .ok (.iaload, 1) := by decide +kernel
theorem dL_law_395 : decode cL_law 395 = .ok (.aload_n 0, 1) := by decide +kernel
theorem dL_law_396 : decode cL_law 396 = .ok (.iload_n 3, 1) := by decide +kernel
theorem dL_law_397 : decode cL_law 397 = .ok (.iconst 2, 1) := by decide +kernel
theorem dL_law_398 : decode cL_law 398 = .ok (.iadd, 1) := by decide +kernel
theorem dL_law_399 : decode cL_law 399 = .ok (.iaload, 1) := by decide +kernel
theorem dL_law_400 : decode cL_law 400 = .ok (.aload_n 0, 1) := by decide +kernel
theorem dL_law_401 : decode cL_law 401 = .ok (.iload_n 3, 1) := by decide +kernel
theorem dL_law_402 : decode cL_law 402 = .ok (.iconst 3, 1) := by decide +kernel
theorem dL_law_403 : decode cL_law 403 = .ok (.iadd, 1) := by decide +kernel
theorem dL_law_404 : decode cL_law 404 = .ok (.iaload, 1) := by decide +kernel
theorem dL_law_405 : decode cL_law 405 = .ok (.invokevirtual 48, 3) := by decide +kernel
theorem dL_law_408 : decode cL_law 408 = .ok (.if_icmp .eq 574, 3) := by decide +kernel
theorem dL_law_411 : decode cL_law 411 = .ok (.iconst 0, 1) := by decide +kernel
theorem dL_law_412 : decode cL_law 412 = .ok (.ireturn, 1) := by decide +kernel
theorem dL_law_413 : decode cL_law 413 = .ok (.aload_n 1, 1) := by decide +kernel
theorem dL_law_414 : decode cL_law 414 = .ok (.aload_n 0, 1) := by decide +kernel
theorem dL_law_415 : decode cL_law 415 = .ok (.iload_n 3, 1) := by decide +kernel
theorem dL_law_416 : decode cL_law 416 = .ok (.iconst 1, 1) := by decide +kernel
theorem dL_law_417 : decode cL_law 417 = .ok (.iadd, 1) := by decide +kernel
theorem dL_law_418 : decode cL_law 418 = .ok (.iaload, 1) := by decide +kernel
theorem dL_law_419 : decode cL_law 419 = .ok (.aload_n 0, 1) := by decide +kernel
theorem dL_law_420 : decode cL_law 420 = .ok (.iload_n 3, 1) := by decide +kernel
theorem dL_law_421 : decode cL_law 421 = .ok (.iconst 2, 1) := by decide +kernel
theorem dL_law_422 : decode cL_law 422 = .ok (.iadd, 1) := by decide +kernel
theorem dL_law_423 : decode cL_law 423 = .ok (.iaload, 1) := by decide +kernel
theorem dL_law_424 : decode cL_law 424 = .ok (.aload_n 0, 1) := by decide +kernel
theorem dL_law_425 : decode cL_law 425 = .ok (.iload_n 3, 1) := by decide +kernel
theorem dL_law_426 : decode cL_law 426 = .ok (.iconst 3, 1) := by decide +kernel
theorem dL_law_427 : decode cL_law 427 = .ok (.iadd, 1) := by decide +kernel
theorem dL_law_428 : decode cL_law 428 = .ok (.iaload, 1) := by decide +kernel
theorem dL_law_429 : decode cL_law 429 = .ok (.invokevirtual 49, 3) := by decide +kernel
theorem dL_law_432 : decode cL_law 432 = .ok (.aload_n 2, 1) := by decide +kernel
theorem dL_law_433 : decode cL_law 433 = .ok (.aload_n 0, 1) := by decide +kernel
theorem dL_law_434 : decode cL_law 434 = .ok (.iload_n 3, 1) := by decide +kernel
theorem dL_law_435 : decode cL_law 435 = .ok (.iconst 1, 1) := by decide +kernel
theorem dL_law_436 : decode cL_law 436 = .ok (.iadd, 1) := by decide +kernel
theorem dL_law_437 : decode cL_law 437 = .ok (.iaload, 1) := by decide +kernel
theorem dL_law_438 : decode cL_law 438 = .ok (.aload_n 0, 1) := by decide +kernel
theorem dL_law_439 : decode cL_law 439 = .ok (.iload_n 3, 1) := by decide +kernel
theorem dL_law_440 : decode cL_law 440 = .ok (.iconst 2, 1) := by decide +kernel
theorem dL_law_441 : decode cL_law 441 = .ok (.iadd, 1) := by decide +kernel
theorem dL_law_442 : decode cL_law 442 = .ok (.iaload, 1) := by decide +kernel
theorem dL_law_443 : decode cL_law 443 = .ok (.aload_n 0, 1) := by decide +kernel
theorem dL_law_444 : decode cL_law 444 = .ok (.iload_n 3, 1) := by decide +kernel
theorem dL_law_445 : decode cL_law 445 = .ok (.iconst 3, 1) := by decide +kernel
theorem dL_law_446 : decode cL_law 446 = .ok (.iadd, 1) := by decide +kernel
theorem dL_law_447 : decode cL_law 447 = .ok (.iaload, 1) := by decide +kernel
theorem dL_law_448 : decode cL_law 448 = .ok (.invokevirtual 52, 3) := by decide +kernel
theorem dL_law_451 : decode cL_law 451 = .ok (.if_icmp .eq 531, 3) := by decide +kernel
theorem dL_law_454 : decode cL_law 454 = .ok (.iconst 0, 1) := by decide +kernel
theorem dL_law_455 : decode cL_law 455 = .ok (.ireturn, 1) := by decide +kernel
theorem dL_law_456 : decode cL_law 456 = .ok (.aload_n 1, 1) := by decide +kernel
theorem dL_law_457 : decode cL_law 457 = .ok (.aload_n 0, 1) := by decide +kernel
theorem dL_law_458 : decode cL_law 458 = .ok (.iload_n 3, 1) := by decide +kernel
theorem dL_law_459 : decode cL_law 459 = .ok (.iconst 1, 1) := by decide +kernel
theorem dL_law_460 : decode cL_law 460 = .ok (.iadd, 1) := by decide +kernel
theorem dL_law_461 : decode cL_law 461 = .ok (.iaload, 1) := by decide +kernel
theorem dL_law_462 : decode cL_law 462 = .ok (.aload_n 0, 1) := by decide +kernel
theorem dL_law_463 : decode cL_law 463 = .ok (.iload_n 3, 1) := by decide +kernel
theorem dL_law_464 : decode cL_law 464 = .ok (.iconst 2, 1) := by decide +kernel
theorem dL_law_465 : decode cL_law 465 = .ok (.iadd, 1) := by decide +kernel
theorem dL_law_466 : decode cL_law 466 = .ok (.iaload, 1) := by decide +kernel
theorem dL_law_467 : decode cL_law 467 = .ok (.invokevirtual 53, 3) := by decide +kernel
theorem dL_law_470 : decode cL_law 470 = .ok (.aload_n 2, 1) := by decide +kernel
theorem dL_law_471 : decode cL_law 471 = .ok (.aload_n 0, 1) := by decide +kernel
theorem dL_law_472 : decode cL_law 472 = .ok (.iload_n 3, 1) := by decide +kernel
theorem dL_law_473 : decode cL_law 473 = .ok (.iconst 1, 1) := by decide +kernel
theorem dL_law_474 : decode cL_law 474 = .ok (.iadd, 1) := by decide +kernel
theorem dL_law_475 : decode cL_law 475 = .ok (.iaload, 1) := by decide +kernel
theorem dL_law_476 : decode cL_law 476 = .ok (.aload_n 0, 1) := by decide +kernel
theorem dL_law_477 : decode cL_law 477 = .ok (.iload_n 3, 1) := by decide +kernel
theorem dL_law_478 : decode cL_law 478 = .ok (.iconst 2, 1) := by decide +kernel
theorem dL_law_479 : decode cL_law 479 = .ok (.iadd, 1) := by decide +kernel
theorem dL_law_480 : decode cL_law 480 = .ok (.iaload, 1) := by decide +kernel
theorem dL_law_481 : decode cL_law 481 = .ok (.invokevirtual 56, 3) := by decide +kernel
theorem dL_law_484 : decode cL_law 484 = .ok (.if_icmp .eq 498, 3) := by decide +kernel
theorem dL_law_487 : decode cL_law 487 = .ok (.iconst 0, 1) := by decide +kernel
theorem dL_law_488 : decode cL_law 488 = .ok (.ireturn, 1) := by decide +kernel
theorem dL_law_489 : decode cL_law 489 = .ok (.aload_n 1, 1) := by decide +kernel
theorem dL_law_490 : decode cL_law 490 = .ok (.aload_n 0, 1) := by decide +kernel
theorem dL_law_491 : decode cL_law 491 = .ok (.iload_n 3, 1) := by decide +kernel
theorem dL_law_492 : decode cL_law 492 = .ok (.iconst 1, 1) := by decide +kernel
theorem dL_law_493 : decode cL_law 493 = .ok (.iadd, 1) := by decide +kernel
theorem dL_law_494 : decode cL_law 494 = .ok (.iaload, 1) := by decide +kernel
theorem dL_law_495 : decode cL_law 495 = .ok (.aload_n 0, 1) := by decide +kernel
theorem dL_law_496 : decode cL_law 496 = .ok (.iload_n 3, 1) := by decide +kernel
theorem dL_law_497 : decode cL_law 497 = .ok (.iconst 2, 1) := by decide +kernel
theorem dL_law_498 : decode cL_law 498 = .ok (.iadd, 1) := by decide +kernel
theorem dL_law_499 : decode cL_law 499 = .ok (.iaload, 1) := by decide +kernel
theorem dL_law_500 : decode cL_law 500 = .ok (.aload_n 0, 1) := by decide +kernel
theorem dL_law_501 : decode cL_law 501 = .ok (.iload_n 3, 1) := by decide +kernel
theorem dL_law_502 : decode cL_law 502 = .ok (.iconst 3, 1) := by decide +kernel
theorem dL_law_503 : decode cL_law 503 = .ok (.iadd, 1) := by decide +kernel
theorem dL_law_504 : decode cL_law 504 = .ok (.iaload, 1) := by decide +kernel
theorem dL_law_505 : decode cL_law 505 = .ok (.invokevirtual 57, 3) := by decide +kernel
theorem dL_law_508 : decode cL_law 508 = .ok (.aload_n 2, 1) := by decide +kernel
theorem dL_law_509 : decode cL_law 509 = .ok (.aload_n 0, 1) := by decide +kernel
theorem dL_law_510 : decode cL_law 510 = .ok (.iload_n 3, 1) := by decide +kernel
theorem dL_law_511 : decode cL_law 511 = .ok (.iconst 1, 1) := by decide +kernel
theorem dL_law_512 : decode cL_law 512 = .ok (.iadd, 1) := by decide +kernel
theorem dL_law_513 : decode cL_law 513 = .ok (.iaload, 1) := by decide +kernel
theorem dL_law_514 : decode cL_law 514 = .ok (.aload_n 0, 1) := by decide +kernel
theorem dL_law_515 : decode cL_law 515 = .ok (.iload_n 3, 1) := by decide +kernel
theorem dL_law_516 : decode cL_law 516 = .ok (.iconst 2, 1) := by decide +kernel
theorem dL_law_517 : decode cL_law 517 = .ok (.iadd, 1) := by decide +kernel
theorem dL_law_518 : decode cL_law 518 = .ok (.iaload, 1) := by decide +kernel
theorem dL_law_519 : decode cL_law 519 = .ok (.aload_n 0, 1) := by decide +kernel
theorem dL_law_520 : decode cL_law 520 = .ok (.iload_n 3, 1) := by decide +kernel
theorem dL_law_521 : decode cL_law 521 = .ok (.iconst 3, 1) := by decide +kernel
theorem dL_law_522 : decode cL_law 522 = .ok (.iadd, 1) := by decide +kernel
theorem dL_law_523 : decode cL_law 523 = .ok (.iaload, 1) := by decide +kernel
theorem dL_law_524 : decode cL_law 524 = .ok (.invokevirtual 60, 3) := by decide +kernel
theorem dL_law_527 : decode cL_law 527 = .ok (.if_icmp .eq 455, 3) := by decide +kernel
theorem dL_law_530 : decode cL_law 530 = .ok (.iconst 0, 1) := by decide +kernel
theorem dL_law_531 : decode cL_law 531 = .ok (.ireturn, 1) := by decide +kernel
theorem dL_law_532 : decode cL_law 532 = .ok (.aload_n 1, 1) := by decide +kernel
theorem dL_law_533 : decode cL_law 533 = .ok (.aload_n 0, 1) := by decide +kernel
theorem dL_law_534 : decode cL_law 534 = .ok (.iload_n 3, 1) := by decide +kernel
theorem dL_law_535 : decode cL_law 535 = .ok (.iconst 1, 1) := by decide +kernel
theorem dL_law_536 : decode cL_law 536 = .ok (.iadd, 1) := by decide +kernel
theorem dL_law_537 : decode cL_law 537 = .ok (.iaload, 1) := by decide +kernel
theorem dL_law_538 : decode cL_law 538 = .ok (.aload_n 0, 1) := by decide +kernel
theorem dL_law_539 : decode cL_law 539 = .ok (.iload_n 3, 1) := by decide +kernel
theorem dL_law_540 : decode cL_law 540 = .ok (.iconst 2, 1) := by decide +kernel
theorem dL_law_541 : decode cL_law 541 = .ok (.iadd, 1) := by decide +kernel
theorem dL_law_542 : decode cL_law 542 = .ok (.iaload, 1) := by decide +kernel
theorem dL_law_543 : decode cL_law 543 = .ok (.invokevirtual 61, 3) := by decide +kernel
theorem dL_law_546 : decode cL_law 546 = .ok (.aload_n 2, 1) := by decide +kernel
theorem dL_law_547 : decode cL_law 547 = .ok (.aload_n 0, 1) := by decide +kernel
theorem dL_law_548 : decode cL_law 548 = .ok (.iload_n 3, 1) := by decide +kernel
theorem dL_law_549 : decode cL_law 549 = .ok (.iconst 1, 1) := by decide +kernel
theorem dL_law_550 : decode cL_law 550 = .ok (.iadd, 1) := by decide +kernel
theorem dL_law_551 : decode cL_law 551 = .ok (.iaload, 1) := by decide +kernel
theorem dL_law_552 : decode cL_law 552 = .ok (.aload_n 0, 1) := by decide +kernel
theorem dL_law_553 : decode cL_law 553 = .ok (.iload_n 3, 1) := by decide +kernel
theorem dL_law_554 : decode cL_law 554 = .ok (.iconst 2, 1) := by decide +kernel
theorem dL_law_555 : decode cL_law 555 = .ok (.iadd, 1) := by decide +kernel
theorem dL_law_556 : decode cL_law 556 = .ok (.iaload, 1) := by decide +kernel
theorem dL_law_557 : decode cL_law 557 = .ok (.invokevirtual 64, 3) := by decide +kernel
theorem dL_law_560 : decode cL_law 560 = .ok (.if_icmp .eq 422, 3) := by decide +kernel
theorem dL_law_563 : decode cL_law 563 = .ok (.iconst 0, 1) := by decide +kernel
theorem dL_law_564 : decode cL_law 564 = .ok (.ireturn, 1) := by decide +kernel
theorem dL_law_565 : decode cL_law 565 = .ok (.aload_n 1, 1) := by decide +kernel
theorem dL_law_566 : decode cL_law 566 = .ok (.aload_n 0, 1) := by decide +kernel
theorem dL_law_567 : decode cL_law 567 = .ok (.iload_n 3, 1) := by decide +kernel
theorem dL_law_568 : decode cL_law 568 = .ok (.iconst 1, 1) := by decide +kernel
theorem dL_law_569 : decode cL_law 569 = .ok (.iadd, 1) := by decide +kernel
theorem dL_law_570 : decode cL_law 570 = .ok (.iaload, 1) := by decide +kernel
theorem dL_law_571 : decode cL_law 571 = .ok (.invokevirtual 65, 3) := by decide +kernel
theorem dL_law_574 : decode cL_law 574 = .ok (.aload_n 2, 1) := by decide +kernel
theorem dL_law_575 : decode cL_law 575 = .ok (.aload_n 0, 1) := by decide +kernel
theorem dL_law_576 : decode cL_law 576 = .ok (.iload_n 3, 1) := by decide +kernel
theorem dL_law_577 : decode cL_law 577 = .ok (.iconst 1, 1) := by decide +kernel
theorem dL_law_578 : decode cL_law 578 = .ok (.iadd, 1) := by decide +kernel
theorem dL_law_579 : decode cL_law 579 = .ok (.iaload, 1) := by decide +kernel
theorem dL_law_580 : decode cL_law 580 = .ok (.invokevirtual 68, 3) := by decide +kernel
theorem dL_law_583 : decode cL_law 583 = .ok (.if_icmp .eq 399, 3) := by decide +kernel
theorem dL_law_586 : decode cL_law 586 = .ok (.iconst 0, 1) := by decide +kernel
theorem dL_law_587 : decode cL_law 587 = .ok (.ireturn, 1) := by decide +kernel
theorem dL_law_588 : decode cL_law 588 = .ok (.aload_n 1, 1) := by decide +kernel
theorem dL_law_589 : decode cL_law 589 = .ok (.aload_n 0, 1) := by decide +kernel
theorem dL_law_590 : decode cL_law 590 = .ok (.iload_n 3, 1) := by decide +kernel
theorem dL_law_591 : decode cL_law 591 = .ok (.iconst 1, 1) := by decide +kernel
theorem dL_law_592 : decode cL_law 592 = .ok (.iadd, 1) := by decide +kernel
theorem dL_law_593 : decode cL_law 593 = .ok (.iaload, 1) := by decide +kernel
theorem dL_law_594 : decode cL_law 594 = .ok (.invokevirtual 69, 3) := by decide +kernel
theorem dL_law_597 : decode cL_law 597 = .ok (.aload_n 2, 1) := by decide +kernel
theorem dL_law_598 : decode cL_law 598 = .ok (.aload_n 0, 1) := by decide +kernel
theorem dL_law_599 : decode cL_law 599 = .ok (.iload_n 3, 1) := by decide +kernel
theorem dL_law_600 : decode cL_law 600 = .ok (.iconst 1, 1) := by decide +kernel
theorem dL_law_601 : decode cL_law 601 = .ok (.iadd, 1) := by decide +kernel
theorem dL_law_602 : decode cL_law 602 = .ok (.iaload, 1) := by decide +kernel
theorem dL_law_603 : decode cL_law 603 = .ok (.invokevirtual 72, 3) := by decide +kernel
theorem dL_law_606 : decode cL_law 606 = .ok (.if_icmp .eq 376, 3) := by decide +kernel
theorem dL_law_609 : decode cL_law 609 = .ok (.iconst 0, 1) := by decide +kernel
theorem dL_law_610 : decode cL_law 610 = .ok (.ireturn, 1) := by decide +kernel
theorem dL_law_611 : decode cL_law 611 = .ok (.aload_n 1, 1) := by decide +kernel
theorem dL_law_612 : decode cL_law 612 = .ok (.aload_n 0, 1) := by decide +kernel
theorem dL_law_613 : decode cL_law 613 = .ok (.iload_n 3, 1) := by decide +kernel
theorem dL_law_614 : decode cL_law 614 = .ok (.iconst 1, 1) := by decide +kernel
theorem dL_law_615 : decode cL_law 615 = .ok (.iadd, 1) := by decide +kernel
theorem dL_law_616 : decode cL_law 616 = .ok (.iaload, 1) := by decide +kernel
theorem dL_law_617 : decode cL_law 617 = .ok (.invokevirtual 73, 3) := by decide +kernel
theorem dL_law_620 : decode cL_law 620 = .ok (.aload_n 2, 1) := by decide +kernel
theorem dL_law_621 : decode cL_law 621 = .ok (.aload_n 0, 1) := by decide +kernel
theorem dL_law_622 : decode cL_law 622 = .ok (.iload_n 3, 1) := by decide +kernel
theorem dL_law_623 : decode cL_law 623 = .ok (.iconst 1, 1) := by decide +kernel
theorem dL_law_624 : decode cL_law 624 = .ok (.iadd, 1) := by decide +kernel
theorem dL_law_625 : decode cL_law 625 = .ok (.iaload, 1) := by decide +kernel
theorem dL_law_626 : decode cL_law 626 = .ok (.invokevirtual 76, 3) := by decide +kernel
theorem dL_law_629 : decode cL_law 629 = .ok (.if_icmp .eq 353, 3) := by decide +kernel
theorem dL_law_632 : decode cL_law 632 = .ok (.iconst 0, 1) := by decide +kernel
theorem dL_law_633 : decode cL_law 633 = .ok (.ireturn, 1) := by decide +kernel
theorem dL_law_634 : decode cL_law 634 = .ok (.aload_n 1, 1) := by decide +kernel
theorem dL_law_635 : decode cL_law 635 = .ok (.aload_n 0, 1) := by decide +kernel
theorem dL_law_636 : decode cL_law 636 = .ok (.iload_n 3, 1) := by decide +kernel
theorem dL_law_637 : decode cL_law 637 = .ok (.iconst 1, 1) := by decide +kernel
theorem dL_law_638 : decode cL_law 638 = .ok (.iadd, 1) := by decide +kernel
theorem dL_law_639 : decode cL_law 639 = .ok (.iaload, 1) := by decide +kernel
theorem dL_law_640 : decode cL_law 640 = .ok (.aload_n 0, 1) := by decide +kernel
theorem dL_law_641 : decode cL_law 641 = .ok (.iload_n 3, 1) := by decide +kernel
theorem dL_law_642 : decode cL_law 642 = .ok (.iconst 2, 1) := by decide +kernel
theorem dL_law_643 : decode cL_law 643 = .ok (.iadd, 1) := by decide +kernel
theorem dL_law_644 : decode cL_law 644 = .ok (.iaload, 1) := by decide +kernel
theorem dL_law_645 : decode cL_law 645 = .ok (.invokevirtual 77, 3) := by decide +kernel
theorem dL_law_648 : decode cL_law 648 = .ok (.aload_n 2, 1) := by decide +kernel
theorem dL_law_649 : decode cL_law 649 = .ok (.aload_n 0, 1) := by decide +kernel
theorem dL_law_650 : decode cL_law 650 = .ok (.iload_n 3, 1) := by decide +kernel
theorem dL_law_651 : decode cL_law 651 = .ok (.iconst 1, 1) := by decide +kernel
theorem dL_law_652 : decode cL_law 652 = .ok (.iadd, 1) := by decide +kernel
theorem dL_law_653 : decode cL_law 653 = .ok (.iaload, 1) := by decide +kernel
theorem dL_law_654 : decode cL_law 654 = .ok (.aload_n 0, 1) := by decide +kernel
theorem dL_law_655 : decode cL_law 655 = .ok (.iload_n 3, 1) := by decide +kernel
theorem dL_law_656 : decode cL_law 656 = .ok (.iconst 2, 1) := by decide +kernel
theorem dL_law_657 : decode cL_law 657 = .ok (.iadd, 1) := by decide +kernel
theorem dL_law_658 : decode cL_law 658 = .ok (.iaload, 1) := by decide +kernel
theorem dL_law_659 : decode cL_law 659 = .ok (.invokevirtual 81, 3) := by decide +kernel
theorem dL_law_662 : decode cL_law 662 = .ok (.lcmp, 1) := by decide +kernel
theorem dL_law_663 : decode cL_law 663 = .ok (.ifCond .eq 319, 3) := by decide +kernel
theorem dL_law_666 : decode cL_law 666 = .ok (.iconst 0, 1) := by decide +kernel
theorem dL_law_667 : decode cL_law 667 = .ok (.ireturn, 1) := by decide +kernel
theorem dL_law_668 : decode cL_law 668 = .ok (.aload_n 1, 1) := by decide +kernel
theorem dL_law_669 : decode cL_law 669 = .ok (.aload_n 0, 1) := by decide +kernel
theorem dL_law_670 : decode cL_law 670 = .ok (.iload_n 3, 1) := by decide +kernel
theorem dL_law_671 : decode cL_law 671 = .ok (.iconst 1, 1) := by decide +kernel
theorem dL_law_672 : decode cL_law 672 = .ok (.iadd, 1) := by decide +kernel
theorem dL_law_673 : decode cL_law 673 = .ok (.iaload, 1) := by decide +kernel
theorem dL_law_674 : decode cL_law 674 = .ok (.aload_n 0, 1) := by decide +kernel
theorem dL_law_675 : decode cL_law 675 = .ok (.iload_n 3, 1) := by decide +kernel
theorem dL_law_676 : decode cL_law 676 = .ok (.iconst 2, 1) := by decide +kernel
theorem dL_law_677 : decode cL_law 677 = .ok (.iadd, 1) := by decide +kernel
theorem dL_law_678 : decode cL_law 678 = .ok (.iaload, 1) := by decide +kernel
theorem dL_law_679 : decode cL_law 679 = .ok (.aload_n 0, 1) := by decide +kernel
theorem dL_law_680 : decode cL_law 680 = .ok (.iload_n 3, 1) := by decide +kernel
theorem dL_law_681 : decode cL_law 681 = .ok (.iconst 3, 1) := by decide +kernel
theorem dL_law_682 : decode cL_law 682 = .ok (.iadd, 1) := by decide +kernel
theorem dL_law_683 : decode cL_law 683 = .ok (.iaload, 1) := by decide +kernel
theorem dL_law_684 : decode cL_law 684 = .ok (.invokevirtual 82, 3) := by decide +kernel
theorem dL_law_687 : decode cL_law 687 = .ok (.aload_n 2, 1) := by decide +kernel
theorem dL_law_688 : decode cL_law 688 = .ok (.aload_n 0, 1) := by decide +kernel
theorem dL_law_689 : decode cL_law 689 = .ok (.iload_n 3, 1) := by decide +kernel
theorem dL_law_690 : decode cL_law 690 = .ok (.iconst 1, 1) := by decide +kernel
theorem dL_law_691 : decode cL_law 691 = .ok (.iadd, 1) := by decide +kernel
theorem dL_law_692 : decode cL_law 692 = .ok (.iaload, 1) := by decide +kernel
theorem dL_law_693 : decode cL_law 693 = .ok (.aload_n 0, 1) := by decide +kernel
theorem dL_law_694 : decode cL_law 694 = .ok (.iload_n 3, 1) := by decide +kernel
theorem dL_law_695 : decode cL_law 695 = .ok (.iconst 2, 1) := by decide +kernel
theorem dL_law_696 : decode cL_law 696 = .ok (.iadd, 1) := by decide +kernel
theorem dL_law_697 : decode cL_law 697 = .ok (.iaload, 1) := by decide +kernel
theorem dL_law_698 : decode cL_law 698 = .ok (.aload_n 0, 1) := by decide +kernel
theorem dL_law_699 : decode cL_law 699 = .ok (.iload_n 3, 1) := by decide +kernel
theorem dL_law_700 : decode cL_law 700 = .ok (.iconst 3, 1) := by decide +kernel
theorem dL_law_701 : decode cL_law 701 = .ok (.iadd, 1) := by decide +kernel
theorem dL_law_702 : decode cL_law 702 = .ok (.iaload, 1) := by decide +kernel
theorem dL_law_703 : decode cL_law 703 = .ok (.invokevirtual 86, 3) := by decide +kernel
theorem dL_law_706 : decode cL_law 706 = .ok (.lcmp, 1) := by decide +kernel
theorem dL_law_707 : decode cL_law 707 = .ok (.ifCond .eq 275, 3) := by decide +kernel
theorem dL_law_710 : decode cL_law 710 = .ok (.iconst 0, 1) := by decide +kernel
theorem dL_law_711 : decode cL_law 711 = .ok (.ireturn, 1) := by decide +kernel
theorem dL_law_712 : decode cL_law 712 = .ok (.aload_n 1, 1) := by decide +kernel
theorem dL_law_713 : decode cL_law 713 = .ok (.aload_n 0, 1) := by decide +kernel
theorem dL_law_714 : decode cL_law 714 = .ok (.iload_n 3, 1) := by decide +kernel
theorem dL_law_715 : decode cL_law 715 = .ok (.iconst 1, 1) := by decide +kernel
theorem dL_law_716 : decode cL_law 716 = .ok (.iadd, 1) := by decide +kernel
theorem dL_law_717 : decode cL_law 717 = .ok (.iaload, 1) := by decide +kernel
theorem dL_law_718 : decode cL_law 718 = .ok (.aload_n 0, 1) := by decide +kernel
theorem dL_law_719 : decode cL_law 719 = .ok (.iload_n 3, 1) := by decide +kernel
theorem dL_law_720 : decode cL_law 720 = .ok (.iconst 2, 1) := by decide +kernel
theorem dL_law_721 : decode cL_law 721 = .ok (.iadd, 1) := by decide +kernel
theorem dL_law_722 : decode cL_law 722 = .ok (.iaload, 1) := by decide +kernel
theorem dL_law_723 : decode cL_law 723 = .ok (.invokevirtual 87, 3) := by decide +kernel
theorem dL_law_726 : decode cL_law 726 = .ok (.aload_n 2, 1) := by decide +kernel
theorem dL_law_727 : decode cL_law 727 = .ok (.aload_n 0, 1) := by decide +kernel
theorem dL_law_728 : decode cL_law 728 = .ok (.iload_n 3, 1) := by decide +kernel
theorem dL_law_729 : decode cL_law 729 = .ok (.iconst 1, 1) := by decide +kernel
theorem dL_law_730 : decode cL_law 730 = .ok (.iadd, 1) := by decide +kernel
theorem dL_law_731 : decode cL_law 731 = .ok (.iaload, 1) := by decide +kernel
theorem dL_law_732 : decode cL_law 732 = .ok (.aload_n 0, 1) := by decide +kernel
theorem dL_law_733 : decode cL_law 733 = .ok (.iload_n 3, 1) := by decide +kernel
theorem dL_law_734 : decode cL_law 734 = .ok (.iconst 2, 1) := by decide +kernel
theorem dL_law_735 : decode cL_law 735 = .ok (.iadd, 1) := by decide +kernel
theorem dL_law_736 : decode cL_law 736 = .ok (.iaload, 1) := by decide +kernel
theorem dL_law_737 : decode cL_law 737 = .ok (.invokevirtual 90, 3) := by decide +kernel
theorem dL_law_740 : decode cL_law 740 = .ok (.if_icmp .eq 242, 3) := by decide +kernel
theorem dL_law_743 : decode cL_law 743 = .ok (.iconst 0, 1) := by decide +kernel
theorem dL_law_744 : decode cL_law 744 = .ok (.ireturn, 1) := by decide +kernel
theorem dL_law_745 : decode cL_law 745 = .ok (.aload_n 1, 1) := by decide +kernel
theorem dL_law_746 : decode cL_law 746 = .ok (.aload_n 0, 1) := by decide +kernel
theorem dL_law_747 : decode cL_law 747 = .ok (.iload_n 3, 1) := by decide +kernel
theorem dL_law_748 : decode cL_law 748 = .ok (.iconst 1, 1) := by decide +kernel
theorem dL_law_749 : decode cL_law 749 = .ok (.iadd, 1) := by decide +kernel
theorem dL_law_750 : decode cL_law 750 = .ok (.iaload, 1) := by decide +kernel
theorem dL_law_751 : decode cL_law 751 = .ok (.invokevirtual 91, 3) := by decide +kernel
theorem dL_law_754 : decode cL_law 754 = .ok (.aload_n 2, 1) := by decide +kernel
theorem dL_law_755 : decode cL_law 755 = .ok (.aload_n 0, 1) := by decide +kernel
theorem dL_law_756 : decode cL_law 756 = .ok (.iload_n 3, 1) := by decide +kernel
theorem dL_law_757 : decode cL_law 757 = .ok (.iconst 1, 1) := by decide +kernel
theorem dL_law_758 : decode cL_law 758 = .ok (.iadd, 1) := by decide +kernel
theorem dL_law_759 : decode cL_law 759 = .ok (.iaload, 1) := by decide +kernel
theorem dL_law_760 : decode cL_law 760 = .ok (.invokevirtual 94, 3) := by decide +kernel
theorem dL_law_763 : decode cL_law 763 = .ok (.if_icmp .eq 219, 3) := by decide +kernel
theorem dL_law_766 : decode cL_law 766 = .ok (.iconst 0, 1) := by decide +kernel
theorem dL_law_767 : decode cL_law 767 = .ok (.ireturn, 1) := by decide +kernel
theorem dL_law_768 : decode cL_law 768 = .ok (.aload_n 1, 1) := by decide +kernel
theorem dL_law_769 : decode cL_law 769 = .ok (.aload_n 0, 1) := by decide +kernel
theorem dL_law_770 : decode cL_law 770 = .ok (.iload_n 3, 1) := by decide +kernel
theorem dL_law_771 : decode cL_law 771 = .ok (.iconst 1, 1) := by decide +kernel
theorem dL_law_772 : decode cL_law 772 = .ok (.iadd, 1) := by decide +kernel
theorem dL_law_773 : decode cL_law 773 = .ok (.iaload, 1) := by decide +kernel
theorem dL_law_774 : decode cL_law 774 = .ok (.aload_n 0, 1) := by decide +kernel
theorem dL_law_775 : decode cL_law 775 = .ok (.iload_n 3, 1) := by decide +kernel
theorem dL_law_776 : decode cL_law 776 = .ok (.iconst 2, 1) := by decide +kernel
theorem dL_law_777 : decode cL_law 777 = .ok (.iadd, 1) := by decide +kernel
theorem dL_law_778 : decode cL_law 778 = .ok (.iaload, 1) := by decide +kernel
theorem dL_law_779 : decode cL_law 779 = .ok (.aload_n 0, 1) := by decide +kernel
theorem dL_law_780 : decode cL_law 780 = .ok (.iload_n 3, 1) := by decide +kernel
theorem dL_law_781 : decode cL_law 781 = .ok (.iconst 3, 1) := by decide +kernel
theorem dL_law_782 : decode cL_law 782 = .ok (.iadd, 1) := by decide +kernel
theorem dL_law_783 : decode cL_law 783 = .ok (.iaload, 1) := by decide +kernel
theorem dL_law_784 : decode cL_law 784 = .ok (.invokevirtual 95, 3) := by decide +kernel
theorem dL_law_787 : decode cL_law 787 = .ok (.aload_n 2, 1) := by decide +kernel
theorem dL_law_788 : decode cL_law 788 = .ok (.aload_n 0, 1) := by decide +kernel
theorem dL_law_789 : decode cL_law 789 = .ok (.iload_n 3, 1) := by decide +kernel
theorem dL_law_790 : decode cL_law 790 = .ok (.iconst 1, 1) := by decide +kernel
theorem dL_law_791 : decode cL_law 791 = .ok (.iadd, 1) := by decide +kernel
theorem dL_law_792 : decode cL_law 792 = .ok (.iaload, 1) := by decide +kernel
theorem dL_law_793 : decode cL_law 793 = .ok (.aload_n 0, 1) := by decide +kernel
theorem dL_law_794 : decode cL_law 794 = .ok (.iload_n 3, 1) := by decide +kernel
theorem dL_law_795 : decode cL_law 795 = .ok (.iconst 2, 1) := by decide +kernel
theorem dL_law_796 : decode cL_law 796 = .ok (.iadd, 1) := by decide +kernel
theorem dL_law_797 : decode cL_law 797 = .ok (.iaload, 1) := by decide +kernel
theorem dL_law_798 : decode cL_law 798 = .ok (.aload_n 0, 1) := by decide +kernel
theorem dL_law_799 : decode cL_law 799 = .ok (.iload_n 3, 1) := by decide +kernel
theorem dL_law_800 : decode cL_law 800 = .ok (.iconst 3, 1) := by decide +kernel
theorem dL_law_801 : decode cL_law 801 = .ok (.iadd, 1) := by decide +kernel
theorem dL_law_802 : decode cL_law 802 = .ok (.iaload, 1) := by decide +kernel
theorem dL_law_803 : decode cL_law 803 = .ok (.invokevirtual 98, 3) := by decide +kernel
theorem dL_law_806 : decode cL_law 806 = .ok (.if_icmp .eq 176, 3) := by decide +kernel
theorem dL_law_809 : decode cL_law 809 = .ok (.iconst 0, 1) := by decide +kernel
theorem dL_law_810 : decode cL_law 810 = .ok (.ireturn, 1) := by decide +kernel
theorem dL_law_811 : decode cL_law 811 = .ok (.aload_n 1, 1) := by decide +kernel
theorem dL_law_812 : decode cL_law 812 = .ok (.aload_n 0, 1) := by decide +kernel
theorem dL_law_813 : decode cL_law 813 = .ok (.iload_n 3, 1) := by decide +kernel
theorem dL_law_814 : decode cL_law 814 = .ok (.iconst 1, 1) := by decide +kernel
theorem dL_law_815 : decode cL_law 815 = .ok (.iadd, 1) := by decide +kernel
theorem dL_law_816 : decode cL_law 816 = .ok (.iaload, 1) := by decide +kernel
theorem dL_law_817 : decode cL_law 817 = .ok (.invokevirtual 99, 3) := by decide +kernel
theorem dL_law_820 : decode cL_law 820 = .ok (.aload_n 2, 1) := by decide +kernel
theorem dL_law_821 : decode cL_law 821 = .ok (.aload_n 0, 1) := by decide +kernel
theorem dL_law_822 : decode cL_law 822 = .ok (.iload_n 3, 1) := by decide +kernel
theorem dL_law_823 : decode cL_law 823 = .ok (.iconst 1, 1) := by decide +kernel
theorem dL_law_824 : decode cL_law 824 = .ok (.iadd, 1) := by decide +kernel
theorem dL_law_825 : decode cL_law 825 = .ok (.iaload, 1) := by decide +kernel
theorem dL_law_826 : decode cL_law 826 = .ok (.invokevirtual 102, 3) := by decide +kernel
theorem dL_law_829 : decode cL_law 829 = .ok (.if_icmp .eq 153, 3) := by decide +kernel
theorem dL_law_832 : decode cL_law 832 = .ok (.iconst 0, 1) := by decide +kernel
theorem dL_law_833 : decode cL_law 833 = .ok (.ireturn, 1) := by decide +kernel
theorem dL_law_834 : decode cL_law 834 = .ok (.aload_n 1, 1) := by decide +kernel
theorem dL_law_835 : decode cL_law 835 = .ok (.aload_n 0, 1) := by decide +kernel
theorem dL_law_836 : decode cL_law 836 = .ok (.iload_n 3, 1) := by decide +kernel
theorem dL_law_837 : decode cL_law 837 = .ok (.iconst 1, 1) := by decide +kernel
theorem dL_law_838 : decode cL_law 838 = .ok (.iadd, 1) := by decide +kernel
theorem dL_law_839 : decode cL_law 839 = .ok (.iaload, 1) := by decide +kernel
theorem dL_law_840 : decode cL_law 840 = .ok (.aload_n 0, 1) := by decide +kernel
theorem dL_law_841 : decode cL_law 841 = .ok (.iload_n 3, 1) := by decide +kernel
theorem dL_law_842 : decode cL_law 842 = .ok (.iconst 2, 1) := by decide +kernel
theorem dL_law_843 : decode cL_law 843 = .ok (.iadd, 1) := by decide +kernel
theorem dL_law_844 : decode cL_law 844 = .ok (.iaload, 1) := by decide +kernel
theorem dL_law_845 : decode cL_law 845 = .ok (.aload_n 0, 1) := by decide +kernel
theorem dL_law_846 : decode cL_law 846 = .ok (.iload_n 3, 1) := by decide +kernel
theorem dL_law_847 : decode cL_law 847 = .ok (.iconst 3, 1) := by decide +kernel
theorem dL_law_848 : decode cL_law 848 = .ok (.iadd, 1) := by decide +kernel
theorem dL_law_849 : decode cL_law 849 = .ok (.iaload, 1) := by decide +kernel
theorem dL_law_850 : decode cL_law 850 = .ok (.invokevirtual 103, 3) := by decide +kernel
theorem dL_law_853 : decode cL_law 853 = .ok (.aload_n 2, 1) := by decide +kernel
theorem dL_law_854 : decode cL_law 854 = .ok (.aload_n 0, 1) := by decide +kernel
theorem dL_law_855 : decode cL_law 855 = .ok (.iload_n 3, 1) := by decide +kernel
theorem dL_law_856 : decode cL_law 856 = .ok (.iconst 1, 1) := by decide +kernel
theorem dL_law_857 : decode cL_law 857 = .ok (.iadd, 1) := by decide +kernel
theorem dL_law_858 : decode cL_law 858 = .ok (.iaload, 1) := by decide +kernel
theorem dL_law_859 : decode cL_law 859 = .ok (.aload_n 0, 1) := by decide +kernel
theorem dL_law_860 : decode cL_law 860 = .ok (.iload_n 3, 1) := by decide +kernel
theorem dL_law_861 : decode cL_law 861 = .ok (.iconst 2, 1) := by decide +kernel
theorem dL_law_862 : decode cL_law 862 = .ok (.iadd, 1) := by decide +kernel
theorem dL_law_863 : decode cL_law 863 = .ok (.iaload, 1) := by decide +kernel
theorem dL_law_864 : decode cL_law 864 = .ok (.aload_n 0, 1) := by decide +kernel
theorem dL_law_865 : decode cL_law 865 = .ok (.iload_n 3, 1) := by decide +kernel
theorem dL_law_866 : decode cL_law 866 = .ok (.iconst 3, 1) := by decide +kernel
theorem dL_law_867 : decode cL_law 867 = .ok (.iadd, 1) := by decide +kernel
theorem dL_law_868 : decode cL_law 868 = .ok (.iaload, 1) := by decide +kernel
theorem dL_law_869 : decode cL_law 869 = .ok (.invokevirtual 106, 3) := by decide +kernel
theorem dL_law_872 : decode cL_law 872 = .ok (.if_icmp .eq 110, 3) := by decide +kernel
theorem dL_law_875 : decode cL_law 875 = .ok (.iconst 0, 1) := by decide +kernel
theorem dL_law_876 : decode cL_law 876 = .ok (.ireturn, 1) := by decide +kernel
theorem dL_law_877 : decode cL_law 877 = .ok (.aload_n 1, 1) := by decide +kernel
theorem dL_law_878 : decode cL_law 878 = .ok (.aload_n 0, 1) := by decide +kernel
theorem dL_law_879 : decode cL_law 879 = .ok (.iload_n 3, 1) := by decide +kernel
theorem dL_law_880 : decode cL_law 880 = .ok (.iconst 1, 1) := by decide +kernel
theorem dL_law_881 : decode cL_law 881 = .ok (.iadd, 1) := by decide +kernel
theorem dL_law_882 : decode cL_law 882 = .ok (.iaload, 1) := by decide +kernel
theorem dL_law_883 : decode cL_law 883 = .ok (.invokevirtual 107, 3) := by decide +kernel
theorem dL_law_886 : decode cL_law 886 = .ok (.aload_n 2, 1) := by decide +kernel
theorem dL_law_887 : decode cL_law 887 = .ok (.aload_n 0, 1) := by decide +kernel
theorem dL_law_888 : decode cL_law 888 = .ok (.iload_n 3, 1) := by decide +kernel
theorem dL_law_889 : decode cL_law 889 = .ok (.iconst 1, 1) := by decide +kernel
theorem dL_law_890 : decode cL_law 890 = .ok (.iadd, 1) := by decide +kernel
theorem dL_law_891 : decode cL_law 891 = .ok (.iaload, 1) := by decide +kernel
theorem dL_law_892 : decode cL_law 892 = .ok (.invokevirtual 110, 3) := by decide +kernel
theorem dL_law_895 : decode cL_law 895 = .ok (.if_icmp .eq 87, 3) := by decide +kernel
theorem dL_law_898 : decode cL_law 898 = .ok (.iconst 0, 1) := by decide +kernel
theorem dL_law_899 : decode cL_law 899 = .ok (.ireturn, 1) := by decide +kernel
theorem dL_law_900 : decode cL_law 900 = .ok (.aload_n 1, 1) := by decide +kernel
theorem dL_law_901 : decode cL_law 901 = .ok (.aload_n 0, 1) := by decide +kernel
theorem dL_law_902 : decode cL_law 902 = .ok (.iload_n 3, 1) := by decide +kernel
theorem dL_law_903 : decode cL_law 903 = .ok (.iconst 1, 1) := by decide +kernel
theorem dL_law_904 : decode cL_law 904 = .ok (.iadd, 1) := by decide +kernel
theorem dL_law_905 : decode cL_law 905 = .ok (.iaload, 1) := by decide +kernel
theorem dL_law_906 : decode cL_law 906 = .ok (.aload_n 0, 1) := by decide +kernel
theorem dL_law_907 : decode cL_law 907 = .ok (.iload_n 3, 1) := by decide +kernel
theorem dL_law_908 : decode cL_law 908 = .ok (.iconst 2, 1) := by decide +kernel
theorem dL_law_909 : decode cL_law 909 = .ok (.iadd, 1) := by decide +kernel
theorem dL_law_910 : decode cL_law 910 = .ok (.iaload, 1) := by decide +kernel
theorem dL_law_911 : decode cL_law 911 = .ok (.invokevirtual 111, 3) := by decide +kernel
theorem dL_law_914 : decode cL_law 914 = .ok (.aload_n 2, 1) := by decide +kernel
theorem dL_law_915 : decode cL_law 915 = .ok (.aload_n 0, 1) := by decide +kernel
theorem dL_law_916 : decode cL_law 916 = .ok (.iload_n 3, 1) := by decide +kernel
theorem dL_law_917 : decode cL_law 917 = .ok (.iconst 1, 1) := by decide +kernel
theorem dL_law_918 : decode cL_law 918 = .ok (.iadd, 1) := by decide +kernel
theorem dL_law_919 : decode cL_law 919 = .ok (.iaload, 1) := by decide +kernel
theorem dL_law_920 : decode cL_law 920 = .ok (.aload_n 0, 1) := by decide +kernel
theorem dL_law_921 : decode cL_law 921 = .ok (.iload_n 3, 1) := by decide +kernel
theorem dL_law_922 : decode cL_law 922 = .ok (.iconst 2, 1) := by decide +kernel
theorem dL_law_923 : decode cL_law 923 = .ok (.iadd, 1) := by decide +kernel
theorem dL_law_924 : decode cL_law 924 = .ok (.iaload, 1) := by decide +kernel
theorem dL_law_925 : decode cL_law 925 = .ok (.invokevirtual 114, 3) := by decide +kernel
theorem dL_law_928 : decode cL_law 928 = .ok (.if_icmp .eq 54, 3) := by decide +kernel
theorem dL_law_931 : decode cL_law 931 = .ok (.iconst 0, 1) := by decide +kernel
theorem dL_law_932 : decode cL_law 932 = .ok (.ireturn, 1) := by decide +kernel
theorem dL_law_933 : decode cL_law 933 = .ok (.aload_n 1, 1) := by decide +kernel
theorem dL_law_934 : decode cL_law 934 = .ok (.invokevirtual 115, 3) := by decide +kernel
theorem dL_law_937 : decode cL_law 937 = .ok (.aload_n 2, 1) := by decide +kernel
theorem dL_law_938 : decode cL_law 938 = .ok (.invokevirtual 118, 3) := by decide +kernel
theorem dL_law_941 : decode cL_law 941 = .ok (.if_icmp .eq 41, 3) := by decide +kernel
theorem dL_law_944 : decode cL_law 944 = .ok (.iconst 0, 1) := by decide +kernel
theorem dL_law_945 : decode cL_law 945 = .ok (.ireturn, 1) := by decide +kernel
theorem dL_law_946 : decode cL_law 946 = .ok (.aload_n 1, 1) := by decide +kernel
theorem dL_law_947 : decode cL_law 947 = .ok (.invokevirtual 119, 3) := by decide +kernel
theorem dL_law_950 : decode cL_law 950 = .ok (.aload_n 2, 1) := by decide +kernel
theorem dL_law_951 : decode cL_law 951 = .ok (.invokevirtual 122, 3) := by decide +kernel
theorem dL_law_954 : decode cL_law 954 = .ok (.if_icmp .eq 28, 3) := by decide +kernel
theorem dL_law_957 : decode cL_law 957 = .ok (.iconst 0, 1) := by decide +kernel
theorem dL_law_958 : decode cL_law 958 = .ok (.ireturn, 1) := by decide +kernel
theorem dL_law_959 : decode cL_law 959 = .ok (.aload_n 1, 1) := by decide +kernel
theorem dL_law_960 : decode cL_law 960 = .ok (.aload_n 0, 1) := by decide +kernel
theorem dL_law_961 : decode cL_law 961 = .ok (.iload_n 3, 1) := by decide +kernel
theorem dL_law_962 : decode cL_law 962 = .ok (.iconst 1, 1) := by decide +kernel
theorem dL_law_963 : decode cL_law 963 = .ok (.iadd, 1) := by decide +kernel
theorem dL_law_964 : decode cL_law 964 = .ok (.iaload, 1) := by decide +kernel
theorem dL_law_965 : decode cL_law 965 = .ok (.invokevirtual 123, 3) := by decide +kernel
theorem dL_law_968 : decode cL_law 968 = .ok (.aload_n 2, 1) := by decide +kernel
theorem dL_law_969 : decode cL_law 969 = .ok (.aload_n 0, 1) := by decide +kernel
theorem dL_law_970 : decode cL_law 970 = .ok (.iload_n 3, 1) := by decide +kernel
theorem dL_law_971 : decode cL_law 971 = .ok (.iconst 1, 1) := by decide +kernel
theorem dL_law_972 : decode cL_law 972 = .ok (.iadd, 1) := by decide +kernel
theorem dL_law_973 : decode cL_law 973 = .ok (.iaload, 1) := by decide +kernel
theorem dL_law_974 : decode cL_law 974 = .ok (.invokevirtual 126, 3) := by decide +kernel
theorem dL_law_977 : decode cL_law 977 = .ok (.if_icmp .eq 5, 3) := by decide +kernel
theorem dL_law_980 : decode cL_law 980 = .ok (.iconst 0, 1) := by decide +kernel
theorem dL_law_981 : decode cL_law 981 = .ok (.ireturn, 1) := by decide +kernel
theorem dL_law_982 : decode cL_law 982 = .ok (.iinc 3 5, 3) := by decide +kernel
theorem dL_law_985 : decode cL_law 985 = .ok (.goto (-967), 3) := by decide +kernel
theorem dL_law_988 : decode cL_law 988 = .ok (.iconst 1, 1) := by decide +kernel
theorem dL_law_989 : decode cL_law 989 = .ok (.ireturn, 1) := by decide +kernel
theorem s_L_15_X11_feed_11 : gCv RL 15 11 M_X11_feed 2 := ⟨⟨gt_2 (List.mem_of_getElem? (i := 38) (by decide +kernel)) (by decide +kernel), gt_1 (List.mem_of_getElem? (i := 1) (by decide +kernel)) (by decide +kernel), gt_2 (List.mem_of_getElem? (i := 35) (by decide +kernel)) (by decide +kernel), ⟨by decide +kernel, by decide +kernel, by decide +kernel⟩, by decide⟩, gt_2 (List.mem_of_getElem? (i := 36) (by decide +kernel)) (by decide +kernel), gt_2 (List.mem_of_getElem? (i := 37) (by decide +kernel)) (by decide +kernel), by decide +kernel⟩
theorem s_L_19_X12_feed_12 : gCv RL 19 12 M_X12_feed 2 := ⟨⟨gt_5 (List.mem_of_getElem? (i := 83) (by decide +kernel)) (by decide +kernel), gt_1 (List.mem_of_getElem? (i := 6) (by decide +kernel)) (by decide +kernel), gt_5 (List.mem_of_getElem? (i := 80) (by decide +kernel)) (by decide +kernel), ⟨by decide +kernel, by decide +kernel, by decide +kernel⟩, by decide⟩, gt_5 (List.mem_of_getElem? (i := 81) (by decide +kernel)) (by decide +kernel), gt_5 (List.mem_of_getElem? (i := 82) (by decide +kernel)) (by decide +kernel), by decide +kernel⟩
theorem s_L_20_X11_road_11 : gCv RL 20 11 M_X11_road 0 := ⟨⟨gt_2 (List.mem_of_getElem? (i := 46) (by decide +kernel)) (by decide +kernel), gt_1 (List.mem_of_getElem? (i := 1) (by decide +kernel)) (by decide +kernel), gt_2 (List.mem_of_getElem? (i := 43) (by decide +kernel)) (by decide +kernel), ⟨by decide +kernel, by decide +kernel, by decide +kernel⟩, by decide⟩, gt_2 (List.mem_of_getElem? (i := 44) (by decide +kernel)) (by decide +kernel), gt_2 (List.mem_of_getElem? (i := 45) (by decide +kernel)) (by decide +kernel), by decide +kernel⟩
theorem s_L_24_X12_road_12 : gCv RL 24 12 M_X12_road 0 := ⟨⟨gt_5 (List.mem_of_getElem? (i := 91) (by decide +kernel)) (by decide +kernel), gt_1 (List.mem_of_getElem? (i := 6) (by decide +kernel)) (by decide +kernel), gt_5 (List.mem_of_getElem? (i := 88) (by decide +kernel)) (by decide +kernel), ⟨by decide +kernel, by decide +kernel, by decide +kernel⟩, by decide⟩, gt_5 (List.mem_of_getElem? (i := 89) (by decide +kernel)) (by decide +kernel), gt_5 (List.mem_of_getElem? (i := 90) (by decide +kernel)) (by decide +kernel), by decide +kernel⟩
theorem s_L_25_X11_of_11 : gCv RL 25 11 M_X11_of 2 := ⟨⟨gt_3 (List.mem_of_getElem? (i := 31) (by decide +kernel)) (by decide +kernel), gt_1 (List.mem_of_getElem? (i := 1) (by decide +kernel)) (by decide +kernel), gt_3 (List.mem_of_getElem? (i := 28) (by decide +kernel)) (by decide +kernel), ⟨by decide +kernel, by decide +kernel, by decide +kernel⟩, by decide⟩, gt_3 (List.mem_of_getElem? (i := 29) (by decide +kernel)) (by decide +kernel), gt_3 (List.mem_of_getElem? (i := 30) (by decide +kernel)) (by decide +kernel), by decide +kernel⟩
theorem s_L_29_X12_of_12 : gCv RL 29 12 M_X12_of 2 := ⟨⟨gt_5 (List.mem_of_getElem? (i := 162) (by decide +kernel)) (by decide +kernel), gt_1 (List.mem_of_getElem? (i := 6) (by decide +kernel)) (by decide +kernel), gt_5 (List.mem_of_getElem? (i := 159) (by decide +kernel)) (by decide +kernel), ⟨by decide +kernel, by decide +kernel, by decide +kernel⟩, by decide⟩, gt_5 (List.mem_of_getElem? (i := 160) (by decide +kernel)) (by decide +kernel), gt_5 (List.mem_of_getElem? (i := 161) (by decide +kernel)) (by decide +kernel), by decide +kernel⟩
theorem s_L_30_X11_told_11 : gCv RL 30 11 M_X11_told 1 := ⟨⟨gt_3 (List.mem_of_getElem? (i := 39) (by decide +kernel)) (by decide +kernel), gt_1 (List.mem_of_getElem? (i := 1) (by decide +kernel)) (by decide +kernel), gt_3 (List.mem_of_getElem? (i := 36) (by decide +kernel)) (by decide +kernel), ⟨by decide +kernel, by decide +kernel, by decide +kernel⟩, by decide⟩, gt_3 (List.mem_of_getElem? (i := 37) (by decide +kernel)) (by decide +kernel), gt_3 (List.mem_of_getElem? (i := 38) (by decide +kernel)) (by decide +kernel), by decide +kernel⟩
theorem s_L_34_X12_told_12 : gCv RL 34 12 M_X12_told 1 := ⟨⟨gt_5 (List.mem_of_getElem? (i := 190) (by decide +kernel)) (by decide +kernel), gt_1 (List.mem_of_getElem? (i := 6) (by decide +kernel)) (by decide +kernel), gt_5 (List.mem_of_getElem? (i := 187) (by decide +kernel)) (by decide +kernel), ⟨by decide +kernel, by decide +kernel, by decide +kernel⟩, by decide⟩, gt_5 (List.mem_of_getElem? (i := 188) (by decide +kernel)) (by decide +kernel), gt_5 (List.mem_of_getElem? (i := 189) (by decide +kernel)) (by decide +kernel), by decide +kernel⟩
theorem s_L_35_X11_rides_11 : gCv RL 35 11 M_X11_rides 4 := ⟨⟨gt_3 (List.mem_of_getElem? (i := 43) (by decide +kernel)) (by decide +kernel), gt_1 (List.mem_of_getElem? (i := 1) (by decide +kernel)) (by decide +kernel), gt_3 (List.mem_of_getElem? (i := 40) (by decide +kernel)) (by decide +kernel), ⟨by decide +kernel, by decide +kernel, by decide +kernel⟩, by decide⟩, gt_3 (List.mem_of_getElem? (i := 41) (by decide +kernel)) (by decide +kernel), gt_3 (List.mem_of_getElem? (i := 42) (by decide +kernel)) (by decide +kernel), by decide +kernel⟩
theorem s_L_39_X12_rides_12 : gCv RL 39 12 M_X12_rides 4 := ⟨⟨gt_5 (List.mem_of_getElem? (i := 206) (by decide +kernel)) (by decide +kernel), gt_1 (List.mem_of_getElem? (i := 6) (by decide +kernel)) (by decide +kernel), gt_5 (List.mem_of_getElem? (i := 203) (by decide +kernel)) (by decide +kernel), ⟨by decide +kernel, by decide +kernel, by decide +kernel⟩, by decide⟩, gt_5 (List.mem_of_getElem? (i := 204) (by decide +kernel)) (by decide +kernel), gt_5 (List.mem_of_getElem? (i := 205) (by decide +kernel)) (by decide +kernel), by decide +kernel⟩
theorem s_L_40_X11_way_11 : gCv RL 40 11 M_X11_way 2 := ⟨⟨gt_3 (List.mem_of_getElem? (i := 86) (by decide +kernel)) (by decide +kernel), gt_1 (List.mem_of_getElem? (i := 1) (by decide +kernel)) (by decide +kernel), gt_3 (List.mem_of_getElem? (i := 83) (by decide +kernel)) (by decide +kernel), ⟨by decide +kernel, by decide +kernel, by decide +kernel⟩, by decide⟩, gt_3 (List.mem_of_getElem? (i := 84) (by decide +kernel)) (by decide +kernel), gt_3 (List.mem_of_getElem? (i := 85) (by decide +kernel)) (by decide +kernel), by decide +kernel⟩
theorem s_L_43_X12_way_12 : gCv RL 43 12 M_X12_way 2 := ⟨⟨gt_6 (List.mem_of_getElem? (i := 2) (by decide +kernel)) (by decide +kernel), gt_1 (List.mem_of_getElem? (i := 6) (by decide +kernel)) (by decide +kernel), gt_5 (List.mem_of_getElem? (i := 239) (by decide +kernel)) (by decide +kernel), ⟨by decide +kernel, by decide +kernel, by decide +kernel⟩, by decide⟩, gt_6 (List.mem_of_getElem? (i := 0) (by decide +kernel)) (by decide +kernel), gt_6 (List.mem_of_getElem? (i := 1) (by decide +kernel)) (by decide +kernel), by decide +kernel⟩
theorem s_L_44_X11_line_11 : gCv RL 44 11 M_X11_line 3 := ⟨⟨gt_3 (List.mem_of_getElem? (i := 181) (by decide +kernel)) (by decide +kernel), gt_1 (List.mem_of_getElem? (i := 1) (by decide +kernel)) (by decide +kernel), gt_3 (List.mem_of_getElem? (i := 178) (by decide +kernel)) (by decide +kernel), ⟨by decide +kernel, by decide +kernel, by decide +kernel⟩, by decide⟩, gt_3 (List.mem_of_getElem? (i := 179) (by decide +kernel)) (by decide +kernel), gt_3 (List.mem_of_getElem? (i := 180) (by decide +kernel)) (by decide +kernel), by decide +kernel⟩
theorem s_L_48_X12_line_12 : gCv RL 48 12 M_X12_line 3 := ⟨⟨gt_6 (List.mem_of_getElem? (i := 6) (by decide +kernel)) (by decide +kernel), gt_1 (List.mem_of_getElem? (i := 6) (by decide +kernel)) (by decide +kernel), gt_6 (List.mem_of_getElem? (i := 3) (by decide +kernel)) (by decide +kernel), ⟨by decide +kernel, by decide +kernel, by decide +kernel⟩, by decide⟩, gt_6 (List.mem_of_getElem? (i := 4) (by decide +kernel)) (by decide +kernel), gt_6 (List.mem_of_getElem? (i := 5) (by decide +kernel)) (by decide +kernel), by decide +kernel⟩
theorem s_L_49_X11_takes_11 : gCv RL 49 11 M_X11_takes 3 := ⟨⟨gt_3 (List.mem_of_getElem? (i := 194) (by decide +kernel)) (by decide +kernel), gt_1 (List.mem_of_getElem? (i := 1) (by decide +kernel)) (by decide +kernel), gt_3 (List.mem_of_getElem? (i := 191) (by decide +kernel)) (by decide +kernel), ⟨by decide +kernel, by decide +kernel, by decide +kernel⟩, by decide⟩, gt_3 (List.mem_of_getElem? (i := 192) (by decide +kernel)) (by decide +kernel), gt_3 (List.mem_of_getElem? (i := 193) (by decide +kernel)) (by decide +kernel), by decide +kernel⟩
theorem s_L_52_X12_takes_12 : gCv RL 52 12 M_X12_takes 3 := ⟨⟨gt_6 (List.mem_of_getElem? (i := 14) (by decide +kernel)) (by decide +kernel), gt_1 (List.mem_of_getElem? (i := 6) (by decide +kernel)) (by decide +kernel), gt_6 (List.mem_of_getElem? (i := 11) (by decide +kernel)) (by decide +kernel), ⟨by decide +kernel, by decide +kernel, by decide +kernel⟩, by decide⟩, gt_6 (List.mem_of_getElem? (i := 12) (by decide +kernel)) (by decide +kernel), gt_6 (List.mem_of_getElem? (i := 13) (by decide +kernel)) (by decide +kernel), by decide +kernel⟩
theorem s_L_53_X11_ride_11 : gCv RL 53 11 M_X11_ride 2 := ⟨⟨gt_4 (List.mem_of_getElem? (i := 11) (by decide +kernel)) (by decide +kernel), gt_1 (List.mem_of_getElem? (i := 1) (by decide +kernel)) (by decide +kernel), gt_4 (List.mem_of_getElem? (i := 8) (by decide +kernel)) (by decide +kernel), ⟨by decide +kernel, by decide +kernel, by decide +kernel⟩, by decide⟩, gt_4 (List.mem_of_getElem? (i := 9) (by decide +kernel)) (by decide +kernel), gt_4 (List.mem_of_getElem? (i := 10) (by decide +kernel)) (by decide +kernel), by decide +kernel⟩
theorem s_L_56_X12_ride_12 : gCv RL 56 12 M_X12_ride 2 := ⟨⟨gt_6 (List.mem_of_getElem? (i := 30) (by decide +kernel)) (by decide +kernel), gt_1 (List.mem_of_getElem? (i := 6) (by decide +kernel)) (by decide +kernel), gt_6 (List.mem_of_getElem? (i := 27) (by decide +kernel)) (by decide +kernel), ⟨by decide +kernel, by decide +kernel, by decide +kernel⟩, by decide⟩, gt_6 (List.mem_of_getElem? (i := 28) (by decide +kernel)) (by decide +kernel), gt_6 (List.mem_of_getElem? (i := 29) (by decide +kernel)) (by decide +kernel), by decide +kernel⟩
theorem s_L_57_X11_soonest_11 : gCv RL 57 11 M_X11_soonest 3 := ⟨⟨gt_4 (List.mem_of_getElem? (i := 28) (by decide +kernel)) (by decide +kernel), gt_1 (List.mem_of_getElem? (i := 1) (by decide +kernel)) (by decide +kernel), gt_4 (List.mem_of_getElem? (i := 25) (by decide +kernel)) (by decide +kernel), ⟨by decide +kernel, by decide +kernel, by decide +kernel⟩, by decide⟩, gt_4 (List.mem_of_getElem? (i := 26) (by decide +kernel)) (by decide +kernel), gt_4 (List.mem_of_getElem? (i := 27) (by decide +kernel)) (by decide +kernel), by decide +kernel⟩
theorem s_L_60_X12_soonest_12 : gCv RL 60 12 M_X12_soonest 3 := ⟨⟨gt_5 (List.mem_of_getElem? (i := 230) (by decide +kernel)) (by decide +kernel), gt_1 (List.mem_of_getElem? (i := 6) (by decide +kernel)) (by decide +kernel), gt_5 (List.mem_of_getElem? (i := 227) (by decide +kernel)) (by decide +kernel), ⟨by decide +kernel, by decide +kernel, by decide +kernel⟩, by decide⟩, gt_5 (List.mem_of_getElem? (i := 228) (by decide +kernel)) (by decide +kernel), gt_5 (List.mem_of_getElem? (i := 229) (by decide +kernel)) (by decide +kernel), by decide +kernel⟩
theorem s_L_61_X11_price_11 : gCv RL 61 11 M_X11_price 2 := ⟨⟨gt_4 (List.mem_of_getElem? (i := 41) (by decide +kernel)) (by decide +kernel), gt_1 (List.mem_of_getElem? (i := 1) (by decide +kernel)) (by decide +kernel), gt_4 (List.mem_of_getElem? (i := 38) (by decide +kernel)) (by decide +kernel), ⟨by decide +kernel, by decide +kernel, by decide +kernel⟩, by decide⟩, gt_4 (List.mem_of_getElem? (i := 39) (by decide +kernel)) (by decide +kernel), gt_4 (List.mem_of_getElem? (i := 40) (by decide +kernel)) (by decide +kernel), by decide +kernel⟩
theorem s_L_64_X12_price_12 : gCv RL 64 12 M_X12_price 2 := ⟨⟨gt_5 (List.mem_of_getElem? (i := 238) (by decide +kernel)) (by decide +kernel), gt_1 (List.mem_of_getElem? (i := 6) (by decide +kernel)) (by decide +kernel), gt_5 (List.mem_of_getElem? (i := 235) (by decide +kernel)) (by decide +kernel), ⟨by decide +kernel, by decide +kernel, by decide +kernel⟩, by decide⟩, gt_5 (List.mem_of_getElem? (i := 236) (by decide +kernel)) (by decide +kernel), gt_5 (List.mem_of_getElem? (i := 237) (by decide +kernel)) (by decide +kernel), by decide +kernel⟩
theorem s_L_65_X11_loses_11 : gCv RL 65 11 M_X11_loses 1 := ⟨⟨gt_4 (List.mem_of_getElem? (i := 45) (by decide +kernel)) (by decide +kernel), gt_1 (List.mem_of_getElem? (i := 1) (by decide +kernel)) (by decide +kernel), gt_4 (List.mem_of_getElem? (i := 42) (by decide +kernel)) (by decide +kernel), ⟨by decide +kernel, by decide +kernel, by decide +kernel⟩, by decide⟩, gt_4 (List.mem_of_getElem? (i := 43) (by decide +kernel)) (by decide +kernel), gt_4 (List.mem_of_getElem? (i := 44) (by decide +kernel)) (by decide +kernel), by decide +kernel⟩
theorem s_L_68_X12_loses_12 : gCv RL 68 12 M_X12_loses 1 := ⟨⟨gt_6 (List.mem_of_getElem? (i := 41) (by decide +kernel)) (by decide +kernel), gt_1 (List.mem_of_getElem? (i := 6) (by decide +kernel)) (by decide +kernel), gt_6 (List.mem_of_getElem? (i := 38) (by decide +kernel)) (by decide +kernel), ⟨by decide +kernel, by decide +kernel, by decide +kernel⟩, by decide⟩, gt_6 (List.mem_of_getElem? (i := 39) (by decide +kernel)) (by decide +kernel), gt_6 (List.mem_of_getElem? (i := 40) (by decide +kernel)) (by decide +kernel), by decide +kernel⟩
theorem s_L_69_X11_row_11 : gCv RL 69 11 M_X11_row 1 := ⟨⟨gt_4 (List.mem_of_getElem? (i := 49) (by decide +kernel)) (by decide +kernel), gt_1 (List.mem_of_getElem? (i := 1) (by decide +kernel)) (by decide +kernel), gt_4 (List.mem_of_getElem? (i := 46) (by decide +kernel)) (by decide +kernel), ⟨by decide +kernel, by decide +kernel, by decide +kernel⟩, by decide⟩, gt_4 (List.mem_of_getElem? (i := 47) (by decide +kernel)) (by decide +kernel), gt_4 (List.mem_of_getElem? (i := 48) (by decide +kernel)) (by decide +kernel), by decide +kernel⟩
theorem s_L_72_X12_row_12 : gCv RL 72 12 M_X12_row 1 := ⟨⟨gt_6 (List.mem_of_getElem? (i := 45) (by decide +kernel)) (by decide +kernel), gt_1 (List.mem_of_getElem? (i := 6) (by decide +kernel)) (by decide +kernel), gt_6 (List.mem_of_getElem? (i := 42) (by decide +kernel)) (by decide +kernel), ⟨by decide +kernel, by decide +kernel, by decide +kernel⟩, by decide⟩, gt_6 (List.mem_of_getElem? (i := 43) (by decide +kernel)) (by decide +kernel), gt_6 (List.mem_of_getElem? (i := 44) (by decide +kernel)) (by decide +kernel), by decide +kernel⟩
theorem s_L_73_X11_judged_11 : gCv RL 73 11 M_X11_judged 1 := ⟨⟨gt_4 (List.mem_of_getElem? (i := 57) (by decide +kernel)) (by decide +kernel), gt_1 (List.mem_of_getElem? (i := 1) (by decide +kernel)) (by decide +kernel), gt_4 (List.mem_of_getElem? (i := 54) (by decide +kernel)) (by decide +kernel), ⟨by decide +kernel, by decide +kernel, by decide +kernel⟩, by decide⟩, gt_4 (List.mem_of_getElem? (i := 55) (by decide +kernel)) (by decide +kernel), gt_4 (List.mem_of_getElem? (i := 56) (by decide +kernel)) (by decide +kernel), by decide +kernel⟩
theorem s_L_76_X12_judged_12 : gCv RL 76 12 M_X12_judged 1 := ⟨⟨gt_6 (List.mem_of_getElem? (i := 49) (by decide +kernel)) (by decide +kernel), gt_1 (List.mem_of_getElem? (i := 6) (by decide +kernel)) (by decide +kernel), gt_6 (List.mem_of_getElem? (i := 46) (by decide +kernel)) (by decide +kernel), ⟨by decide +kernel, by decide +kernel, by decide +kernel⟩, by decide⟩, gt_6 (List.mem_of_getElem? (i := 47) (by decide +kernel)) (by decide +kernel), gt_6 (List.mem_of_getElem? (i := 48) (by decide +kernel)) (by decide +kernel), by decide +kernel⟩
theorem s_L_77_X11_mean_11 : gCv RL 77 11 M_X11_mean 2 := ⟨⟨gt_4 (List.mem_of_getElem? (i := 81) (by decide +kernel)) (by decide +kernel), gt_1 (List.mem_of_getElem? (i := 1) (by decide +kernel)) (by decide +kernel), gt_4 (List.mem_of_getElem? (i := 78) (by decide +kernel)) (by decide +kernel), ⟨by decide +kernel, by decide +kernel, by decide +kernel⟩, by decide⟩, gt_4 (List.mem_of_getElem? (i := 79) (by decide +kernel)) (by decide +kernel), gt_4 (List.mem_of_getElem? (i := 80) (by decide +kernel)) (by decide +kernel), by decide +kernel⟩
theorem s_L_81_X12_mean_12 : gCv RL 81 12 M_X12_mean 2 := ⟨⟨gt_6 (List.mem_of_getElem? (i := 53) (by decide +kernel)) (by decide +kernel), gt_1 (List.mem_of_getElem? (i := 6) (by decide +kernel)) (by decide +kernel), gt_6 (List.mem_of_getElem? (i := 50) (by decide +kernel)) (by decide +kernel), ⟨by decide +kernel, by decide +kernel, by decide +kernel⟩, by decide⟩, gt_6 (List.mem_of_getElem? (i := 51) (by decide +kernel)) (by decide +kernel), gt_6 (List.mem_of_getElem? (i := 52) (by decide +kernel)) (by decide +kernel), by decide +kernel⟩
theorem s_L_82_X11_sure_11 : gCv RL 82 11 M_X11_sure 3 := ⟨⟨gt_4 (List.mem_of_getElem? (i := 103) (by decide +kernel)) (by decide +kernel), gt_1 (List.mem_of_getElem? (i := 1) (by decide +kernel)) (by decide +kernel), gt_4 (List.mem_of_getElem? (i := 100) (by decide +kernel)) (by decide +kernel), ⟨by decide +kernel, by decide +kernel, by decide +kernel⟩, by decide⟩, gt_4 (List.mem_of_getElem? (i := 101) (by decide +kernel)) (by decide +kernel), gt_4 (List.mem_of_getElem? (i := 102) (by decide +kernel)) (by decide +kernel), by decide +kernel⟩
theorem s_L_86_X12_sure_12 : gCv RL 86 12 M_X12_sure 3 := ⟨⟨gt_6 (List.mem_of_getElem? (i := 74) (by decide +kernel)) (by decide +kernel), gt_1 (List.mem_of_getElem? (i := 6) (by decide +kernel)) (by decide +kernel), gt_6 (List.mem_of_getElem? (i := 71) (by decide +kernel)) (by decide +kernel), ⟨by decide +kernel, by decide +kernel, by decide +kernel⟩, by decide⟩, gt_6 (List.mem_of_getElem? (i := 72) (by decide +kernel)) (by decide +kernel), gt_6 (List.mem_of_getElem? (i := 73) (by decide +kernel)) (by decide +kernel), by decide +kernel⟩
theorem s_L_87_X11_gears_11 : gCv RL 87 11 M_X11_gears 2 := ⟨⟨gt_4 (List.mem_of_getElem? (i := 107) (by decide +kernel)) (by decide +kernel), gt_1 (List.mem_of_getElem? (i := 1) (by decide +kernel)) (by decide +kernel), gt_4 (List.mem_of_getElem? (i := 104) (by decide +kernel)) (by decide +kernel), ⟨by decide +kernel, by decide +kernel, by decide +kernel⟩, by decide⟩, gt_4 (List.mem_of_getElem? (i := 105) (by decide +kernel)) (by decide +kernel), gt_4 (List.mem_of_getElem? (i := 106) (by decide +kernel)) (by decide +kernel), by decide +kernel⟩
theorem s_L_90_X12_gears_12 : gCv RL 90 12 M_X12_gears 2 := ⟨⟨gt_6 (List.mem_of_getElem? (i := 78) (by decide +kernel)) (by decide +kernel), gt_1 (List.mem_of_getElem? (i := 6) (by decide +kernel)) (by decide +kernel), gt_6 (List.mem_of_getElem? (i := 75) (by decide +kernel)) (by decide +kernel), ⟨by decide +kernel, by decide +kernel, by decide +kernel⟩, by decide⟩, gt_6 (List.mem_of_getElem? (i := 76) (by decide +kernel)) (by decide +kernel), gt_6 (List.mem_of_getElem? (i := 77) (by decide +kernel)) (by decide +kernel), by decide +kernel⟩
theorem s_L_91_X11_by_11 : gCv RL 91 11 M_X11_by 1 := ⟨⟨gt_4 (List.mem_of_getElem? (i := 132) (by decide +kernel)) (by decide +kernel), gt_1 (List.mem_of_getElem? (i := 1) (by decide +kernel)) (by decide +kernel), gt_4 (List.mem_of_getElem? (i := 129) (by decide +kernel)) (by decide +kernel), ⟨by decide +kernel, by decide +kernel, by decide +kernel⟩, by decide⟩, gt_4 (List.mem_of_getElem? (i := 130) (by decide +kernel)) (by decide +kernel), gt_4 (List.mem_of_getElem? (i := 131) (by decide +kernel)) (by decide +kernel), by decide +kernel⟩
theorem s_L_94_X12_by_12 : gCv RL 94 12 M_X12_by 1 := ⟨⟨gt_6 (List.mem_of_getElem? (i := 89) (by decide +kernel)) (by decide +kernel), gt_1 (List.mem_of_getElem? (i := 6) (by decide +kernel)) (by decide +kernel), gt_6 (List.mem_of_getElem? (i := 86) (by decide +kernel)) (by decide +kernel), ⟨by decide +kernel, by decide +kernel, by decide +kernel⟩, by decide⟩, gt_6 (List.mem_of_getElem? (i := 87) (by decide +kernel)) (by decide +kernel), gt_6 (List.mem_of_getElem? (i := 88) (by decide +kernel)) (by decide +kernel), by decide +kernel⟩
theorem s_L_95_X11_wheel_11 : gCv RL 95 11 M_X11_wheel 3 := ⟨⟨gt_4 (List.mem_of_getElem? (i := 137) (by decide +kernel)) (by decide +kernel), gt_1 (List.mem_of_getElem? (i := 1) (by decide +kernel)) (by decide +kernel), gt_4 (List.mem_of_getElem? (i := 134) (by decide +kernel)) (by decide +kernel), ⟨by decide +kernel, by decide +kernel, by decide +kernel⟩, by decide⟩, gt_4 (List.mem_of_getElem? (i := 135) (by decide +kernel)) (by decide +kernel), gt_4 (List.mem_of_getElem? (i := 136) (by decide +kernel)) (by decide +kernel), by decide +kernel⟩
theorem s_L_98_X12_wheel_12 : gCv RL 98 12 M_X12_wheel 3 := ⟨⟨gt_6 (List.mem_of_getElem? (i := 93) (by decide +kernel)) (by decide +kernel), gt_1 (List.mem_of_getElem? (i := 6) (by decide +kernel)) (by decide +kernel), gt_6 (List.mem_of_getElem? (i := 90) (by decide +kernel)) (by decide +kernel), ⟨by decide +kernel, by decide +kernel, by decide +kernel⟩, by decide⟩, gt_6 (List.mem_of_getElem? (i := 91) (by decide +kernel)) (by decide +kernel), gt_6 (List.mem_of_getElem? (i := 92) (by decide +kernel)) (by decide +kernel), by decide +kernel⟩
theorem s_L_99_X11_laps_11 : gCv RL 99 11 M_X11_laps 1 := ⟨⟨gt_4 (List.mem_of_getElem? (i := 141) (by decide +kernel)) (by decide +kernel), gt_1 (List.mem_of_getElem? (i := 1) (by decide +kernel)) (by decide +kernel), gt_4 (List.mem_of_getElem? (i := 138) (by decide +kernel)) (by decide +kernel), ⟨by decide +kernel, by decide +kernel, by decide +kernel⟩, by decide⟩, gt_4 (List.mem_of_getElem? (i := 139) (by decide +kernel)) (by decide +kernel), gt_4 (List.mem_of_getElem? (i := 140) (by decide +kernel)) (by decide +kernel), by decide +kernel⟩
theorem s_L_102_X12_laps_12 : gCv RL 102 12 M_X12_laps 1 := ⟨⟨gt_6 (List.mem_of_getElem? (i := 97) (by decide +kernel)) (by decide +kernel), gt_1 (List.mem_of_getElem? (i := 6) (by decide +kernel)) (by decide +kernel), gt_6 (List.mem_of_getElem? (i := 94) (by decide +kernel)) (by decide +kernel), ⟨by decide +kernel, by decide +kernel, by decide +kernel⟩, by decide⟩, gt_6 (List.mem_of_getElem? (i := 95) (by decide +kernel)) (by decide +kernel), gt_6 (List.mem_of_getElem? (i := 96) (by decide +kernel)) (by decide +kernel), by decide +kernel⟩
theorem s_L_103_X11_act_11 : gCv RL 103 11 M_X11_act 3 := ⟨⟨gt_4 (List.mem_of_getElem? (i := 145) (by decide +kernel)) (by decide +kernel), gt_1 (List.mem_of_getElem? (i := 1) (by decide +kernel)) (by decide +kernel), gt_4 (List.mem_of_getElem? (i := 142) (by decide +kernel)) (by decide +kernel), ⟨by decide +kernel, by decide +kernel, by decide +kernel⟩, by decide⟩, gt_4 (List.mem_of_getElem? (i := 143) (by decide +kernel)) (by decide +kernel), gt_4 (List.mem_of_getElem? (i := 144) (by decide +kernel)) (by decide +kernel), by decide +kernel⟩
theorem s_L_106_X12_act_12 : gCv RL 106 12 M_X12_act 3 := ⟨⟨gt_6 (List.mem_of_getElem? (i := 101) (by decide +kernel)) (by decide +kernel), gt_1 (List.mem_of_getElem? (i := 6) (by decide +kernel)) (by decide +kernel), gt_6 (List.mem_of_getElem? (i := 98) (by decide +kernel)) (by decide +kernel), ⟨by decide +kernel, by decide +kernel, by decide +kernel⟩, by decide⟩, gt_6 (List.mem_of_getElem? (i := 99) (by decide +kernel)) (by decide +kernel), gt_6 (List.mem_of_getElem? (i := 100) (by decide +kernel)) (by decide +kernel), by decide +kernel⟩
theorem s_L_107_X11_trace_11 : gCv RL 107 11 M_X11_trace 1 := ⟨⟨gt_4 (List.mem_of_getElem? (i := 218) (by decide +kernel)) (by decide +kernel), gt_1 (List.mem_of_getElem? (i := 1) (by decide +kernel)) (by decide +kernel), gt_4 (List.mem_of_getElem? (i := 215) (by decide +kernel)) (by decide +kernel), ⟨by decide +kernel, by decide +kernel, by decide +kernel⟩, by decide⟩, gt_4 (List.mem_of_getElem? (i := 216) (by decide +kernel)) (by decide +kernel), gt_4 (List.mem_of_getElem? (i := 217) (by decide +kernel)) (by decide +kernel), by decide +kernel⟩
theorem s_L_110_X12_trace_12 : gCv RL 110 12 M_X12_trace 1 := ⟨⟨gt_6 (List.mem_of_getElem? (i := 144) (by decide +kernel)) (by decide +kernel), gt_1 (List.mem_of_getElem? (i := 6) (by decide +kernel)) (by decide +kernel), gt_6 (List.mem_of_getElem? (i := 141) (by decide +kernel)) (by decide +kernel), ⟨by decide +kernel, by decide +kernel, by decide +kernel⟩, by decide⟩, gt_6 (List.mem_of_getElem? (i := 142) (by decide +kernel)) (by decide +kernel), gt_6 (List.mem_of_getElem? (i := 143) (by decide +kernel)) (by decide +kernel), by decide +kernel⟩
theorem s_L_111_X11_as_11 : gCv RL 111 11 M_X11_as 2 := ⟨⟨gt_4 (List.mem_of_getElem? (i := 222) (by decide +kernel)) (by decide +kernel), gt_1 (List.mem_of_getElem? (i := 1) (by decide +kernel)) (by decide +kernel), gt_4 (List.mem_of_getElem? (i := 219) (by decide +kernel)) (by decide +kernel), ⟨by decide +kernel, by decide +kernel, by decide +kernel⟩, by decide⟩, gt_4 (List.mem_of_getElem? (i := 220) (by decide +kernel)) (by decide +kernel), gt_4 (List.mem_of_getElem? (i := 221) (by decide +kernel)) (by decide +kernel), by decide +kernel⟩
theorem s_L_114_X12_as_12 : gCv RL 114 12 M_X12_as 2 := ⟨⟨gt_6 (List.mem_of_getElem? (i := 148) (by decide +kernel)) (by decide +kernel), gt_1 (List.mem_of_getElem? (i := 6) (by decide +kernel)) (by decide +kernel), gt_6 (List.mem_of_getElem? (i := 145) (by decide +kernel)) (by decide +kernel), ⟨by decide +kernel, by decide +kernel, by decide +kernel⟩, by decide⟩, gt_6 (List.mem_of_getElem? (i := 146) (by decide +kernel)) (by decide +kernel), gt_6 (List.mem_of_getElem? (i := 147) (by decide +kernel)) (by decide +kernel), by decide +kernel⟩
theorem s_L_115_X11_image_11 : gCv RL 115 11 M_X11_image 0 := ⟨⟨gt_4 (List.mem_of_getElem? (i := 229) (by decide +kernel)) (by decide +kernel), gt_1 (List.mem_of_getElem? (i := 1) (by decide +kernel)) (by decide +kernel), gt_4 (List.mem_of_getElem? (i := 226) (by decide +kernel)) (by decide +kernel), ⟨by decide +kernel, by decide +kernel, by decide +kernel⟩, by decide⟩, gt_4 (List.mem_of_getElem? (i := 227) (by decide +kernel)) (by decide +kernel), gt_4 (List.mem_of_getElem? (i := 228) (by decide +kernel)) (by decide +kernel), by decide +kernel⟩
theorem s_L_118_X12_image_12 : gCv RL 118 12 M_X12_image 0 := ⟨⟨gt_6 (List.mem_of_getElem? (i := 152) (by decide +kernel)) (by decide +kernel), gt_1 (List.mem_of_getElem? (i := 6) (by decide +kernel)) (by decide +kernel), gt_6 (List.mem_of_getElem? (i := 149) (by decide +kernel)) (by decide +kernel), ⟨by decide +kernel, by decide +kernel, by decide +kernel⟩, by decide⟩, gt_6 (List.mem_of_getElem? (i := 150) (by decide +kernel)) (by decide +kernel), gt_6 (List.mem_of_getElem? (i := 151) (by decide +kernel)) (by decide +kernel), by decide +kernel⟩
theorem s_L_119_X11_undo_11 : gCv RL 119 11 M_X11_undo 0 := ⟨⟨gt_4 (List.mem_of_getElem? (i := 239) (by decide +kernel)) (by decide +kernel), gt_1 (List.mem_of_getElem? (i := 1) (by decide +kernel)) (by decide +kernel), gt_4 (List.mem_of_getElem? (i := 236) (by decide +kernel)) (by decide +kernel), ⟨by decide +kernel, by decide +kernel, by decide +kernel⟩, by decide⟩, gt_4 (List.mem_of_getElem? (i := 237) (by decide +kernel)) (by decide +kernel), gt_4 (List.mem_of_getElem? (i := 238) (by decide +kernel)) (by decide +kernel), by decide +kernel⟩
theorem s_L_122_X12_undo_12 : gCv RL 122 12 M_X12_undo 0 := ⟨⟨gt_6 (List.mem_of_getElem? (i := 156) (by decide +kernel)) (by decide +kernel), gt_1 (List.mem_of_getElem? (i := 6) (by decide +kernel)) (by decide +kernel), gt_6 (List.mem_of_getElem? (i := 153) (by decide +kernel)) (by decide +kernel), ⟨by decide +kernel, by decide +kernel, by decide +kernel⟩, by decide⟩, gt_6 (List.mem_of_getElem? (i := 154) (by decide +kernel)) (by decide +kernel), gt_6 (List.mem_of_getElem? (i := 155) (by decide +kernel)) (by decide +kernel), by decide +kernel⟩
theorem s_L_123_X11_count_11 : gCv RL 123 11 M_X11_count 1 := ⟨⟨gt_5 (List.mem_of_getElem? (i := 3) (by decide +kernel)) (by decide +kernel), gt_1 (List.mem_of_getElem? (i := 1) (by decide +kernel)) (by decide +kernel), gt_5 (List.mem_of_getElem? (i := 0) (by decide +kernel)) (by decide +kernel), ⟨by decide +kernel, by decide +kernel, by decide +kernel⟩, by decide⟩, gt_5 (List.mem_of_getElem? (i := 1) (by decide +kernel)) (by decide +kernel), gt_5 (List.mem_of_getElem? (i := 2) (by decide +kernel)) (by decide +kernel), by decide +kernel⟩
theorem s_L_126_X12_count_12 : gCv RL 126 12 M_X12_count 1 := ⟨⟨gt_6 (List.mem_of_getElem? (i := 160) (by decide +kernel)) (by decide +kernel), gt_1 (List.mem_of_getElem? (i := 6) (by decide +kernel)) (by decide +kernel), gt_6 (List.mem_of_getElem? (i := 157) (by decide +kernel)) (by decide +kernel), ⟨by decide +kernel, by decide +kernel, by decide +kernel⟩, by decide⟩, gt_6 (List.mem_of_getElem? (i := 158) (by decide +kernel)) (by decide +kernel), gt_6 (List.mem_of_getElem? (i := 159) (by decide +kernel)) (by decide +kernel), by decide +kernel⟩
theorem lg_cmp_self (x : Int64) : lg_cmp x x = 0 := by
  simp [lg_cmp]
theorem lg_tswK {b L kc kn pc : Nat} {xs : Nat → Int32} {iv : Int32} {st : List Value} {h : gH} {dflt lo hi : Int} {offs : Array Int} {len : Nat} {x k : Int32} {off : Int} {tgt : Nat} (hdg : decode code pc = .ok (.tableswitch dflt lo hi offs, len)) (hx : x = k) (h1 : ¬ k.toInt < lo) (h2 : ¬ hi < k.toInt) (ho : offs[(k.toInt - lo).toNat]? = some off) (ht : (pc : Int) + off = (tgt : Int)) (kk : LG b L xs kc kn tgt iv st h) : LG b L xs kc kn pc iv (.int x :: st) h := by
  subst hx
  exact lg_tableIn hdg h1 h2 ho ht kk
theorem lw_fit {L j : Nat} (hL : L ≤ 320) (hj : 5 * j ≤ 320) (c : ¬ Int32.ofNat L - (5 : Int32) < nI (5 * j)) : 5 * j + 5 ≤ L := by
  rcases Nat.lt_or_ge L (5 * j + 5) with q | q
  · exfalso
    apply c
    rw [Int32.lt_iff_toInt_lt, nI_toInt (by omega)]
    have e : (Int32.ofNat L - (5 : Int32)) = nI L - nI 5 := rfl
    rw [e, pk_sub_toInt (by omega) (by omega)]
    omega
  · exact q
def LS_feed (Inv : Nat → gH → Prop) : Prop := ∀ j h, j < 64 → Inv j h → ∀ (p0 : Int64) (p1 : Int32), ∃ (v : Int32) (h1 h2 : gH), F_X11_feed 5000 64 p0 p1 h = some (v, h1) ∧ F_X12_feed 5000 120 p0 p1 h1 = some (v, h2) ∧ Inv (j + 1) h2 ∧ (∃ fs, gat h 64 = some (.inr (11, fs))) ∧ ∃ fs, gat h1 120 = some (.inr (12, fs))
def LS_road (Inv : Nat → gH → Prop) : Prop := ∀ j h, j < 64 → Inv j h → ∀ (_ : Unit), ∃ (v : Int32) (h1 h2 : gH), F_X11_road 5000 64  h = some (v, h1) ∧ F_X12_road 5000 120  h1 = some (v, h2) ∧ Inv (j + 1) h2 ∧ (∃ fs, gat h 64 = some (.inr (11, fs))) ∧ ∃ fs, gat h1 120 = some (.inr (12, fs))
def LS_of (Inv : Nat → gH → Prop) : Prop := ∀ j h, j < 64 → Inv j h → ∀ (p0 : Int32) (p1 : Int32), ∃ (v : Int32) (h1 h2 : gH), F_X11_of 5000 64 p0 p1 h = some (v, h1) ∧ F_X12_of 5000 120 p0 p1 h1 = some (v, h2) ∧ Inv (j + 1) h2 ∧ (∃ fs, gat h 64 = some (.inr (11, fs))) ∧ ∃ fs, gat h1 120 = some (.inr (12, fs))
def LS_told (Inv : Nat → gH → Prop) : Prop := ∀ j h, j < 64 → Inv j h → ∀ (p0 : Int32), ∃ (v : Int32) (h1 h2 : gH), F_X11_told 5000 64 p0 h = some (v, h1) ∧ F_X12_told 5000 120 p0 h1 = some (v, h2) ∧ Inv (j + 1) h2 ∧ (∃ fs, gat h 64 = some (.inr (11, fs))) ∧ ∃ fs, gat h1 120 = some (.inr (12, fs))
def LS_rides (Inv : Nat → gH → Prop) : Prop := ∀ j h, j < 64 → Inv j h → ∀ (p0 : Int32) (p1 : Int32) (p2 : Int32) (p3 : Int32), ∃ (v : Int32) (h1 h2 : gH), F_X11_rides 5000 64 p0 p1 p2 p3 h = some (v, h1) ∧ F_X12_rides 5000 120 p0 p1 p2 p3 h1 = some (v, h2) ∧ Inv (j + 1) h2 ∧ (∃ fs, gat h 64 = some (.inr (11, fs))) ∧ ∃ fs, gat h1 120 = some (.inr (12, fs))
def LS_way (Inv : Nat → gH → Prop) : Prop := ∀ j h, j < 64 → Inv j h → ∀ (p0 : Int32) (p1 : Int32), ∃ (v : Int32) (h1 h2 : gH), F_X11_way 5000 64 p0 p1 h = some (v, h1) ∧ F_X12_way 5000 120 p0 p1 h1 = some (v, h2) ∧ Inv (j + 1) h2 ∧ (∃ fs, gat h 64 = some (.inr (11, fs))) ∧ ∃ fs, gat h1 120 = some (.inr (12, fs))
def LS_line (Inv : Nat → gH → Prop) : Prop := ∀ j h, j < 64 → Inv j h → ∀ (p0 : Int32) (p1 : Int32) (p2 : Int32), ∃ (v : Int32) (h1 h2 : gH), F_X11_line 5000 64 p0 p1 p2 h = some (v, h1) ∧ F_X12_line 5000 120 p0 p1 p2 h1 = some (v, h2) ∧ Inv (j + 1) h2 ∧ (∃ fs, gat h 64 = some (.inr (11, fs))) ∧ ∃ fs, gat h1 120 = some (.inr (12, fs))
def LS_takes (Inv : Nat → gH → Prop) : Prop := ∀ j h, j < 64 → Inv j h → ∀ (p0 : Int32) (p1 : Int32) (p2 : Int32), ∃ (v : Int32) (h1 h2 : gH), F_X11_takes 5000 64 p0 p1 p2 h = some (v, h1) ∧ F_X12_takes 5000 120 p0 p1 p2 h1 = some (v, h2) ∧ Inv (j + 1) h2 ∧ (∃ fs, gat h 64 = some (.inr (11, fs))) ∧ ∃ fs, gat h1 120 = some (.inr (12, fs))
def LS_ride (Inv : Nat → gH → Prop) : Prop := ∀ j h, j < 64 → Inv j h → ∀ (p0 : Int32) (p1 : Int32), ∃ (v : Int32) (h1 h2 : gH), F_X11_ride 5000 64 p0 p1 h = some (v, h1) ∧ F_X12_ride 5000 120 p0 p1 h1 = some (v, h2) ∧ Inv (j + 1) h2 ∧ (∃ fs, gat h 64 = some (.inr (11, fs))) ∧ ∃ fs, gat h1 120 = some (.inr (12, fs))
def LS_soonest (Inv : Nat → gH → Prop) : Prop := ∀ j h, j < 64 → Inv j h → ∀ (p0 : Int32) (p1 : Int32) (p2 : Int32), ∃ (v : Int32) (h1 h2 : gH), F_X11_soonest 5000 64 p0 p1 p2 h = some (v, h1) ∧ F_X12_soonest 5000 120 p0 p1 p2 h1 = some (v, h2) ∧ Inv (j + 1) h2 ∧ (∃ fs, gat h 64 = some (.inr (11, fs))) ∧ ∃ fs, gat h1 120 = some (.inr (12, fs))
def LS_price (Inv : Nat → gH → Prop) : Prop := ∀ j h, j < 64 → Inv j h → ∀ (p0 : Int32) (p1 : Int32), ∃ (v : Int32) (h1 h2 : gH), F_X11_price 5000 64 p0 p1 h = some (v, h1) ∧ F_X12_price 5000 120 p0 p1 h1 = some (v, h2) ∧ Inv (j + 1) h2 ∧ (∃ fs, gat h 64 = some (.inr (11, fs))) ∧ ∃ fs, gat h1 120 = some (.inr (12, fs))
def LS_loses (Inv : Nat → gH → Prop) : Prop := ∀ j h, j < 64 → Inv j h → ∀ (p0 : Int32), ∃ (v : Int32) (h1 h2 : gH), F_X11_loses 5000 64 p0 h = some (v, h1) ∧ F_X12_loses 5000 120 p0 h1 = some (v, h2) ∧ Inv (j + 1) h2 ∧ (∃ fs, gat h 64 = some (.inr (11, fs))) ∧ ∃ fs, gat h1 120 = some (.inr (12, fs))
def LS_row (Inv : Nat → gH → Prop) : Prop := ∀ j h, j < 64 → Inv j h → ∀ (p0 : Int32), ∃ (v : Int32) (h1 h2 : gH), F_X11_row 5000 64 p0 h = some (v, h1) ∧ F_X12_row 5000 120 p0 h1 = some (v, h2) ∧ Inv (j + 1) h2 ∧ (∃ fs, gat h 64 = some (.inr (11, fs))) ∧ ∃ fs, gat h1 120 = some (.inr (12, fs))
def LS_judged (Inv : Nat → gH → Prop) : Prop := ∀ j h, j < 64 → Inv j h → ∀ (p0 : Int32), ∃ (v : Int32) (h1 h2 : gH), F_X11_judged 5000 64 p0 h = some (v, h1) ∧ F_X12_judged 5000 120 p0 h1 = some (v, h2) ∧ Inv (j + 1) h2 ∧ (∃ fs, gat h 64 = some (.inr (11, fs))) ∧ ∃ fs, gat h1 120 = some (.inr (12, fs))
def LS_mean (Inv : Nat → gH → Prop) : Prop := ∀ j h, j < 64 → Inv j h → ∀ (p0 : Int32) (p1 : Int32), ∃ (v : Int64) (h1 h2 : gH), F_X11_mean 5000 64 p0 p1 h = some (v, h1) ∧ F_X12_mean 5000 120 p0 p1 h1 = some (v, h2) ∧ Inv (j + 1) h2 ∧ (∃ fs, gat h 64 = some (.inr (11, fs))) ∧ ∃ fs, gat h1 120 = some (.inr (12, fs))
def LS_sure (Inv : Nat → gH → Prop) : Prop := ∀ j h, j < 64 → Inv j h → ∀ (p0 : Int32) (p1 : Int32) (p2 : Int32), ∃ (v : Int64) (h1 h2 : gH), F_X11_sure 5000 64 p0 p1 p2 h = some (v, h1) ∧ F_X12_sure 5000 120 p0 p1 p2 h1 = some (v, h2) ∧ Inv (j + 1) h2 ∧ (∃ fs, gat h 64 = some (.inr (11, fs))) ∧ ∃ fs, gat h1 120 = some (.inr (12, fs))
def LS_gears (Inv : Nat → gH → Prop) : Prop := ∀ j h, j < 64 → Inv j h → ∀ (p0 : Int32) (p1 : Int32), ∃ (v : Int32) (h1 h2 : gH), F_X11_gears 5000 64 p0 p1 h = some (v, h1) ∧ F_X12_gears 5000 120 p0 p1 h1 = some (v, h2) ∧ Inv (j + 1) h2 ∧ (∃ fs, gat h 64 = some (.inr (11, fs))) ∧ ∃ fs, gat h1 120 = some (.inr (12, fs))
def LS_by (Inv : Nat → gH → Prop) : Prop := ∀ j h, j < 64 → Inv j h → ∀ (p0 : Int32), ∃ (v : Int32) (h1 h2 : gH), F_X11_by 5000 64 p0 h = some (v, h1) ∧ F_X12_by 5000 120 p0 h1 = some (v, h2) ∧ Inv (j + 1) h2 ∧ (∃ fs, gat h 64 = some (.inr (11, fs))) ∧ ∃ fs, gat h1 120 = some (.inr (12, fs))
def LS_wheel (Inv : Nat → gH → Prop) : Prop := ∀ j h, j < 64 → Inv j h → ∀ (p0 : Int32) (p1 : Int32) (p2 : Int32), ∃ (v : Int32) (h1 h2 : gH), F_X11_wheel 5000 64 p0 p1 p2 h = some (v, h1) ∧ F_X12_wheel 5000 120 p0 p1 p2 h1 = some (v, h2) ∧ Inv (j + 1) h2 ∧ (∃ fs, gat h 64 = some (.inr (11, fs))) ∧ ∃ fs, gat h1 120 = some (.inr (12, fs))
def LS_laps (Inv : Nat → gH → Prop) : Prop := ∀ j h, j < 64 → Inv j h → ∀ (p0 : Int32), ∃ (v : Int32) (h1 h2 : gH), F_X11_laps 5000 64 p0 h = some (v, h1) ∧ F_X12_laps 5000 120 p0 h1 = some (v, h2) ∧ Inv (j + 1) h2 ∧ (∃ fs, gat h 64 = some (.inr (11, fs))) ∧ ∃ fs, gat h1 120 = some (.inr (12, fs))
def LS_act (Inv : Nat → gH → Prop) : Prop := ∀ j h, j < 64 → Inv j h → ∀ (p0 : Int32) (p1 : Int32) (p2 : Int32), ∃ (v : Int32) (h1 h2 : gH), F_X11_act 5000 64 p0 p1 p2 h = some (v, h1) ∧ F_X12_act 5000 120 p0 p1 p2 h1 = some (v, h2) ∧ Inv (j + 1) h2 ∧ (∃ fs, gat h 64 = some (.inr (11, fs))) ∧ ∃ fs, gat h1 120 = some (.inr (12, fs))
def LS_trace (Inv : Nat → gH → Prop) : Prop := ∀ j h, j < 64 → Inv j h → ∀ (p0 : Int32), ∃ (v : Int32) (h1 h2 : gH), F_X11_trace 5000 64 p0 h = some (v, h1) ∧ F_X12_trace 5000 120 p0 h1 = some (v, h2) ∧ Inv (j + 1) h2 ∧ (∃ fs, gat h 64 = some (.inr (11, fs))) ∧ ∃ fs, gat h1 120 = some (.inr (12, fs))
def LS_as (Inv : Nat → gH → Prop) : Prop := ∀ j h, j < 64 → Inv j h → ∀ (p0 : Int32) (p1 : Int32), ∃ (v : Int32) (h1 h2 : gH), F_X11_as 5000 64 p0 p1 h = some (v, h1) ∧ F_X12_as 5000 120 p0 p1 h1 = some (v, h2) ∧ Inv (j + 1) h2 ∧ (∃ fs, gat h 64 = some (.inr (11, fs))) ∧ ∃ fs, gat h1 120 = some (.inr (12, fs))
def LS_image (Inv : Nat → gH → Prop) : Prop := ∀ j h, j < 64 → Inv j h → ∀ (_ : Unit), ∃ (v : Int32) (h1 h2 : gH), F_X11_image 5000 64  h = some (v, h1) ∧ F_X12_image 5000 120  h1 = some (v, h2) ∧ Inv (j + 1) h2 ∧ (∃ fs, gat h 64 = some (.inr (11, fs))) ∧ ∃ fs, gat h1 120 = some (.inr (12, fs))
def LS_undo (Inv : Nat → gH → Prop) : Prop := ∀ j h, j < 64 → Inv j h → ∀ (_ : Unit), ∃ (v : Int32) (h1 h2 : gH), F_X11_undo 5000 64  h = some (v, h1) ∧ F_X12_undo 5000 120  h1 = some (v, h2) ∧ Inv (j + 1) h2 ∧ (∃ fs, gat h 64 = some (.inr (11, fs))) ∧ ∃ fs, gat h1 120 = some (.inr (12, fs))
def LS_count (Inv : Nat → gH → Prop) : Prop := ∀ j h, j < 64 → Inv j h → ∀ (p0 : Int32), ∃ (v : Int32) (h1 h2 : gH), F_X11_count 5000 64 p0 h = some (v, h1) ∧ F_X12_count 5000 120 p0 h1 = some (v, h2) ∧ Inv (j + 1) h2 ∧ (∃ fs, gat h 64 = some (.inr (11, fs))) ∧ ∃ fs, gat h1 120 = some (.inr (12, fs))
set_option maxHeartbeats 1600000 in
theorem lwk_feed {Inv : Nat → gH → Prop} (hs : LS_feed Inv) {b L kc kn j : Nat} (hj : j < 64) {xs : Nat → Int32} {iv : Int32} {h : gH} (i1 : vp_in (iv + 1) L) (i2 : vp_in (iv + 2) L) (i3 : vp_in (iv + 3) L) (i4 : vp_in (iv + 4) L) (hc : kc + 10 ≤ 600000) (hn : kn + 10 ≤ 7302250) (hI : Inv j h) (kk : ∀ h2, Inv (j + 1) h2 → LG b L xs (kc + 0) (kn + 0) 982 iv [] h2) : LG b L xs kc kn 152 iv [] h := by
  refine lg_x dL_law_152 ?_
  refine lg_s dL_law_153 ?_
  refine lg_i dL_law_154 ?_
  refine lg_iconst (v := (1 : Int32)) dL_law_155 (by decide) ?_
  refine lg_iadd dL_law_156 ?_
  refine lg_ld i1 dL_law_157 ?_
  refine lg_i2l dL_law_158 rfl ?_
  refine lg_bipush (v := (32 : Int32)) dL_law_159 (by decide) ?_
  refine lg_lshl dL_law_161 rfl ?_
  refine lg_s dL_law_162 ?_
  refine lg_i dL_law_163 ?_
  refine lg_iconst (v := (2 : Int32)) dL_law_164 (by decide) ?_
  refine lg_iadd dL_law_165 ?_
  refine lg_ld i2 dL_law_166 ?_
  refine lg_i2l dL_law_167 rfl ?_
  refine lg_ldc2 (v := (4294967295 : Int64)) (gt_6 (List.mem_of_getElem? (i := 161) (by decide +kernel)) (by decide +kernel)) dL_law_168 ?_
  refine lg_land dL_law_171 ?_
  refine lg_lor dL_law_172 ?_
  refine lg_s dL_law_173 ?_
  refine lg_i dL_law_174 ?_
  refine lg_iconst (v := (3 : Int32)) dL_law_175 (by decide) ?_
  refine lg_iadd dL_law_176 ?_
  refine lg_ld i3 dL_law_177 ?_
  obtain ⟨v, h1, h2, e1, e2, e3, ⟨f1, e4⟩, ⟨f2, e5⟩⟩ := hs j h hj hI (((xs (iv + (1 : Int32)).toNatClampNeg).toInt64 <<< ((32 : Int32).toInt64 &&& 63)) ||| ((xs (iv + (2 : Int32)).toNatClampNeg).toInt64 &&& (4294967295 : Int64))) (xs (iv + (3 : Int32)).toNatClampNeg)
  refine lg_call (as := [.long (((xs (iv + (1 : Int32)).toNatClampNeg).toInt64 <<< ((32 : Int32).toInt64 &&& 63)) ||| ((xs (iv + (2 : Int32)).toNatClampNeg).toInt64 &&& (4294967295 : Int64))), .int (xs (iv + (3 : Int32)).toNatClampNeg)]) (mc1 := 0) (ms1 := 0) s_L_15_X11_feed_11 dL_law_178 e4 rfl (Nat.le_of_ble_eq_true rfl) (by omega) (by omega) (by decide) (t_X11_feed (d := 0) e1) (fun r9 h9 q9 => ?_)
  obtain ⟨rfl, rfl⟩ := q9
  refine lg_pc (pc2 := 181) (st2 := [.int v]) rfl rfl ?_
  refine lg_m dL_law_181 ?_
  refine lg_s dL_law_182 ?_
  refine lg_i dL_law_183 ?_
  refine lg_iconst (v := (1 : Int32)) dL_law_184 (by decide) ?_
  refine lg_iadd dL_law_185 ?_
  refine lg_ld i1 dL_law_186 ?_
  refine lg_i2l dL_law_187 rfl ?_
  refine lg_bipush (v := (32 : Int32)) dL_law_188 (by decide) ?_
  refine lg_lshl dL_law_190 rfl ?_
  refine lg_s dL_law_191 ?_
  refine lg_i dL_law_192 ?_
  refine lg_iconst (v := (2 : Int32)) dL_law_193 (by decide) ?_
  refine lg_iadd dL_law_194 ?_
  refine lg_ld i2 dL_law_195 ?_
  refine lg_i2l dL_law_196 rfl ?_
  refine lg_ldc2 (v := (4294967295 : Int64)) (gt_6 (List.mem_of_getElem? (i := 161) (by decide +kernel)) (by decide +kernel)) dL_law_197 ?_
  refine lg_land dL_law_200 ?_
  refine lg_lor dL_law_201 ?_
  refine lg_s dL_law_202 ?_
  refine lg_i dL_law_203 ?_
  refine lg_iconst (v := (3 : Int32)) dL_law_204 (by decide) ?_
  refine lg_iadd dL_law_205 ?_
  refine lg_ld i3 dL_law_206 ?_
  refine lg_call (as := [.long (((xs (iv + (1 : Int32)).toNatClampNeg).toInt64 <<< ((32 : Int32).toInt64 &&& 63)) ||| ((xs (iv + (2 : Int32)).toNatClampNeg).toInt64 &&& (4294967295 : Int64))), .int (xs (iv + (3 : Int32)).toNatClampNeg)]) (mc1 := 0) (ms1 := 0) s_L_19_X12_feed_12 dL_law_207 e5 rfl (Nat.le_of_ble_eq_true rfl) (by omega) (by omega) (by decide) (t_X12_feed (d := 0) e2) (fun r9 h9 q9 => ?_)
  obtain ⟨rfl, rfl⟩ := q9
  refine lg_pc (pc2 := 210) (st2 := [.int v, .int v]) rfl rfl ?_
  refine lg_icmp_eq (tgt := 982) dL_law_210 (by decide) (fun _ => ?_) (fun c => absurd rfl c)
  exact kk h2 e3
set_option maxHeartbeats 1600000 in
theorem lwk_road {Inv : Nat → gH → Prop} (hs : LS_road Inv) {b L kc kn j : Nat} (hj : j < 64) {xs : Nat → Int32} {iv : Int32} {h : gH} (i1 : vp_in (iv + 1) L) (i2 : vp_in (iv + 2) L) (i3 : vp_in (iv + 3) L) (i4 : vp_in (iv + 4) L) (hc : kc + 10 ≤ 600000) (hn : kn + 10 ≤ 7302250) (hI : Inv j h) (kk : ∀ h2, Inv (j + 1) h2 → LG b L xs (kc + 0) (kn + 0) 982 iv [] h2) : LG b L xs kc kn 215 iv [] h := by
  refine lg_x dL_law_215 ?_
  obtain ⟨v, h1, h2, e1, e2, e3, ⟨f1, e4⟩, ⟨f2, e5⟩⟩ := hs j h hj hI ()
  refine lg_call (as := []) (mc1 := 0) (ms1 := 0) s_L_20_X11_road_11 dL_law_216 e4 rfl (Nat.le_of_ble_eq_true rfl) (by omega) (by omega) (by decide) (t_X11_road (d := 0) e1) (fun r9 h9 q9 => ?_)
  obtain ⟨rfl, rfl⟩ := q9
  refine lg_pc (pc2 := 219) (st2 := [.int v]) rfl rfl ?_
  refine lg_m dL_law_219 ?_
  refine lg_call (as := []) (mc1 := 0) (ms1 := 0) s_L_24_X12_road_12 dL_law_220 e5 rfl (Nat.le_of_ble_eq_true rfl) (by omega) (by omega) (by decide) (t_X12_road (d := 0) e2) (fun r9 h9 q9 => ?_)
  obtain ⟨rfl, rfl⟩ := q9
  refine lg_pc (pc2 := 223) (st2 := [.int v, .int v]) rfl rfl ?_
  refine lg_icmp_eq (tgt := 982) dL_law_223 (by decide) (fun _ => ?_) (fun c => absurd rfl c)
  exact kk h2 e3
set_option maxHeartbeats 1600000 in
theorem lwk_of {Inv : Nat → gH → Prop} (hs : LS_of Inv) {b L kc kn j : Nat} (hj : j < 64) {xs : Nat → Int32} {iv : Int32} {h : gH} (i1 : vp_in (iv + 1) L) (i2 : vp_in (iv + 2) L) (i3 : vp_in (iv + 3) L) (i4 : vp_in (iv + 4) L) (hc : kc + 10 ≤ 600000) (hn : kn + 10 ≤ 7302250) (hI : Inv j h) (kk : ∀ h2, Inv (j + 1) h2 → LG b L xs (kc + 0) (kn + 0) 982 iv [] h2) : LG b L xs kc kn 228 iv [] h := by
  refine lg_x dL_law_228 ?_
  refine lg_s dL_law_229 ?_
  refine lg_i dL_law_230 ?_
  refine lg_iconst (v := (1 : Int32)) dL_law_231 (by decide) ?_
  refine lg_iadd dL_law_232 ?_
  refine lg_ld i1 dL_law_233 ?_
  refine lg_s dL_law_234 ?_
  refine lg_i dL_law_235 ?_
  refine lg_iconst (v := (2 : Int32)) dL_law_236 (by decide) ?_
  refine lg_iadd dL_law_237 ?_
  refine lg_ld i2 dL_law_238 ?_
  obtain ⟨v, h1, h2, e1, e2, e3, ⟨f1, e4⟩, ⟨f2, e5⟩⟩ := hs j h hj hI (xs (iv + (1 : Int32)).toNatClampNeg) (xs (iv + (2 : Int32)).toNatClampNeg)
  refine lg_call (as := [.int (xs (iv + (1 : Int32)).toNatClampNeg), .int (xs (iv + (2 : Int32)).toNatClampNeg)]) (mc1 := 0) (ms1 := 0) s_L_25_X11_of_11 dL_law_239 e4 rfl (Nat.le_of_ble_eq_true rfl) (by omega) (by omega) (by decide) (t_X11_of (d := 0) e1) (fun r9 h9 q9 => ?_)
  obtain ⟨rfl, rfl⟩ := q9
  refine lg_pc (pc2 := 242) (st2 := [.int v]) rfl rfl ?_
  refine lg_m dL_law_242 ?_
  refine lg_s dL_law_243 ?_
  refine lg_i dL_law_244 ?_
  refine lg_iconst (v := (1 : Int32)) dL_law_245 (by decide) ?_
  refine lg_iadd dL_law_246 ?_
  refine lg_ld i1 dL_law_247 ?_
  refine lg_s dL_law_248 ?_
  refine lg_i dL_law_249 ?_
  refine lg_iconst (v := (2 : Int32)) dL_law_250 (by decide) ?_
  refine lg_iadd dL_law_251 ?_
  refine lg_ld i2 dL_law_252 ?_
  refine lg_call (as := [.int (xs (iv + (1 : Int32)).toNatClampNeg), .int (xs (iv + (2 : Int32)).toNatClampNeg)]) (mc1 := 0) (ms1 := 0) s_L_29_X12_of_12 dL_law_253 e5 rfl (Nat.le_of_ble_eq_true rfl) (by omega) (by omega) (by decide) (t_X12_of (d := 0) e2) (fun r9 h9 q9 => ?_)
  obtain ⟨rfl, rfl⟩ := q9
  refine lg_pc (pc2 := 256) (st2 := [.int v, .int v]) rfl rfl ?_
  refine lg_icmp_eq (tgt := 982) dL_law_256 (by decide) (fun _ => ?_) (fun c => absurd rfl c)
  exact kk h2 e3
set_option maxHeartbeats 1600000 in
theorem lwk_told {Inv : Nat → gH → Prop} (hs : LS_told Inv) {b L kc kn j : Nat} (hj : j < 64) {xs : Nat → Int32} {iv : Int32} {h : gH} (i1 : vp_in (iv + 1) L) (i2 : vp_in (iv + 2) L) (i3 : vp_in (iv + 3) L) (i4 : vp_in (iv + 4) L) (hc : kc + 10 ≤ 600000) (hn : kn + 10 ≤ 7302250) (hI : Inv j h) (kk : ∀ h2, Inv (j + 1) h2 → LG b L xs (kc + 0) (kn + 0) 982 iv [] h2) : LG b L xs kc kn 261 iv [] h := by
  refine lg_x dL_law_261 ?_
  refine lg_s dL_law_262 ?_
  refine lg_i dL_law_263 ?_
  refine lg_iconst (v := (1 : Int32)) dL_law_264 (by decide) ?_
  refine lg_iadd dL_law_265 ?_
  refine lg_ld i1 dL_law_266 ?_
  obtain ⟨v, h1, h2, e1, e2, e3, ⟨f1, e4⟩, ⟨f2, e5⟩⟩ := hs j h hj hI (xs (iv + (1 : Int32)).toNatClampNeg)
  refine lg_call (as := [.int (xs (iv + (1 : Int32)).toNatClampNeg)]) (mc1 := 0) (ms1 := 0) s_L_30_X11_told_11 dL_law_267 e4 rfl (Nat.le_of_ble_eq_true rfl) (by omega) (by omega) (by decide) (t_X11_told (d := 0) e1) (fun r9 h9 q9 => ?_)
  obtain ⟨rfl, rfl⟩ := q9
  refine lg_pc (pc2 := 270) (st2 := [.int v]) rfl rfl ?_
  refine lg_m dL_law_270 ?_
  refine lg_s dL_law_271 ?_
  refine lg_i dL_law_272 ?_
  refine lg_iconst (v := (1 : Int32)) dL_law_273 (by decide) ?_
  refine lg_iadd dL_law_274 ?_
  refine lg_ld i1 dL_law_275 ?_
  refine lg_call (as := [.int (xs (iv + (1 : Int32)).toNatClampNeg)]) (mc1 := 0) (ms1 := 0) s_L_34_X12_told_12 dL_law_276 e5 rfl (Nat.le_of_ble_eq_true rfl) (by omega) (by omega) (by decide) (t_X12_told (d := 0) e2) (fun r9 h9 q9 => ?_)
  obtain ⟨rfl, rfl⟩ := q9
  refine lg_pc (pc2 := 279) (st2 := [.int v, .int v]) rfl rfl ?_
  refine lg_icmp_eq (tgt := 982) dL_law_279 (by decide) (fun _ => ?_) (fun c => absurd rfl c)
  exact kk h2 e3
set_option maxHeartbeats 1600000 in
theorem lwk_rides {Inv : Nat → gH → Prop} (hs : LS_rides Inv) {b L kc kn j : Nat} (hj : j < 64) {xs : Nat → Int32} {iv : Int32} {h : gH} (i1 : vp_in (iv + 1) L) (i2 : vp_in (iv + 2) L) (i3 : vp_in (iv + 3) L) (i4 : vp_in (iv + 4) L) (hc : kc + 10 ≤ 600000) (hn : kn + 10 ≤ 7302250) (hI : Inv j h) (kk : ∀ h2, Inv (j + 1) h2 → LG b L xs (kc + 0) (kn + 0) 982 iv [] h2) : LG b L xs kc kn 284 iv [] h := by
  refine lg_x dL_law_284 ?_
  refine lg_s dL_law_285 ?_
  refine lg_i dL_law_286 ?_
  refine lg_iconst (v := (1 : Int32)) dL_law_287 (by decide) ?_
  refine lg_iadd dL_law_288 ?_
  refine lg_ld i1 dL_law_289 ?_
  refine lg_s dL_law_290 ?_
  refine lg_i dL_law_291 ?_
  refine lg_iconst (v := (2 : Int32)) dL_law_292 (by decide) ?_
  refine lg_iadd dL_law_293 ?_
  refine lg_ld i2 dL_law_294 ?_
  refine lg_s dL_law_295 ?_
  refine lg_i dL_law_296 ?_
  refine lg_iconst (v := (3 : Int32)) dL_law_297 (by decide) ?_
  refine lg_iadd dL_law_298 ?_
  refine lg_ld i3 dL_law_299 ?_
  refine lg_s dL_law_300 ?_
  refine lg_i dL_law_301 ?_
  refine lg_iconst (v := (4 : Int32)) dL_law_302 (by decide) ?_
  refine lg_iadd dL_law_303 ?_
  refine lg_ld i4 dL_law_304 ?_
  obtain ⟨v, h1, h2, e1, e2, e3, ⟨f1, e4⟩, ⟨f2, e5⟩⟩ := hs j h hj hI (xs (iv + (1 : Int32)).toNatClampNeg) (xs (iv + (2 : Int32)).toNatClampNeg) (xs (iv + (3 : Int32)).toNatClampNeg) (xs (iv + (4 : Int32)).toNatClampNeg)
  refine lg_call (as := [.int (xs (iv + (1 : Int32)).toNatClampNeg), .int (xs (iv + (2 : Int32)).toNatClampNeg), .int (xs (iv + (3 : Int32)).toNatClampNeg), .int (xs (iv + (4 : Int32)).toNatClampNeg)]) (mc1 := 0) (ms1 := 0) s_L_35_X11_rides_11 dL_law_305 e4 rfl (Nat.le_of_ble_eq_true rfl) (by omega) (by omega) (by decide) (t_X11_rides (d := 0) e1) (fun r9 h9 q9 => ?_)
  obtain ⟨rfl, rfl⟩ := q9
  refine lg_pc (pc2 := 308) (st2 := [.int v]) rfl rfl ?_
  refine lg_m dL_law_308 ?_
  refine lg_s dL_law_309 ?_
  refine lg_i dL_law_310 ?_
  refine lg_iconst (v := (1 : Int32)) dL_law_311 (by decide) ?_
  refine lg_iadd dL_law_312 ?_
  refine lg_ld i1 dL_law_313 ?_
  refine lg_s dL_law_314 ?_
  refine lg_i dL_law_315 ?_
  refine lg_iconst (v := (2 : Int32)) dL_law_316 (by decide) ?_
  refine lg_iadd dL_law_317 ?_
  refine lg_ld i2 dL_law_318 ?_
  refine lg_s dL_law_319 ?_
  refine lg_i dL_law_320 ?_
  refine lg_iconst (v := (3 : Int32)) dL_law_321 (by decide) ?_
  refine lg_iadd dL_law_322 ?_
  refine lg_ld i3 dL_law_323 ?_
  refine lg_s dL_law_324 ?_
  refine lg_i dL_law_325 ?_
  refine lg_iconst (v := (4 : Int32)) dL_law_326 (by decide) ?_
  refine lg_iadd dL_law_327 ?_
  refine lg_ld i4 dL_law_328 ?_
  refine lg_call (as := [.int (xs (iv + (1 : Int32)).toNatClampNeg), .int (xs (iv + (2 : Int32)).toNatClampNeg), .int (xs (iv + (3 : Int32)).toNatClampNeg), .int (xs (iv + (4 : Int32)).toNatClampNeg)]) (mc1 := 0) (ms1 := 0) s_L_39_X12_rides_12 dL_law_329 e5 rfl (Nat.le_of_ble_eq_true rfl) (by omega) (by omega) (by decide) (t_X12_rides (d := 0) e2) (fun r9 h9 q9 => ?_)
  obtain ⟨rfl, rfl⟩ := q9
  refine lg_pc (pc2 := 332) (st2 := [.int v, .int v]) rfl rfl ?_
  refine lg_icmp_eq (tgt := 982) dL_law_332 (by decide) (fun _ => ?_) (fun c => absurd rfl c)
  exact kk h2 e3
set_option maxHeartbeats 1600000 in
theorem lwk_way {Inv : Nat → gH → Prop} (hs : LS_way Inv) {b L kc kn j : Nat} (hj : j < 64) {xs : Nat → Int32} {iv : Int32} {h : gH} (i1 : vp_in (iv + 1) L) (i2 : vp_in (iv + 2) L) (i3 : vp_in (iv + 3) L) (i4 : vp_in (iv + 4) L) (hc : kc + 10 ≤ 600000) (hn : kn + 10 ≤ 7302250) (hI : Inv j h) (kk : ∀ h2, Inv (j + 1) h2 → LG b L xs (kc + 1) (kn + 2) 982 iv [] h2) : LG b L xs kc kn 337 iv [] h := by
  refine lg_x dL_law_337 ?_
  refine lg_s dL_law_338 ?_
  refine lg_i dL_law_339 ?_
  refine lg_iconst (v := (1 : Int32)) dL_law_340 (by decide) ?_
  refine lg_iadd dL_law_341 ?_
  refine lg_ld i1 dL_law_342 ?_
  refine lg_s dL_law_343 ?_
  refine lg_i dL_law_344 ?_
  refine lg_iconst (v := (2 : Int32)) dL_law_345 (by decide) ?_
  refine lg_iadd dL_law_346 ?_
  refine lg_ld i2 dL_law_347 ?_
  obtain ⟨v, h1, h2, e1, e2, e3, ⟨f1, e4⟩, ⟨f2, e5⟩⟩ := hs j h hj hI (xs (iv + (1 : Int32)).toNatClampNeg) (xs (iv + (2 : Int32)).toNatClampNeg)
  refine lg_call (as := [.int (xs (iv + (1 : Int32)).toNatClampNeg), .int (xs (iv + (2 : Int32)).toNatClampNeg)]) (mc1 := 1) (ms1 := 2) s_L_40_X11_way_11 dL_law_348 e4 rfl (Nat.le_of_ble_eq_true rfl) (by omega) (by omega) (by decide) (t_X11_way (d := 0) e1) (fun r9 h9 q9 => ?_)
  obtain ⟨rfl, rfl⟩ := q9
  refine lg_pc (pc2 := 351) (st2 := [.int v]) rfl rfl ?_
  refine lg_m dL_law_351 ?_
  refine lg_s dL_law_352 ?_
  refine lg_i dL_law_353 ?_
  refine lg_iconst (v := (1 : Int32)) dL_law_354 (by decide) ?_
  refine lg_iadd dL_law_355 ?_
  refine lg_ld i1 dL_law_356 ?_
  refine lg_s dL_law_357 ?_
  refine lg_i dL_law_358 ?_
  refine lg_iconst (v := (2 : Int32)) dL_law_359 (by decide) ?_
  refine lg_iadd dL_law_360 ?_
  refine lg_ld i2 dL_law_361 ?_
  refine lg_call (as := [.int (xs (iv + (1 : Int32)).toNatClampNeg), .int (xs (iv + (2 : Int32)).toNatClampNeg)]) (mc1 := 0) (ms1 := 0) s_L_43_X12_way_12 dL_law_362 e5 rfl (Nat.le_of_ble_eq_true rfl) (by omega) (by omega) (by decide) (t_X12_way (d := 0) e2) (fun r9 h9 q9 => ?_)
  obtain ⟨rfl, rfl⟩ := q9
  refine lg_pc (pc2 := 365) (st2 := [.int v, .int v]) rfl rfl ?_
  refine lg_icmp_eq (tgt := 982) dL_law_365 (by decide) (fun _ => ?_) (fun c => absurd rfl c)
  exact kk h2 e3
set_option maxHeartbeats 1600000 in
theorem lwk_line {Inv : Nat → gH → Prop} (hs : LS_line Inv) {b L kc kn j : Nat} (hj : j < 64) {xs : Nat → Int32} {iv : Int32} {h : gH} (i1 : vp_in (iv + 1) L) (i2 : vp_in (iv + 2) L) (i3 : vp_in (iv + 3) L) (i4 : vp_in (iv + 4) L) (hc : kc + 10 ≤ 600000) (hn : kn + 10 ≤ 7302250) (hI : Inv j h) (kk : ∀ h2, Inv (j + 1) h2 → LG b L xs (kc + 0) (kn + 0) 982 iv [] h2) : LG b L xs kc kn 370 iv [] h := by
  refine lg_x dL_law_370 ?_
  refine lg_s dL_law_371 ?_
  refine lg_i dL_law_372 ?_
  refine lg_iconst (v := (1 : Int32)) dL_law_373 (by decide) ?_
  refine lg_iadd dL_law_374 ?_
  refine lg_ld i1 dL_law_375 ?_
  refine lg_s dL_law_376 ?_
  refine lg_i dL_law_377 ?_
  refine lg_iconst (v := (2 : Int32)) dL_law_378 (by decide) ?_
  refine lg_iadd dL_law_379 ?_
  refine lg_ld i2 dL_law_380 ?_
  refine lg_s dL_law_381 ?_
  refine lg_i dL_law_382 ?_
  refine lg_iconst (v := (3 : Int32)) dL_law_383 (by decide) ?_
  refine lg_iadd dL_law_384 ?_
  refine lg_ld i3 dL_law_385 ?_
  obtain ⟨v, h1, h2, e1, e2, e3, ⟨f1, e4⟩, ⟨f2, e5⟩⟩ := hs j h hj hI (xs (iv + (1 : Int32)).toNatClampNeg) (xs (iv + (2 : Int32)).toNatClampNeg) (xs (iv + (3 : Int32)).toNatClampNeg)
  refine lg_call (as := [.int (xs (iv + (1 : Int32)).toNatClampNeg), .int (xs (iv + (2 : Int32)).toNatClampNeg), .int (xs (iv + (3 : Int32)).toNatClampNeg)]) (mc1 := 0) (ms1 := 0) s_L_44_X11_line_11 dL_law_386 e4 rfl (Nat.le_of_ble_eq_true rfl) (by omega) (by omega) (by decide) (t_X11_line (d := 0) e1) (fun r9 h9 q9 => ?_)
  obtain ⟨rfl, rfl⟩ := q9
  refine lg_pc (pc2 := 389) (st2 := [.int v]) rfl rfl ?_
  refine lg_m dL_law_389 ?_
  refine lg_s dL_law_390 ?_
  refine lg_i dL_law_391 ?_
  refine lg_iconst (v := (1 : Int32)) dL_law_392 (by decide) ?_
  refine lg_iadd dL_law_393 ?_
  refine lg_ld i1 dL_law_394 ?_
  refine lg_s dL_law_395 ?_
  refine lg_i dL_law_396 ?_
  refine lg_iconst (v := (2 : Int32)) dL_law_397 (by decide) ?_
  refine lg_iadd dL_law_398 ?_
  refine lg_ld i2 dL_law_399 ?_
  refine lg_s dL_law_400 ?_
  refine lg_i dL_law_401 ?_
  refine lg_iconst (v := (3 : Int32)) dL_law_402 (by decide) ?_
  refine lg_iadd dL_law_403 ?_
  refine lg_ld i3 dL_law_404 ?_
  refine lg_call (as := [.int (xs (iv + (1 : Int32)).toNatClampNeg), .int (xs (iv + (2 : Int32)).toNatClampNeg), .int (xs (iv + (3 : Int32)).toNatClampNeg)]) (mc1 := 0) (ms1 := 0) s_L_48_X12_line_12 dL_law_405 e5 rfl (Nat.le_of_ble_eq_true rfl) (by omega) (by omega) (by decide) (t_X12_line (d := 0) e2) (fun r9 h9 q9 => ?_)
  obtain ⟨rfl, rfl⟩ := q9
  refine lg_pc (pc2 := 408) (st2 := [.int v, .int v]) rfl rfl ?_
  refine lg_icmp_eq (tgt := 982) dL_law_408 (by decide) (fun _ => ?_) (fun c => absurd rfl c)
  exact kk h2 e3
set_option maxHeartbeats 1600000 in
theorem lwk_takes {Inv : Nat → gH → Prop} (hs : LS_takes Inv) {b L kc kn j : Nat} (hj : j < 64) {xs : Nat → Int32} {iv : Int32} {h : gH} (i1 : vp_in (iv + 1) L) (i2 : vp_in (iv + 2) L) (i3 : vp_in (iv + 3) L) (i4 : vp_in (iv + 4) L) (hc : kc + 10 ≤ 600000) (hn : kn + 10 ≤ 7302250) (hI : Inv j h) (kk : ∀ h2, Inv (j + 1) h2 → LG b L xs (kc + 0) (kn + 0) 982 iv [] h2) : LG b L xs kc kn 413 iv [] h := by
  refine lg_x dL_law_413 ?_
  refine lg_s dL_law_414 ?_
  refine lg_i dL_law_415 ?_
  refine lg_iconst (v := (1 : Int32)) dL_law_416 (by decide) ?_
  refine lg_iadd dL_law_417 ?_
  refine lg_ld i1 dL_law_418 ?_
  refine lg_s dL_law_419 ?_
  refine lg_i dL_law_420 ?_
  refine lg_iconst (v := (2 : Int32)) dL_law_421 (by decide) ?_
  refine lg_iadd dL_law_422 ?_
  refine lg_ld i2 dL_law_423 ?_
  refine lg_s dL_law_424 ?_
  refine lg_i dL_law_425 ?_
  refine lg_iconst (v := (3 : Int32)) dL_law_426 (by decide) ?_
  refine lg_iadd dL_law_427 ?_
  refine lg_ld i3 dL_law_428 ?_
  obtain ⟨v, h1, h2, e1, e2, e3, ⟨f1, e4⟩, ⟨f2, e5⟩⟩ := hs j h hj hI (xs (iv + (1 : Int32)).toNatClampNeg) (xs (iv + (2 : Int32)).toNatClampNeg) (xs (iv + (3 : Int32)).toNatClampNeg)
  refine lg_call (as := [.int (xs (iv + (1 : Int32)).toNatClampNeg), .int (xs (iv + (2 : Int32)).toNatClampNeg), .int (xs (iv + (3 : Int32)).toNatClampNeg)]) (mc1 := 0) (ms1 := 0) s_L_49_X11_takes_11 dL_law_429 e4 rfl (Nat.le_of_ble_eq_true rfl) (by omega) (by omega) (by decide) (t_X11_takes (d := 0) e1) (fun r9 h9 q9 => ?_)
  obtain ⟨rfl, rfl⟩ := q9
  refine lg_pc (pc2 := 432) (st2 := [.int v]) rfl rfl ?_
  refine lg_m dL_law_432 ?_
  refine lg_s dL_law_433 ?_
  refine lg_i dL_law_434 ?_
  refine lg_iconst (v := (1 : Int32)) dL_law_435 (by decide) ?_
  refine lg_iadd dL_law_436 ?_
  refine lg_ld i1 dL_law_437 ?_
  refine lg_s dL_law_438 ?_
  refine lg_i dL_law_439 ?_
  refine lg_iconst (v := (2 : Int32)) dL_law_440 (by decide) ?_
  refine lg_iadd dL_law_441 ?_
  refine lg_ld i2 dL_law_442 ?_
  refine lg_s dL_law_443 ?_
  refine lg_i dL_law_444 ?_
  refine lg_iconst (v := (3 : Int32)) dL_law_445 (by decide) ?_
  refine lg_iadd dL_law_446 ?_
  refine lg_ld i3 dL_law_447 ?_
  refine lg_call (as := [.int (xs (iv + (1 : Int32)).toNatClampNeg), .int (xs (iv + (2 : Int32)).toNatClampNeg), .int (xs (iv + (3 : Int32)).toNatClampNeg)]) (mc1 := 0) (ms1 := 0) s_L_52_X12_takes_12 dL_law_448 e5 rfl (Nat.le_of_ble_eq_true rfl) (by omega) (by omega) (by decide) (t_X12_takes (d := 0) e2) (fun r9 h9 q9 => ?_)
  obtain ⟨rfl, rfl⟩ := q9
  refine lg_pc (pc2 := 451) (st2 := [.int v, .int v]) rfl rfl ?_
  refine lg_icmp_eq (tgt := 982) dL_law_451 (by decide) (fun _ => ?_) (fun c => absurd rfl c)
  exact kk h2 e3
set_option maxHeartbeats 1600000 in
theorem lwk_ride {Inv : Nat → gH → Prop} (hs : LS_ride Inv) {b L kc kn j : Nat} (hj : j < 64) {xs : Nat → Int32} {iv : Int32} {h : gH} (i1 : vp_in (iv + 1) L) (i2 : vp_in (iv + 2) L) (i3 : vp_in (iv + 3) L) (i4 : vp_in (iv + 4) L) (hc : kc + 10 ≤ 600000) (hn : kn + 10 ≤ 7302250) (hI : Inv j h) (kk : ∀ h2, Inv (j + 1) h2 → LG b L xs (kc + 0) (kn + 0) 982 iv [] h2) : LG b L xs kc kn 456 iv [] h := by
  refine lg_x dL_law_456 ?_
  refine lg_s dL_law_457 ?_
  refine lg_i dL_law_458 ?_
  refine lg_iconst (v := (1 : Int32)) dL_law_459 (by decide) ?_
  refine lg_iadd dL_law_460 ?_
  refine lg_ld i1 dL_law_461 ?_
  refine lg_s dL_law_462 ?_
  refine lg_i dL_law_463 ?_
  refine lg_iconst (v := (2 : Int32)) dL_law_464 (by decide) ?_
  refine lg_iadd dL_law_465 ?_
  refine lg_ld i2 dL_law_466 ?_
  obtain ⟨v, h1, h2, e1, e2, e3, ⟨f1, e4⟩, ⟨f2, e5⟩⟩ := hs j h hj hI (xs (iv + (1 : Int32)).toNatClampNeg) (xs (iv + (2 : Int32)).toNatClampNeg)
  refine lg_call (as := [.int (xs (iv + (1 : Int32)).toNatClampNeg), .int (xs (iv + (2 : Int32)).toNatClampNeg)]) (mc1 := 0) (ms1 := 0) s_L_53_X11_ride_11 dL_law_467 e4 rfl (Nat.le_of_ble_eq_true rfl) (by omega) (by omega) (by decide) (t_X11_ride (d := 0) e1) (fun r9 h9 q9 => ?_)
  obtain ⟨rfl, rfl⟩ := q9
  refine lg_pc (pc2 := 470) (st2 := [.int v]) rfl rfl ?_
  refine lg_m dL_law_470 ?_
  refine lg_s dL_law_471 ?_
  refine lg_i dL_law_472 ?_
  refine lg_iconst (v := (1 : Int32)) dL_law_473 (by decide) ?_
  refine lg_iadd dL_law_474 ?_
  refine lg_ld i1 dL_law_475 ?_
  refine lg_s dL_law_476 ?_
  refine lg_i dL_law_477 ?_
  refine lg_iconst (v := (2 : Int32)) dL_law_478 (by decide) ?_
  refine lg_iadd dL_law_479 ?_
  refine lg_ld i2 dL_law_480 ?_
  refine lg_call (as := [.int (xs (iv + (1 : Int32)).toNatClampNeg), .int (xs (iv + (2 : Int32)).toNatClampNeg)]) (mc1 := 0) (ms1 := 0) s_L_56_X12_ride_12 dL_law_481 e5 rfl (Nat.le_of_ble_eq_true rfl) (by omega) (by omega) (by decide) (t_X12_ride (d := 0) e2) (fun r9 h9 q9 => ?_)
  obtain ⟨rfl, rfl⟩ := q9
  refine lg_pc (pc2 := 484) (st2 := [.int v, .int v]) rfl rfl ?_
  refine lg_icmp_eq (tgt := 982) dL_law_484 (by decide) (fun _ => ?_) (fun c => absurd rfl c)
  exact kk h2 e3
set_option maxHeartbeats 1600000 in
theorem lwk_soonest {Inv : Nat → gH → Prop} (hs : LS_soonest Inv) {b L kc kn j : Nat} (hj : j < 64) {xs : Nat → Int32} {iv : Int32} {h : gH} (i1 : vp_in (iv + 1) L) (i2 : vp_in (iv + 2) L) (i3 : vp_in (iv + 3) L) (i4 : vp_in (iv + 4) L) (hc : kc + 10 ≤ 600000) (hn : kn + 10 ≤ 7302250) (hI : Inv j h) (kk : ∀ h2, Inv (j + 1) h2 → LG b L xs (kc + 0) (kn + 0) 982 iv [] h2) : LG b L xs kc kn 489 iv [] h := by
  refine lg_x dL_law_489 ?_
  refine lg_s dL_law_490 ?_
  refine lg_i dL_law_491 ?_
  refine lg_iconst (v := (1 : Int32)) dL_law_492 (by decide) ?_
  refine lg_iadd dL_law_493 ?_
  refine lg_ld i1 dL_law_494 ?_
  refine lg_s dL_law_495 ?_
  refine lg_i dL_law_496 ?_
  refine lg_iconst (v := (2 : Int32)) dL_law_497 (by decide) ?_
  refine lg_iadd dL_law_498 ?_
  refine lg_ld i2 dL_law_499 ?_
  refine lg_s dL_law_500 ?_
  refine lg_i dL_law_501 ?_
  refine lg_iconst (v := (3 : Int32)) dL_law_502 (by decide) ?_
  refine lg_iadd dL_law_503 ?_
  refine lg_ld i3 dL_law_504 ?_
  obtain ⟨v, h1, h2, e1, e2, e3, ⟨f1, e4⟩, ⟨f2, e5⟩⟩ := hs j h hj hI (xs (iv + (1 : Int32)).toNatClampNeg) (xs (iv + (2 : Int32)).toNatClampNeg) (xs (iv + (3 : Int32)).toNatClampNeg)
  refine lg_call (as := [.int (xs (iv + (1 : Int32)).toNatClampNeg), .int (xs (iv + (2 : Int32)).toNatClampNeg), .int (xs (iv + (3 : Int32)).toNatClampNeg)]) (mc1 := 0) (ms1 := 0) s_L_57_X11_soonest_11 dL_law_505 e4 rfl (Nat.le_of_ble_eq_true rfl) (by omega) (by omega) (by decide) (t_X11_soonest (d := 0) e1) (fun r9 h9 q9 => ?_)
  obtain ⟨rfl, rfl⟩ := q9
  refine lg_pc (pc2 := 508) (st2 := [.int v]) rfl rfl ?_
  refine lg_m dL_law_508 ?_
  refine lg_s dL_law_509 ?_
  refine lg_i dL_law_510 ?_
  refine lg_iconst (v := (1 : Int32)) dL_law_511 (by decide) ?_
  refine lg_iadd dL_law_512 ?_
  refine lg_ld i1 dL_law_513 ?_
  refine lg_s dL_law_514 ?_
  refine lg_i dL_law_515 ?_
  refine lg_iconst (v := (2 : Int32)) dL_law_516 (by decide) ?_
  refine lg_iadd dL_law_517 ?_
  refine lg_ld i2 dL_law_518 ?_
  refine lg_s dL_law_519 ?_
  refine lg_i dL_law_520 ?_
  refine lg_iconst (v := (3 : Int32)) dL_law_521 (by decide) ?_
  refine lg_iadd dL_law_522 ?_
  refine lg_ld i3 dL_law_523 ?_
  refine lg_call (as := [.int (xs (iv + (1 : Int32)).toNatClampNeg), .int (xs (iv + (2 : Int32)).toNatClampNeg), .int (xs (iv + (3 : Int32)).toNatClampNeg)]) (mc1 := 0) (ms1 := 0) s_L_60_X12_soonest_12 dL_law_524 e5 rfl (Nat.le_of_ble_eq_true rfl) (by omega) (by omega) (by decide) (t_X12_soonest (d := 0) e2) (fun r9 h9 q9 => ?_)
  obtain ⟨rfl, rfl⟩ := q9
  refine lg_pc (pc2 := 527) (st2 := [.int v, .int v]) rfl rfl ?_
  refine lg_icmp_eq (tgt := 982) dL_law_527 (by decide) (fun _ => ?_) (fun c => absurd rfl c)
  exact kk h2 e3
set_option maxHeartbeats 1600000 in
theorem lwk_price {Inv : Nat → gH → Prop} (hs : LS_price Inv) {b L kc kn j : Nat} (hj : j < 64) {xs : Nat → Int32} {iv : Int32} {h : gH} (i1 : vp_in (iv + 1) L) (i2 : vp_in (iv + 2) L) (i3 : vp_in (iv + 3) L) (i4 : vp_in (iv + 4) L) (hc : kc + 10 ≤ 600000) (hn : kn + 10 ≤ 7302250) (hI : Inv j h) (kk : ∀ h2, Inv (j + 1) h2 → LG b L xs (kc + 0) (kn + 0) 982 iv [] h2) : LG b L xs kc kn 532 iv [] h := by
  refine lg_x dL_law_532 ?_
  refine lg_s dL_law_533 ?_
  refine lg_i dL_law_534 ?_
  refine lg_iconst (v := (1 : Int32)) dL_law_535 (by decide) ?_
  refine lg_iadd dL_law_536 ?_
  refine lg_ld i1 dL_law_537 ?_
  refine lg_s dL_law_538 ?_
  refine lg_i dL_law_539 ?_
  refine lg_iconst (v := (2 : Int32)) dL_law_540 (by decide) ?_
  refine lg_iadd dL_law_541 ?_
  refine lg_ld i2 dL_law_542 ?_
  obtain ⟨v, h1, h2, e1, e2, e3, ⟨f1, e4⟩, ⟨f2, e5⟩⟩ := hs j h hj hI (xs (iv + (1 : Int32)).toNatClampNeg) (xs (iv + (2 : Int32)).toNatClampNeg)
  refine lg_call (as := [.int (xs (iv + (1 : Int32)).toNatClampNeg), .int (xs (iv + (2 : Int32)).toNatClampNeg)]) (mc1 := 0) (ms1 := 0) s_L_61_X11_price_11 dL_law_543 e4 rfl (Nat.le_of_ble_eq_true rfl) (by omega) (by omega) (by decide) (t_X11_price (d := 0) e1) (fun r9 h9 q9 => ?_)
  obtain ⟨rfl, rfl⟩ := q9
  refine lg_pc (pc2 := 546) (st2 := [.int v]) rfl rfl ?_
  refine lg_m dL_law_546 ?_
  refine lg_s dL_law_547 ?_
  refine lg_i dL_law_548 ?_
  refine lg_iconst (v := (1 : Int32)) dL_law_549 (by decide) ?_
  refine lg_iadd dL_law_550 ?_
  refine lg_ld i1 dL_law_551 ?_
  refine lg_s dL_law_552 ?_
  refine lg_i dL_law_553 ?_
  refine lg_iconst (v := (2 : Int32)) dL_law_554 (by decide) ?_
  refine lg_iadd dL_law_555 ?_
  refine lg_ld i2 dL_law_556 ?_
  refine lg_call (as := [.int (xs (iv + (1 : Int32)).toNatClampNeg), .int (xs (iv + (2 : Int32)).toNatClampNeg)]) (mc1 := 0) (ms1 := 0) s_L_64_X12_price_12 dL_law_557 e5 rfl (Nat.le_of_ble_eq_true rfl) (by omega) (by omega) (by decide) (t_X12_price (d := 0) e2) (fun r9 h9 q9 => ?_)
  obtain ⟨rfl, rfl⟩ := q9
  refine lg_pc (pc2 := 560) (st2 := [.int v, .int v]) rfl rfl ?_
  refine lg_icmp_eq (tgt := 982) dL_law_560 (by decide) (fun _ => ?_) (fun c => absurd rfl c)
  exact kk h2 e3
set_option maxHeartbeats 1600000 in
theorem lwk_loses {Inv : Nat → gH → Prop} (hs : LS_loses Inv) {b L kc kn j : Nat} (hj : j < 64) {xs : Nat → Int32} {iv : Int32} {h : gH} (i1 : vp_in (iv + 1) L) (i2 : vp_in (iv + 2) L) (i3 : vp_in (iv + 3) L) (i4 : vp_in (iv + 4) L) (hc : kc + 10 ≤ 600000) (hn : kn + 10 ≤ 7302250) (hI : Inv j h) (kk : ∀ h2, Inv (j + 1) h2 → LG b L xs (kc + 0) (kn + 0) 982 iv [] h2) : LG b L xs kc kn 565 iv [] h := by
  refine lg_x dL_law_565 ?_
  refine lg_s dL_law_566 ?_
  refine lg_i dL_law_567 ?_
  refine lg_iconst (v := (1 : Int32)) dL_law_568 (by decide) ?_
  refine lg_iadd dL_law_569 ?_
  refine lg_ld i1 dL_law_570 ?_
  obtain ⟨v, h1, h2, e1, e2, e3, ⟨f1, e4⟩, ⟨f2, e5⟩⟩ := hs j h hj hI (xs (iv + (1 : Int32)).toNatClampNeg)
  refine lg_call (as := [.int (xs (iv + (1 : Int32)).toNatClampNeg)]) (mc1 := 0) (ms1 := 0) s_L_65_X11_loses_11 dL_law_571 e4 rfl (Nat.le_of_ble_eq_true rfl) (by omega) (by omega) (by decide) (t_X11_loses (d := 0) e1) (fun r9 h9 q9 => ?_)
  obtain ⟨rfl, rfl⟩ := q9
  refine lg_pc (pc2 := 574) (st2 := [.int v]) rfl rfl ?_
  refine lg_m dL_law_574 ?_
  refine lg_s dL_law_575 ?_
  refine lg_i dL_law_576 ?_
  refine lg_iconst (v := (1 : Int32)) dL_law_577 (by decide) ?_
  refine lg_iadd dL_law_578 ?_
  refine lg_ld i1 dL_law_579 ?_
  refine lg_call (as := [.int (xs (iv + (1 : Int32)).toNatClampNeg)]) (mc1 := 0) (ms1 := 0) s_L_68_X12_loses_12 dL_law_580 e5 rfl (Nat.le_of_ble_eq_true rfl) (by omega) (by omega) (by decide) (t_X12_loses (d := 0) e2) (fun r9 h9 q9 => ?_)
  obtain ⟨rfl, rfl⟩ := q9
  refine lg_pc (pc2 := 583) (st2 := [.int v, .int v]) rfl rfl ?_
  refine lg_icmp_eq (tgt := 982) dL_law_583 (by decide) (fun _ => ?_) (fun c => absurd rfl c)
  exact kk h2 e3
set_option maxHeartbeats 1600000 in
theorem lwk_row {Inv : Nat → gH → Prop} (hs : LS_row Inv) {b L kc kn j : Nat} (hj : j < 64) {xs : Nat → Int32} {iv : Int32} {h : gH} (i1 : vp_in (iv + 1) L) (i2 : vp_in (iv + 2) L) (i3 : vp_in (iv + 3) L) (i4 : vp_in (iv + 4) L) (hc : kc + 10 ≤ 600000) (hn : kn + 10 ≤ 7302250) (hI : Inv j h) (kk : ∀ h2, Inv (j + 1) h2 → LG b L xs (kc + 0) (kn + 0) 982 iv [] h2) : LG b L xs kc kn 588 iv [] h := by
  refine lg_x dL_law_588 ?_
  refine lg_s dL_law_589 ?_
  refine lg_i dL_law_590 ?_
  refine lg_iconst (v := (1 : Int32)) dL_law_591 (by decide) ?_
  refine lg_iadd dL_law_592 ?_
  refine lg_ld i1 dL_law_593 ?_
  obtain ⟨v, h1, h2, e1, e2, e3, ⟨f1, e4⟩, ⟨f2, e5⟩⟩ := hs j h hj hI (xs (iv + (1 : Int32)).toNatClampNeg)
  refine lg_call (as := [.int (xs (iv + (1 : Int32)).toNatClampNeg)]) (mc1 := 0) (ms1 := 0) s_L_69_X11_row_11 dL_law_594 e4 rfl (Nat.le_of_ble_eq_true rfl) (by omega) (by omega) (by decide) (t_X11_row (d := 0) e1) (fun r9 h9 q9 => ?_)
  obtain ⟨rfl, rfl⟩ := q9
  refine lg_pc (pc2 := 597) (st2 := [.int v]) rfl rfl ?_
  refine lg_m dL_law_597 ?_
  refine lg_s dL_law_598 ?_
  refine lg_i dL_law_599 ?_
  refine lg_iconst (v := (1 : Int32)) dL_law_600 (by decide) ?_
  refine lg_iadd dL_law_601 ?_
  refine lg_ld i1 dL_law_602 ?_
  refine lg_call (as := [.int (xs (iv + (1 : Int32)).toNatClampNeg)]) (mc1 := 0) (ms1 := 0) s_L_72_X12_row_12 dL_law_603 e5 rfl (Nat.le_of_ble_eq_true rfl) (by omega) (by omega) (by decide) (t_X12_row (d := 0) e2) (fun r9 h9 q9 => ?_)
  obtain ⟨rfl, rfl⟩ := q9
  refine lg_pc (pc2 := 606) (st2 := [.int v, .int v]) rfl rfl ?_
  refine lg_icmp_eq (tgt := 982) dL_law_606 (by decide) (fun _ => ?_) (fun c => absurd rfl c)
  exact kk h2 e3
set_option maxHeartbeats 1600000 in
theorem lwk_judged {Inv : Nat → gH → Prop} (hs : LS_judged Inv) {b L kc kn j : Nat} (hj : j < 64) {xs : Nat → Int32} {iv : Int32} {h : gH} (i1 : vp_in (iv + 1) L) (i2 : vp_in (iv + 2) L) (i3 : vp_in (iv + 3) L) (i4 : vp_in (iv + 4) L) (hc : kc + 10 ≤ 600000) (hn : kn + 10 ≤ 7302250) (hI : Inv j h) (kk : ∀ h2, Inv (j + 1) h2 → LG b L xs (kc + 0) (kn + 0) 982 iv [] h2) : LG b L xs kc kn 611 iv [] h := by
  refine lg_x dL_law_611 ?_
  refine lg_s dL_law_612 ?_
  refine lg_i dL_law_613 ?_
  refine lg_iconst (v := (1 : Int32)) dL_law_614 (by decide) ?_
  refine lg_iadd dL_law_615 ?_
  refine lg_ld i1 dL_law_616 ?_
  obtain ⟨v, h1, h2, e1, e2, e3, ⟨f1, e4⟩, ⟨f2, e5⟩⟩ := hs j h hj hI (xs (iv + (1 : Int32)).toNatClampNeg)
  refine lg_call (as := [.int (xs (iv + (1 : Int32)).toNatClampNeg)]) (mc1 := 0) (ms1 := 0) s_L_73_X11_judged_11 dL_law_617 e4 rfl (Nat.le_of_ble_eq_true rfl) (by omega) (by omega) (by decide) (t_X11_judged (d := 0) e1) (fun r9 h9 q9 => ?_)
  obtain ⟨rfl, rfl⟩ := q9
  refine lg_pc (pc2 := 620) (st2 := [.int v]) rfl rfl ?_
  refine lg_m dL_law_620 ?_
  refine lg_s dL_law_621 ?_
  refine lg_i dL_law_622 ?_
  refine lg_iconst (v := (1 : Int32)) dL_law_623 (by decide) ?_
  refine lg_iadd dL_law_624 ?_
  refine lg_ld i1 dL_law_625 ?_
  refine lg_call (as := [.int (xs (iv + (1 : Int32)).toNatClampNeg)]) (mc1 := 0) (ms1 := 0) s_L_76_X12_judged_12 dL_law_626 e5 rfl (Nat.le_of_ble_eq_true rfl) (by omega) (by omega) (by decide) (t_X12_judged (d := 0) e2) (fun r9 h9 q9 => ?_)
  obtain ⟨rfl, rfl⟩ := q9
  refine lg_pc (pc2 := 629) (st2 := [.int v, .int v]) rfl rfl ?_
  refine lg_icmp_eq (tgt := 982) dL_law_629 (by decide) (fun _ => ?_) (fun c => absurd rfl c)
  exact kk h2 e3
set_option maxHeartbeats 1600000 in
theorem lwk_mean {Inv : Nat → gH → Prop} (hs : LS_mean Inv) {b L kc kn j : Nat} (hj : j < 64) {xs : Nat → Int32} {iv : Int32} {h : gH} (i1 : vp_in (iv + 1) L) (i2 : vp_in (iv + 2) L) (i3 : vp_in (iv + 3) L) (i4 : vp_in (iv + 4) L) (hc : kc + 10 ≤ 600000) (hn : kn + 10 ≤ 7302250) (hI : Inv j h) (kk : ∀ h2, Inv (j + 1) h2 → LG b L xs (kc + 0) (kn + 0) 982 iv [] h2) : LG b L xs kc kn 634 iv [] h := by
  refine lg_x dL_law_634 ?_
  refine lg_s dL_law_635 ?_
  refine lg_i dL_law_636 ?_
  refine lg_iconst (v := (1 : Int32)) dL_law_637 (by decide) ?_
  refine lg_iadd dL_law_638 ?_
  refine lg_ld i1 dL_law_639 ?_
  refine lg_s dL_law_640 ?_
  refine lg_i dL_law_641 ?_
  refine lg_iconst (v := (2 : Int32)) dL_law_642 (by decide) ?_
  refine lg_iadd dL_law_643 ?_
  refine lg_ld i2 dL_law_644 ?_
  obtain ⟨v, h1, h2, e1, e2, e3, ⟨f1, e4⟩, ⟨f2, e5⟩⟩ := hs j h hj hI (xs (iv + (1 : Int32)).toNatClampNeg) (xs (iv + (2 : Int32)).toNatClampNeg)
  refine lg_call (as := [.int (xs (iv + (1 : Int32)).toNatClampNeg), .int (xs (iv + (2 : Int32)).toNatClampNeg)]) (mc1 := 0) (ms1 := 0) s_L_77_X11_mean_11 dL_law_645 e4 rfl (Nat.le_of_ble_eq_true rfl) (by omega) (by omega) (by decide) (t_X11_mean (d := 0) e1) (fun r9 h9 q9 => ?_)
  obtain ⟨rfl, rfl⟩ := q9
  refine lg_pc (pc2 := 648) (st2 := [.long v]) rfl rfl ?_
  refine lg_m dL_law_648 ?_
  refine lg_s dL_law_649 ?_
  refine lg_i dL_law_650 ?_
  refine lg_iconst (v := (1 : Int32)) dL_law_651 (by decide) ?_
  refine lg_iadd dL_law_652 ?_
  refine lg_ld i1 dL_law_653 ?_
  refine lg_s dL_law_654 ?_
  refine lg_i dL_law_655 ?_
  refine lg_iconst (v := (2 : Int32)) dL_law_656 (by decide) ?_
  refine lg_iadd dL_law_657 ?_
  refine lg_ld i2 dL_law_658 ?_
  refine lg_call (as := [.int (xs (iv + (1 : Int32)).toNatClampNeg), .int (xs (iv + (2 : Int32)).toNatClampNeg)]) (mc1 := 0) (ms1 := 0) s_L_81_X12_mean_12 dL_law_659 e5 rfl (Nat.le_of_ble_eq_true rfl) (by omega) (by omega) (by decide) (t_X12_mean (d := 0) e2) (fun r9 h9 q9 => ?_)
  obtain ⟨rfl, rfl⟩ := q9
  refine lg_pc (pc2 := 662) (st2 := [.long v, .long v]) rfl rfl ?_
  refine lg_lcmp dL_law_662 ?_
  refine lg_if_eq (tgt := 982) dL_law_663 (by decide) (fun _ => ?_) (fun c => absurd (lg_cmp_self v) c)
  exact kk h2 e3
set_option maxHeartbeats 1600000 in
theorem lwk_sure {Inv : Nat → gH → Prop} (hs : LS_sure Inv) {b L kc kn j : Nat} (hj : j < 64) {xs : Nat → Int32} {iv : Int32} {h : gH} (i1 : vp_in (iv + 1) L) (i2 : vp_in (iv + 2) L) (i3 : vp_in (iv + 3) L) (i4 : vp_in (iv + 4) L) (hc : kc + 10 ≤ 600000) (hn : kn + 10 ≤ 7302250) (hI : Inv j h) (kk : ∀ h2, Inv (j + 1) h2 → LG b L xs (kc + 0) (kn + 0) 982 iv [] h2) : LG b L xs kc kn 668 iv [] h := by
  refine lg_x dL_law_668 ?_
  refine lg_s dL_law_669 ?_
  refine lg_i dL_law_670 ?_
  refine lg_iconst (v := (1 : Int32)) dL_law_671 (by decide) ?_
  refine lg_iadd dL_law_672 ?_
  refine lg_ld i1 dL_law_673 ?_
  refine lg_s dL_law_674 ?_
  refine lg_i dL_law_675 ?_
  refine lg_iconst (v := (2 : Int32)) dL_law_676 (by decide) ?_
  refine lg_iadd dL_law_677 ?_
  refine lg_ld i2 dL_law_678 ?_
  refine lg_s dL_law_679 ?_
  refine lg_i dL_law_680 ?_
  refine lg_iconst (v := (3 : Int32)) dL_law_681 (by decide) ?_
  refine lg_iadd dL_law_682 ?_
  refine lg_ld i3 dL_law_683 ?_
  obtain ⟨v, h1, h2, e1, e2, e3, ⟨f1, e4⟩, ⟨f2, e5⟩⟩ := hs j h hj hI (xs (iv + (1 : Int32)).toNatClampNeg) (xs (iv + (2 : Int32)).toNatClampNeg) (xs (iv + (3 : Int32)).toNatClampNeg)
  refine lg_call (as := [.int (xs (iv + (1 : Int32)).toNatClampNeg), .int (xs (iv + (2 : Int32)).toNatClampNeg), .int (xs (iv + (3 : Int32)).toNatClampNeg)]) (mc1 := 0) (ms1 := 0) s_L_82_X11_sure_11 dL_law_684 e4 rfl (Nat.le_of_ble_eq_true rfl) (by omega) (by omega) (by decide) (t_X11_sure (d := 0) e1) (fun r9 h9 q9 => ?_)
  obtain ⟨rfl, rfl⟩ := q9
  refine lg_pc (pc2 := 687) (st2 := [.long v]) rfl rfl ?_
  refine lg_m dL_law_687 ?_
  refine lg_s dL_law_688 ?_
  refine lg_i dL_law_689 ?_
  refine lg_iconst (v := (1 : Int32)) dL_law_690 (by decide) ?_
  refine lg_iadd dL_law_691 ?_
  refine lg_ld i1 dL_law_692 ?_
  refine lg_s dL_law_693 ?_
  refine lg_i dL_law_694 ?_
  refine lg_iconst (v := (2 : Int32)) dL_law_695 (by decide) ?_
  refine lg_iadd dL_law_696 ?_
  refine lg_ld i2 dL_law_697 ?_
  refine lg_s dL_law_698 ?_
  refine lg_i dL_law_699 ?_
  refine lg_iconst (v := (3 : Int32)) dL_law_700 (by decide) ?_
  refine lg_iadd dL_law_701 ?_
  refine lg_ld i3 dL_law_702 ?_
  refine lg_call (as := [.int (xs (iv + (1 : Int32)).toNatClampNeg), .int (xs (iv + (2 : Int32)).toNatClampNeg), .int (xs (iv + (3 : Int32)).toNatClampNeg)]) (mc1 := 0) (ms1 := 0) s_L_86_X12_sure_12 dL_law_703 e5 rfl (Nat.le_of_ble_eq_true rfl) (by omega) (by omega) (by decide) (t_X12_sure (d := 0) e2) (fun r9 h9 q9 => ?_)
  obtain ⟨rfl, rfl⟩ := q9
  refine lg_pc (pc2 := 706) (st2 := [.long v, .long v]) rfl rfl ?_
  refine lg_lcmp dL_law_706 ?_
  refine lg_if_eq (tgt := 982) dL_law_707 (by decide) (fun _ => ?_) (fun c => absurd (lg_cmp_self v) c)
  exact kk h2 e3
set_option maxHeartbeats 1600000 in
theorem lwk_gears {Inv : Nat → gH → Prop} (hs : LS_gears Inv) {b L kc kn j : Nat} (hj : j < 64) {xs : Nat → Int32} {iv : Int32} {h : gH} (i1 : vp_in (iv + 1) L) (i2 : vp_in (iv + 2) L) (i3 : vp_in (iv + 3) L) (i4 : vp_in (iv + 4) L) (hc : kc + 10 ≤ 600000) (hn : kn + 10 ≤ 7302250) (hI : Inv j h) (kk : ∀ h2, Inv (j + 1) h2 → LG b L xs (kc + 0) (kn + 0) 982 iv [] h2) : LG b L xs kc kn 712 iv [] h := by
  refine lg_x dL_law_712 ?_
  refine lg_s dL_law_713 ?_
  refine lg_i dL_law_714 ?_
  refine lg_iconst (v := (1 : Int32)) dL_law_715 (by decide) ?_
  refine lg_iadd dL_law_716 ?_
  refine lg_ld i1 dL_law_717 ?_
  refine lg_s dL_law_718 ?_
  refine lg_i dL_law_719 ?_
  refine lg_iconst (v := (2 : Int32)) dL_law_720 (by decide) ?_
  refine lg_iadd dL_law_721 ?_
  refine lg_ld i2 dL_law_722 ?_
  obtain ⟨v, h1, h2, e1, e2, e3, ⟨f1, e4⟩, ⟨f2, e5⟩⟩ := hs j h hj hI (xs (iv + (1 : Int32)).toNatClampNeg) (xs (iv + (2 : Int32)).toNatClampNeg)
  refine lg_call (as := [.int (xs (iv + (1 : Int32)).toNatClampNeg), .int (xs (iv + (2 : Int32)).toNatClampNeg)]) (mc1 := 0) (ms1 := 0) s_L_87_X11_gears_11 dL_law_723 e4 rfl (Nat.le_of_ble_eq_true rfl) (by omega) (by omega) (by decide) (t_X11_gears (d := 0) e1) (fun r9 h9 q9 => ?_)
  obtain ⟨rfl, rfl⟩ := q9
  refine lg_pc (pc2 := 726) (st2 := [.int v]) rfl rfl ?_
  refine lg_m dL_law_726 ?_
  refine lg_s dL_law_727 ?_
  refine lg_i dL_law_728 ?_
  refine lg_iconst (v := (1 : Int32)) dL_law_729 (by decide) ?_
  refine lg_iadd dL_law_730 ?_
  refine lg_ld i1 dL_law_731 ?_
  refine lg_s dL_law_732 ?_
  refine lg_i dL_law_733 ?_
  refine lg_iconst (v := (2 : Int32)) dL_law_734 (by decide) ?_
  refine lg_iadd dL_law_735 ?_
  refine lg_ld i2 dL_law_736 ?_
  refine lg_call (as := [.int (xs (iv + (1 : Int32)).toNatClampNeg), .int (xs (iv + (2 : Int32)).toNatClampNeg)]) (mc1 := 0) (ms1 := 0) s_L_90_X12_gears_12 dL_law_737 e5 rfl (Nat.le_of_ble_eq_true rfl) (by omega) (by omega) (by decide) (t_X12_gears (d := 0) e2) (fun r9 h9 q9 => ?_)
  obtain ⟨rfl, rfl⟩ := q9
  refine lg_pc (pc2 := 740) (st2 := [.int v, .int v]) rfl rfl ?_
  refine lg_icmp_eq (tgt := 982) dL_law_740 (by decide) (fun _ => ?_) (fun c => absurd rfl c)
  exact kk h2 e3
set_option maxHeartbeats 1600000 in
theorem lwk_by {Inv : Nat → gH → Prop} (hs : LS_by Inv) {b L kc kn j : Nat} (hj : j < 64) {xs : Nat → Int32} {iv : Int32} {h : gH} (i1 : vp_in (iv + 1) L) (i2 : vp_in (iv + 2) L) (i3 : vp_in (iv + 3) L) (i4 : vp_in (iv + 4) L) (hc : kc + 10 ≤ 600000) (hn : kn + 10 ≤ 7302250) (hI : Inv j h) (kk : ∀ h2, Inv (j + 1) h2 → LG b L xs (kc + 0) (kn + 0) 982 iv [] h2) : LG b L xs kc kn 745 iv [] h := by
  refine lg_x dL_law_745 ?_
  refine lg_s dL_law_746 ?_
  refine lg_i dL_law_747 ?_
  refine lg_iconst (v := (1 : Int32)) dL_law_748 (by decide) ?_
  refine lg_iadd dL_law_749 ?_
  refine lg_ld i1 dL_law_750 ?_
  obtain ⟨v, h1, h2, e1, e2, e3, ⟨f1, e4⟩, ⟨f2, e5⟩⟩ := hs j h hj hI (xs (iv + (1 : Int32)).toNatClampNeg)
  refine lg_call (as := [.int (xs (iv + (1 : Int32)).toNatClampNeg)]) (mc1 := 0) (ms1 := 0) s_L_91_X11_by_11 dL_law_751 e4 rfl (Nat.le_of_ble_eq_true rfl) (by omega) (by omega) (by decide) (t_X11_by (d := 0) e1) (fun r9 h9 q9 => ?_)
  obtain ⟨rfl, rfl⟩ := q9
  refine lg_pc (pc2 := 754) (st2 := [.int v]) rfl rfl ?_
  refine lg_m dL_law_754 ?_
  refine lg_s dL_law_755 ?_
  refine lg_i dL_law_756 ?_
  refine lg_iconst (v := (1 : Int32)) dL_law_757 (by decide) ?_
  refine lg_iadd dL_law_758 ?_
  refine lg_ld i1 dL_law_759 ?_
  refine lg_call (as := [.int (xs (iv + (1 : Int32)).toNatClampNeg)]) (mc1 := 0) (ms1 := 0) s_L_94_X12_by_12 dL_law_760 e5 rfl (Nat.le_of_ble_eq_true rfl) (by omega) (by omega) (by decide) (t_X12_by (d := 0) e2) (fun r9 h9 q9 => ?_)
  obtain ⟨rfl, rfl⟩ := q9
  refine lg_pc (pc2 := 763) (st2 := [.int v, .int v]) rfl rfl ?_
  refine lg_icmp_eq (tgt := 982) dL_law_763 (by decide) (fun _ => ?_) (fun c => absurd rfl c)
  exact kk h2 e3
set_option maxHeartbeats 1600000 in
theorem lwk_wheel {Inv : Nat → gH → Prop} (hs : LS_wheel Inv) {b L kc kn j : Nat} (hj : j < 64) {xs : Nat → Int32} {iv : Int32} {h : gH} (i1 : vp_in (iv + 1) L) (i2 : vp_in (iv + 2) L) (i3 : vp_in (iv + 3) L) (i4 : vp_in (iv + 4) L) (hc : kc + 10 ≤ 600000) (hn : kn + 10 ≤ 7302250) (hI : Inv j h) (kk : ∀ h2, Inv (j + 1) h2 → LG b L xs (kc + 0) (kn + 0) 982 iv [] h2) : LG b L xs kc kn 768 iv [] h := by
  refine lg_x dL_law_768 ?_
  refine lg_s dL_law_769 ?_
  refine lg_i dL_law_770 ?_
  refine lg_iconst (v := (1 : Int32)) dL_law_771 (by decide) ?_
  refine lg_iadd dL_law_772 ?_
  refine lg_ld i1 dL_law_773 ?_
  refine lg_s dL_law_774 ?_
  refine lg_i dL_law_775 ?_
  refine lg_iconst (v := (2 : Int32)) dL_law_776 (by decide) ?_
  refine lg_iadd dL_law_777 ?_
  refine lg_ld i2 dL_law_778 ?_
  refine lg_s dL_law_779 ?_
  refine lg_i dL_law_780 ?_
  refine lg_iconst (v := (3 : Int32)) dL_law_781 (by decide) ?_
  refine lg_iadd dL_law_782 ?_
  refine lg_ld i3 dL_law_783 ?_
  obtain ⟨v, h1, h2, e1, e2, e3, ⟨f1, e4⟩, ⟨f2, e5⟩⟩ := hs j h hj hI (xs (iv + (1 : Int32)).toNatClampNeg) (xs (iv + (2 : Int32)).toNatClampNeg) (xs (iv + (3 : Int32)).toNatClampNeg)
  refine lg_call (as := [.int (xs (iv + (1 : Int32)).toNatClampNeg), .int (xs (iv + (2 : Int32)).toNatClampNeg), .int (xs (iv + (3 : Int32)).toNatClampNeg)]) (mc1 := 0) (ms1 := 0) s_L_95_X11_wheel_11 dL_law_784 e4 rfl (Nat.le_of_ble_eq_true rfl) (by omega) (by omega) (by decide) (t_X11_wheel (d := 0) e1) (fun r9 h9 q9 => ?_)
  obtain ⟨rfl, rfl⟩ := q9
  refine lg_pc (pc2 := 787) (st2 := [.int v]) rfl rfl ?_
  refine lg_m dL_law_787 ?_
  refine lg_s dL_law_788 ?_
  refine lg_i dL_law_789 ?_
  refine lg_iconst (v := (1 : Int32)) dL_law_790 (by decide) ?_
  refine lg_iadd dL_law_791 ?_
  refine lg_ld i1 dL_law_792 ?_
  refine lg_s dL_law_793 ?_
  refine lg_i dL_law_794 ?_
  refine lg_iconst (v := (2 : Int32)) dL_law_795 (by decide) ?_
  refine lg_iadd dL_law_796 ?_
  refine lg_ld i2 dL_law_797 ?_
  refine lg_s dL_law_798 ?_
  refine lg_i dL_law_799 ?_
  refine lg_iconst (v := (3 : Int32)) dL_law_800 (by decide) ?_
  refine lg_iadd dL_law_801 ?_
  refine lg_ld i3 dL_law_802 ?_
  refine lg_call (as := [.int (xs (iv + (1 : Int32)).toNatClampNeg), .int (xs (iv + (2 : Int32)).toNatClampNeg), .int (xs (iv + (3 : Int32)).toNatClampNeg)]) (mc1 := 0) (ms1 := 0) s_L_98_X12_wheel_12 dL_law_803 e5 rfl (Nat.le_of_ble_eq_true rfl) (by omega) (by omega) (by decide) (t_X12_wheel (d := 0) e2) (fun r9 h9 q9 => ?_)
  obtain ⟨rfl, rfl⟩ := q9
  refine lg_pc (pc2 := 806) (st2 := [.int v, .int v]) rfl rfl ?_
  refine lg_icmp_eq (tgt := 982) dL_law_806 (by decide) (fun _ => ?_) (fun c => absurd rfl c)
  exact kk h2 e3
set_option maxHeartbeats 1600000 in
theorem lwk_laps {Inv : Nat → gH → Prop} (hs : LS_laps Inv) {b L kc kn j : Nat} (hj : j < 64) {xs : Nat → Int32} {iv : Int32} {h : gH} (i1 : vp_in (iv + 1) L) (i2 : vp_in (iv + 2) L) (i3 : vp_in (iv + 3) L) (i4 : vp_in (iv + 4) L) (hc : kc + 10 ≤ 600000) (hn : kn + 10 ≤ 7302250) (hI : Inv j h) (kk : ∀ h2, Inv (j + 1) h2 → LG b L xs (kc + 0) (kn + 0) 982 iv [] h2) : LG b L xs kc kn 811 iv [] h := by
  refine lg_x dL_law_811 ?_
  refine lg_s dL_law_812 ?_
  refine lg_i dL_law_813 ?_
  refine lg_iconst (v := (1 : Int32)) dL_law_814 (by decide) ?_
  refine lg_iadd dL_law_815 ?_
  refine lg_ld i1 dL_law_816 ?_
  obtain ⟨v, h1, h2, e1, e2, e3, ⟨f1, e4⟩, ⟨f2, e5⟩⟩ := hs j h hj hI (xs (iv + (1 : Int32)).toNatClampNeg)
  refine lg_call (as := [.int (xs (iv + (1 : Int32)).toNatClampNeg)]) (mc1 := 0) (ms1 := 0) s_L_99_X11_laps_11 dL_law_817 e4 rfl (Nat.le_of_ble_eq_true rfl) (by omega) (by omega) (by decide) (t_X11_laps (d := 0) e1) (fun r9 h9 q9 => ?_)
  obtain ⟨rfl, rfl⟩ := q9
  refine lg_pc (pc2 := 820) (st2 := [.int v]) rfl rfl ?_
  refine lg_m dL_law_820 ?_
  refine lg_s dL_law_821 ?_
  refine lg_i dL_law_822 ?_
  refine lg_iconst (v := (1 : Int32)) dL_law_823 (by decide) ?_
  refine lg_iadd dL_law_824 ?_
  refine lg_ld i1 dL_law_825 ?_
  refine lg_call (as := [.int (xs (iv + (1 : Int32)).toNatClampNeg)]) (mc1 := 0) (ms1 := 0) s_L_102_X12_laps_12 dL_law_826 e5 rfl (Nat.le_of_ble_eq_true rfl) (by omega) (by omega) (by decide) (t_X12_laps (d := 0) e2) (fun r9 h9 q9 => ?_)
  obtain ⟨rfl, rfl⟩ := q9
  refine lg_pc (pc2 := 829) (st2 := [.int v, .int v]) rfl rfl ?_
  refine lg_icmp_eq (tgt := 982) dL_law_829 (by decide) (fun _ => ?_) (fun c => absurd rfl c)
  exact kk h2 e3
set_option maxHeartbeats 1600000 in
theorem lwk_act {Inv : Nat → gH → Prop} (hs : LS_act Inv) {b L kc kn j : Nat} (hj : j < 64) {xs : Nat → Int32} {iv : Int32} {h : gH} (i1 : vp_in (iv + 1) L) (i2 : vp_in (iv + 2) L) (i3 : vp_in (iv + 3) L) (i4 : vp_in (iv + 4) L) (hc : kc + 10 ≤ 600000) (hn : kn + 10 ≤ 7302250) (hI : Inv j h) (kk : ∀ h2, Inv (j + 1) h2 → LG b L xs (kc + 0) (kn + 0) 982 iv [] h2) : LG b L xs kc kn 834 iv [] h := by
  refine lg_x dL_law_834 ?_
  refine lg_s dL_law_835 ?_
  refine lg_i dL_law_836 ?_
  refine lg_iconst (v := (1 : Int32)) dL_law_837 (by decide) ?_
  refine lg_iadd dL_law_838 ?_
  refine lg_ld i1 dL_law_839 ?_
  refine lg_s dL_law_840 ?_
  refine lg_i dL_law_841 ?_
  refine lg_iconst (v := (2 : Int32)) dL_law_842 (by decide) ?_
  refine lg_iadd dL_law_843 ?_
  refine lg_ld i2 dL_law_844 ?_
  refine lg_s dL_law_845 ?_
  refine lg_i dL_law_846 ?_
  refine lg_iconst (v := (3 : Int32)) dL_law_847 (by decide) ?_
  refine lg_iadd dL_law_848 ?_
  refine lg_ld i3 dL_law_849 ?_
  obtain ⟨v, h1, h2, e1, e2, e3, ⟨f1, e4⟩, ⟨f2, e5⟩⟩ := hs j h hj hI (xs (iv + (1 : Int32)).toNatClampNeg) (xs (iv + (2 : Int32)).toNatClampNeg) (xs (iv + (3 : Int32)).toNatClampNeg)
  refine lg_call (as := [.int (xs (iv + (1 : Int32)).toNatClampNeg), .int (xs (iv + (2 : Int32)).toNatClampNeg), .int (xs (iv + (3 : Int32)).toNatClampNeg)]) (mc1 := 0) (ms1 := 0) s_L_103_X11_act_11 dL_law_850 e4 rfl (Nat.le_of_ble_eq_true rfl) (by omega) (by omega) (by decide) (t_X11_act (d := 0) e1) (fun r9 h9 q9 => ?_)
  obtain ⟨rfl, rfl⟩ := q9
  refine lg_pc (pc2 := 853) (st2 := [.int v]) rfl rfl ?_
  refine lg_m dL_law_853 ?_
  refine lg_s dL_law_854 ?_
  refine lg_i dL_law_855 ?_
  refine lg_iconst (v := (1 : Int32)) dL_law_856 (by decide) ?_
  refine lg_iadd dL_law_857 ?_
  refine lg_ld i1 dL_law_858 ?_
  refine lg_s dL_law_859 ?_
  refine lg_i dL_law_860 ?_
  refine lg_iconst (v := (2 : Int32)) dL_law_861 (by decide) ?_
  refine lg_iadd dL_law_862 ?_
  refine lg_ld i2 dL_law_863 ?_
  refine lg_s dL_law_864 ?_
  refine lg_i dL_law_865 ?_
  refine lg_iconst (v := (3 : Int32)) dL_law_866 (by decide) ?_
  refine lg_iadd dL_law_867 ?_
  refine lg_ld i3 dL_law_868 ?_
  refine lg_call (as := [.int (xs (iv + (1 : Int32)).toNatClampNeg), .int (xs (iv + (2 : Int32)).toNatClampNeg), .int (xs (iv + (3 : Int32)).toNatClampNeg)]) (mc1 := 0) (ms1 := 0) s_L_106_X12_act_12 dL_law_869 e5 rfl (Nat.le_of_ble_eq_true rfl) (by omega) (by omega) (by decide) (t_X12_act (d := 0) e2) (fun r9 h9 q9 => ?_)
  obtain ⟨rfl, rfl⟩ := q9
  refine lg_pc (pc2 := 872) (st2 := [.int v, .int v]) rfl rfl ?_
  refine lg_icmp_eq (tgt := 982) dL_law_872 (by decide) (fun _ => ?_) (fun c => absurd rfl c)
  exact kk h2 e3
set_option maxHeartbeats 1600000 in
theorem lwk_trace {Inv : Nat → gH → Prop} (hs : LS_trace Inv) {b L kc kn j : Nat} (hj : j < 64) {xs : Nat → Int32} {iv : Int32} {h : gH} (i1 : vp_in (iv + 1) L) (i2 : vp_in (iv + 2) L) (i3 : vp_in (iv + 3) L) (i4 : vp_in (iv + 4) L) (hc : kc + 10 ≤ 600000) (hn : kn + 10 ≤ 7302250) (hI : Inv j h) (kk : ∀ h2, Inv (j + 1) h2 → LG b L xs (kc + 0) (kn + 0) 982 iv [] h2) : LG b L xs kc kn 877 iv [] h := by
  refine lg_x dL_law_877 ?_
  refine lg_s dL_law_878 ?_
  refine lg_i dL_law_879 ?_
  refine lg_iconst (v := (1 : Int32)) dL_law_880 (by decide) ?_
  refine lg_iadd dL_law_881 ?_
  refine lg_ld i1 dL_law_882 ?_
  obtain ⟨v, h1, h2, e1, e2, e3, ⟨f1, e4⟩, ⟨f2, e5⟩⟩ := hs j h hj hI (xs (iv + (1 : Int32)).toNatClampNeg)
  refine lg_call (as := [.int (xs (iv + (1 : Int32)).toNatClampNeg)]) (mc1 := 0) (ms1 := 0) s_L_107_X11_trace_11 dL_law_883 e4 rfl (Nat.le_of_ble_eq_true rfl) (by omega) (by omega) (by decide) (t_X11_trace (d := 0) e1) (fun r9 h9 q9 => ?_)
  obtain ⟨rfl, rfl⟩ := q9
  refine lg_pc (pc2 := 886) (st2 := [.int v]) rfl rfl ?_
  refine lg_m dL_law_886 ?_
  refine lg_s dL_law_887 ?_
  refine lg_i dL_law_888 ?_
  refine lg_iconst (v := (1 : Int32)) dL_law_889 (by decide) ?_
  refine lg_iadd dL_law_890 ?_
  refine lg_ld i1 dL_law_891 ?_
  refine lg_call (as := [.int (xs (iv + (1 : Int32)).toNatClampNeg)]) (mc1 := 0) (ms1 := 0) s_L_110_X12_trace_12 dL_law_892 e5 rfl (Nat.le_of_ble_eq_true rfl) (by omega) (by omega) (by decide) (t_X12_trace (d := 0) e2) (fun r9 h9 q9 => ?_)
  obtain ⟨rfl, rfl⟩ := q9
  refine lg_pc (pc2 := 895) (st2 := [.int v, .int v]) rfl rfl ?_
  refine lg_icmp_eq (tgt := 982) dL_law_895 (by decide) (fun _ => ?_) (fun c => absurd rfl c)
  exact kk h2 e3
set_option maxHeartbeats 1600000 in
theorem lwk_as {Inv : Nat → gH → Prop} (hs : LS_as Inv) {b L kc kn j : Nat} (hj : j < 64) {xs : Nat → Int32} {iv : Int32} {h : gH} (i1 : vp_in (iv + 1) L) (i2 : vp_in (iv + 2) L) (i3 : vp_in (iv + 3) L) (i4 : vp_in (iv + 4) L) (hc : kc + 10 ≤ 600000) (hn : kn + 10 ≤ 7302250) (hI : Inv j h) (kk : ∀ h2, Inv (j + 1) h2 → LG b L xs (kc + 0) (kn + 0) 982 iv [] h2) : LG b L xs kc kn 900 iv [] h := by
  refine lg_x dL_law_900 ?_
  refine lg_s dL_law_901 ?_
  refine lg_i dL_law_902 ?_
  refine lg_iconst (v := (1 : Int32)) dL_law_903 (by decide) ?_
  refine lg_iadd dL_law_904 ?_
  refine lg_ld i1 dL_law_905 ?_
  refine lg_s dL_law_906 ?_
  refine lg_i dL_law_907 ?_
  refine lg_iconst (v := (2 : Int32)) dL_law_908 (by decide) ?_
  refine lg_iadd dL_law_909 ?_
  refine lg_ld i2 dL_law_910 ?_
  obtain ⟨v, h1, h2, e1, e2, e3, ⟨f1, e4⟩, ⟨f2, e5⟩⟩ := hs j h hj hI (xs (iv + (1 : Int32)).toNatClampNeg) (xs (iv + (2 : Int32)).toNatClampNeg)
  refine lg_call (as := [.int (xs (iv + (1 : Int32)).toNatClampNeg), .int (xs (iv + (2 : Int32)).toNatClampNeg)]) (mc1 := 0) (ms1 := 0) s_L_111_X11_as_11 dL_law_911 e4 rfl (Nat.le_of_ble_eq_true rfl) (by omega) (by omega) (by decide) (t_X11_as (d := 0) e1) (fun r9 h9 q9 => ?_)
  obtain ⟨rfl, rfl⟩ := q9
  refine lg_pc (pc2 := 914) (st2 := [.int v]) rfl rfl ?_
  refine lg_m dL_law_914 ?_
  refine lg_s dL_law_915 ?_
  refine lg_i dL_law_916 ?_
  refine lg_iconst (v := (1 : Int32)) dL_law_917 (by decide) ?_
  refine lg_iadd dL_law_918 ?_
  refine lg_ld i1 dL_law_919 ?_
  refine lg_s dL_law_920 ?_
  refine lg_i dL_law_921 ?_
  refine lg_iconst (v := (2 : Int32)) dL_law_922 (by decide) ?_
  refine lg_iadd dL_law_923 ?_
  refine lg_ld i2 dL_law_924 ?_
  refine lg_call (as := [.int (xs (iv + (1 : Int32)).toNatClampNeg), .int (xs (iv + (2 : Int32)).toNatClampNeg)]) (mc1 := 0) (ms1 := 0) s_L_114_X12_as_12 dL_law_925 e5 rfl (Nat.le_of_ble_eq_true rfl) (by omega) (by omega) (by decide) (t_X12_as (d := 0) e2) (fun r9 h9 q9 => ?_)
  obtain ⟨rfl, rfl⟩ := q9
  refine lg_pc (pc2 := 928) (st2 := [.int v, .int v]) rfl rfl ?_
  refine lg_icmp_eq (tgt := 982) dL_law_928 (by decide) (fun _ => ?_) (fun c => absurd rfl c)
  exact kk h2 e3
set_option maxHeartbeats 1600000 in
theorem lwk_image {Inv : Nat → gH → Prop} (hs : LS_image Inv) {b L kc kn j : Nat} (hj : j < 64) {xs : Nat → Int32} {iv : Int32} {h : gH} (i1 : vp_in (iv + 1) L) (i2 : vp_in (iv + 2) L) (i3 : vp_in (iv + 3) L) (i4 : vp_in (iv + 4) L) (hc : kc + 10 ≤ 600000) (hn : kn + 10 ≤ 7302250) (hI : Inv j h) (kk : ∀ h2, Inv (j + 1) h2 → LG b L xs (kc + 0) (kn + 0) 982 iv [] h2) : LG b L xs kc kn 933 iv [] h := by
  refine lg_x dL_law_933 ?_
  obtain ⟨v, h1, h2, e1, e2, e3, ⟨f1, e4⟩, ⟨f2, e5⟩⟩ := hs j h hj hI ()
  refine lg_call (as := []) (mc1 := 0) (ms1 := 0) s_L_115_X11_image_11 dL_law_934 e4 rfl (Nat.le_of_ble_eq_true rfl) (by omega) (by omega) (by decide) (t_X11_image (d := 0) e1) (fun r9 h9 q9 => ?_)
  obtain ⟨rfl, rfl⟩ := q9
  refine lg_pc (pc2 := 937) (st2 := [.int v]) rfl rfl ?_
  refine lg_m dL_law_937 ?_
  refine lg_call (as := []) (mc1 := 0) (ms1 := 0) s_L_118_X12_image_12 dL_law_938 e5 rfl (Nat.le_of_ble_eq_true rfl) (by omega) (by omega) (by decide) (t_X12_image (d := 0) e2) (fun r9 h9 q9 => ?_)
  obtain ⟨rfl, rfl⟩ := q9
  refine lg_pc (pc2 := 941) (st2 := [.int v, .int v]) rfl rfl ?_
  refine lg_icmp_eq (tgt := 982) dL_law_941 (by decide) (fun _ => ?_) (fun c => absurd rfl c)
  exact kk h2 e3
set_option maxHeartbeats 1600000 in
theorem lwk_undo {Inv : Nat → gH → Prop} (hs : LS_undo Inv) {b L kc kn j : Nat} (hj : j < 64) {xs : Nat → Int32} {iv : Int32} {h : gH} (i1 : vp_in (iv + 1) L) (i2 : vp_in (iv + 2) L) (i3 : vp_in (iv + 3) L) (i4 : vp_in (iv + 4) L) (hc : kc + 10 ≤ 600000) (hn : kn + 10 ≤ 7302250) (hI : Inv j h) (kk : ∀ h2, Inv (j + 1) h2 → LG b L xs (kc + 0) (kn + 0) 982 iv [] h2) : LG b L xs kc kn 946 iv [] h := by
  refine lg_x dL_law_946 ?_
  obtain ⟨v, h1, h2, e1, e2, e3, ⟨f1, e4⟩, ⟨f2, e5⟩⟩ := hs j h hj hI ()
  refine lg_call (as := []) (mc1 := 0) (ms1 := 0) s_L_119_X11_undo_11 dL_law_947 e4 rfl (Nat.le_of_ble_eq_true rfl) (by omega) (by omega) (by decide) (t_X11_undo (d := 0) e1) (fun r9 h9 q9 => ?_)
  obtain ⟨rfl, rfl⟩ := q9
  refine lg_pc (pc2 := 950) (st2 := [.int v]) rfl rfl ?_
  refine lg_m dL_law_950 ?_
  refine lg_call (as := []) (mc1 := 0) (ms1 := 0) s_L_122_X12_undo_12 dL_law_951 e5 rfl (Nat.le_of_ble_eq_true rfl) (by omega) (by omega) (by decide) (t_X12_undo (d := 0) e2) (fun r9 h9 q9 => ?_)
  obtain ⟨rfl, rfl⟩ := q9
  refine lg_pc (pc2 := 954) (st2 := [.int v, .int v]) rfl rfl ?_
  refine lg_icmp_eq (tgt := 982) dL_law_954 (by decide) (fun _ => ?_) (fun c => absurd rfl c)
  exact kk h2 e3
set_option maxHeartbeats 1600000 in
theorem lwk_count {Inv : Nat → gH → Prop} (hs : LS_count Inv) {b L kc kn j : Nat} (hj : j < 64) {xs : Nat → Int32} {iv : Int32} {h : gH} (i1 : vp_in (iv + 1) L) (i2 : vp_in (iv + 2) L) (i3 : vp_in (iv + 3) L) (i4 : vp_in (iv + 4) L) (hc : kc + 10 ≤ 600000) (hn : kn + 10 ≤ 7302250) (hI : Inv j h) (kk : ∀ h2, Inv (j + 1) h2 → LG b L xs (kc + 0) (kn + 0) 982 iv [] h2) : LG b L xs kc kn 959 iv [] h := by
  refine lg_x dL_law_959 ?_
  refine lg_s dL_law_960 ?_
  refine lg_i dL_law_961 ?_
  refine lg_iconst (v := (1 : Int32)) dL_law_962 (by decide) ?_
  refine lg_iadd dL_law_963 ?_
  refine lg_ld i1 dL_law_964 ?_
  obtain ⟨v, h1, h2, e1, e2, e3, ⟨f1, e4⟩, ⟨f2, e5⟩⟩ := hs j h hj hI (xs (iv + (1 : Int32)).toNatClampNeg)
  refine lg_call (as := [.int (xs (iv + (1 : Int32)).toNatClampNeg)]) (mc1 := 0) (ms1 := 0) s_L_123_X11_count_11 dL_law_965 e4 rfl (Nat.le_of_ble_eq_true rfl) (by omega) (by omega) (by decide) (t_X11_count (d := 0) e1) (fun r9 h9 q9 => ?_)
  obtain ⟨rfl, rfl⟩ := q9
  refine lg_pc (pc2 := 968) (st2 := [.int v]) rfl rfl ?_
  refine lg_m dL_law_968 ?_
  refine lg_s dL_law_969 ?_
  refine lg_i dL_law_970 ?_
  refine lg_iconst (v := (1 : Int32)) dL_law_971 (by decide) ?_
  refine lg_iadd dL_law_972 ?_
  refine lg_ld i1 dL_law_973 ?_
  refine lg_call (as := [.int (xs (iv + (1 : Int32)).toNatClampNeg)]) (mc1 := 0) (ms1 := 0) s_L_126_X12_count_12 dL_law_974 e5 rfl (Nat.le_of_ble_eq_true rfl) (by omega) (by omega) (by decide) (t_X12_count (d := 0) e2) (fun r9 h9 q9 => ?_)
  obtain ⟨rfl, rfl⟩ := q9
  refine lg_pc (pc2 := 977) (st2 := [.int v, .int v]) rfl rfl ?_
  refine lg_icmp_eq (tgt := 982) dL_law_977 (by decide) (fun _ => ?_) (fun c => absurd rfl c)
  exact kk h2 e3
set_option maxHeartbeats 4000000 in
theorem law_loop {Inv : Nat → gH → Prop} (mono : ∀ j h, j < 64 → Inv j h → Inv (j + 1) h) (s_feed : LS_feed Inv) (s_road : LS_road Inv) (s_of : LS_of Inv) (s_told : LS_told Inv) (s_rides : LS_rides Inv) (s_way : LS_way Inv) (s_line : LS_line Inv) (s_takes : LS_takes Inv) (s_ride : LS_ride Inv) (s_soonest : LS_soonest Inv) (s_price : LS_price Inv) (s_loses : LS_loses Inv) (s_row : LS_row Inv) (s_judged : LS_judged Inv) (s_mean : LS_mean Inv) (s_sure : LS_sure Inv) (s_gears : LS_gears Inv) (s_by : LS_by Inv) (s_wheel : LS_wheel Inv) (s_laps : LS_laps Inv) (s_act : LS_act Inv) (s_trace : LS_trace Inv) (s_as : LS_as Inv) (s_image : LS_image Inv) (s_undo : LS_undo Inv) (s_count : LS_count Inv) {b L : Nat} {xs : Nat → Int32} (hL : L ≤ 320) : ∀ (r j : Nat) (h : gH), 65 ≤ r + j → j ≤ 64 → Inv j h → LG b L xs (100 + j) (20000 + 2 * j) 18 (nI (5 * j)) [] h := by
  intro r
  induction r with
  | zero => intro j h hr hj hI; omega
  | succ r ih =>
    intro j h hr hj hI
    refine lg_i dL_law_18 ?_
    refine lg_s dL_law_19 ?_
    refine lg_len dL_law_20 ?_
    refine lg_iconst (v := (5 : Int32)) dL_law_21 (by decide) ?_
    refine lg_isub dL_law_22 ?_
    refine lg_icmp_gt (tgt := 988) dL_law_23 (by decide) (fun c => ?_) (fun c => ?_)
    · refine lg_iconst (v := (1 : Int32)) dL_law_988 (by decide) ?_
      exact lg_end (by omega) (by omega) dL_law_989
    · have hL5 : 5 * j + 5 ≤ L := lw_fit hL (by omega) c
      have i0 : vp_in (nI (5 * j)) L := vp_in_nI (by omega) (by omega)
      have i1 : vp_in (nI (5 * j) + 1) L := by
        have e : nI (5 * j) + 1 = nI (5 * j + 1) := nI_add _ _
        rw [e]
        exact vp_in_nI (by omega) (by omega)
      have i2 : vp_in (nI (5 * j) + 2) L := by
        have e : nI (5 * j) + 2 = nI (5 * j + 2) := nI_add _ _
        rw [e]
        exact vp_in_nI (by omega) (by omega)
      have i3 : vp_in (nI (5 * j) + 3) L := by
        have e : nI (5 * j) + 3 = nI (5 * j + 3) := nI_add _ _
        rw [e]
        exact vp_in_nI (by omega) (by omega)
      have i4 : vp_in (nI (5 * j) + 4) L := by
        have e : nI (5 * j) + 4 = nI (5 * j + 4) := nI_add _ _
        rw [e]
        exact vp_in_nI (by omega) (by omega)
      have go : ∀ (k2 n2 : Nat) (h2 : gH), k2 ≤ 101 + j → n2 ≤ 20002 + 2 * j → Inv (j + 1) h2 → LG b L xs k2 n2 982 (nI (5 * j)) [] h2 := by
        intro k2 n2 h2 q1 q2 q3
        refine lg_inc (iv2 := nI (5 * (j + 1))) ?_ dL_law_982 ?_
        · show nI (5 * j) + nI 5 = nI (5 * (j + 1))
          rw [nI_add]
          congr 1
        · refine lg_goto (tgt := 18) dL_law_985 (by decide) ?_
          refine lg_wid (kc2 := 100 + (j + 1)) (kn2 := 20000 + 2 * (j + 1)) (by omega) (by omega) ?_
          exact ih (j + 1) h2 (by omega) (by omega) q3
      refine lg_s dL_law_26 ?_
      refine lg_i dL_law_27 ?_
      refine lg_ld i0 dL_law_28 ?_
      refine lg_bipush (v := (31 : Int32)) dL_law_29 (by decide) ?_
      refine lg_iand dL_law_31 ?_
      generalize xs (nI (5 * j)).toNatClampNeg &&& (31 : Int32) = y
      by_cases c0 : y = 0
      · refine lg_tswK (k := (0 : Int32)) (off := 120) (tgt := 152) dL_law_32 c0 (by decide) (by decide) (by decide) (by decide) ?_
        exact lwk_feed s_feed (by omega) i1 i2 i3 i4 (by omega) (by omega) hI (fun h2 q => go _ _ h2 (by omega) (by omega) q)
      by_cases c1 : y = 1
      · refine lg_tswK (k := (1 : Int32)) (off := 183) (tgt := 215) dL_law_32 c1 (by decide) (by decide) (by decide) (by decide) ?_
        exact lwk_road s_road (by omega) i1 i2 i3 i4 (by omega) (by omega) hI (fun h2 q => go _ _ h2 (by omega) (by omega) q)
      by_cases c2 : y = 2
      · refine lg_tswK (k := (2 : Int32)) (off := 196) (tgt := 228) dL_law_32 c2 (by decide) (by decide) (by decide) (by decide) ?_
        exact lwk_of s_of (by omega) i1 i2 i3 i4 (by omega) (by omega) hI (fun h2 q => go _ _ h2 (by omega) (by omega) q)
      by_cases c3 : y = 3
      · refine lg_tswK (k := (3 : Int32)) (off := 229) (tgt := 261) dL_law_32 c3 (by decide) (by decide) (by decide) (by decide) ?_
        exact lwk_told s_told (by omega) i1 i2 i3 i4 (by omega) (by omega) hI (fun h2 q => go _ _ h2 (by omega) (by omega) q)
      by_cases c4 : y = 4
      · refine lg_tswK (k := (4 : Int32)) (off := 252) (tgt := 284) dL_law_32 c4 (by decide) (by decide) (by decide) (by decide) ?_
        exact lwk_rides s_rides (by omega) i1 i2 i3 i4 (by omega) (by omega) hI (fun h2 q => go _ _ h2 (by omega) (by omega) q)
      by_cases c5 : y = 5
      · refine lg_tswK (k := (5 : Int32)) (off := 305) (tgt := 337) dL_law_32 c5 (by decide) (by decide) (by decide) (by decide) ?_
        exact lwk_way s_way (by omega) i1 i2 i3 i4 (by omega) (by omega) hI (fun h2 q => go _ _ h2 (by omega) (by omega) q)
      by_cases c6 : y = 6
      · refine lg_tswK (k := (6 : Int32)) (off := 338) (tgt := 370) dL_law_32 c6 (by decide) (by decide) (by decide) (by decide) ?_
        exact lwk_line s_line (by omega) i1 i2 i3 i4 (by omega) (by omega) hI (fun h2 q => go _ _ h2 (by omega) (by omega) q)
      by_cases c7 : y = 7
      · refine lg_tswK (k := (7 : Int32)) (off := 381) (tgt := 413) dL_law_32 c7 (by decide) (by decide) (by decide) (by decide) ?_
        exact lwk_takes s_takes (by omega) i1 i2 i3 i4 (by omega) (by omega) hI (fun h2 q => go _ _ h2 (by omega) (by omega) q)
      by_cases c8 : y = 8
      · refine lg_tswK (k := (8 : Int32)) (off := 424) (tgt := 456) dL_law_32 c8 (by decide) (by decide) (by decide) (by decide) ?_
        exact lwk_ride s_ride (by omega) i1 i2 i3 i4 (by omega) (by omega) hI (fun h2 q => go _ _ h2 (by omega) (by omega) q)
      by_cases c9 : y = 9
      · refine lg_tswK (k := (9 : Int32)) (off := 457) (tgt := 489) dL_law_32 c9 (by decide) (by decide) (by decide) (by decide) ?_
        exact lwk_soonest s_soonest (by omega) i1 i2 i3 i4 (by omega) (by omega) hI (fun h2 q => go _ _ h2 (by omega) (by omega) q)
      by_cases c10 : y = 10
      · refine lg_tswK (k := (10 : Int32)) (off := 500) (tgt := 532) dL_law_32 c10 (by decide) (by decide) (by decide) (by decide) ?_
        exact lwk_price s_price (by omega) i1 i2 i3 i4 (by omega) (by omega) hI (fun h2 q => go _ _ h2 (by omega) (by omega) q)
      by_cases c11 : y = 11
      · refine lg_tswK (k := (11 : Int32)) (off := 533) (tgt := 565) dL_law_32 c11 (by decide) (by decide) (by decide) (by decide) ?_
        exact lwk_loses s_loses (by omega) i1 i2 i3 i4 (by omega) (by omega) hI (fun h2 q => go _ _ h2 (by omega) (by omega) q)
      by_cases c12 : y = 12
      · refine lg_tswK (k := (12 : Int32)) (off := 556) (tgt := 588) dL_law_32 c12 (by decide) (by decide) (by decide) (by decide) ?_
        exact lwk_row s_row (by omega) i1 i2 i3 i4 (by omega) (by omega) hI (fun h2 q => go _ _ h2 (by omega) (by omega) q)
      by_cases c13 : y = 13
      · refine lg_tswK (k := (13 : Int32)) (off := 579) (tgt := 611) dL_law_32 c13 (by decide) (by decide) (by decide) (by decide) ?_
        exact lwk_judged s_judged (by omega) i1 i2 i3 i4 (by omega) (by omega) hI (fun h2 q => go _ _ h2 (by omega) (by omega) q)
      by_cases c14 : y = 14
      · refine lg_tswK (k := (14 : Int32)) (off := 602) (tgt := 634) dL_law_32 c14 (by decide) (by decide) (by decide) (by decide) ?_
        exact lwk_mean s_mean (by omega) i1 i2 i3 i4 (by omega) (by omega) hI (fun h2 q => go _ _ h2 (by omega) (by omega) q)
      by_cases c15 : y = 15
      · refine lg_tswK (k := (15 : Int32)) (off := 636) (tgt := 668) dL_law_32 c15 (by decide) (by decide) (by decide) (by decide) ?_
        exact lwk_sure s_sure (by omega) i1 i2 i3 i4 (by omega) (by omega) hI (fun h2 q => go _ _ h2 (by omega) (by omega) q)
      by_cases c16 : y = 16
      · refine lg_tswK (k := (16 : Int32)) (off := 680) (tgt := 712) dL_law_32 c16 (by decide) (by decide) (by decide) (by decide) ?_
        exact lwk_gears s_gears (by omega) i1 i2 i3 i4 (by omega) (by omega) hI (fun h2 q => go _ _ h2 (by omega) (by omega) q)
      by_cases c17 : y = 17
      · refine lg_tswK (k := (17 : Int32)) (off := 713) (tgt := 745) dL_law_32 c17 (by decide) (by decide) (by decide) (by decide) ?_
        exact lwk_by s_by (by omega) i1 i2 i3 i4 (by omega) (by omega) hI (fun h2 q => go _ _ h2 (by omega) (by omega) q)
      by_cases c18 : y = 18
      · refine lg_tswK (k := (18 : Int32)) (off := 736) (tgt := 768) dL_law_32 c18 (by decide) (by decide) (by decide) (by decide) ?_
        exact lwk_wheel s_wheel (by omega) i1 i2 i3 i4 (by omega) (by omega) hI (fun h2 q => go _ _ h2 (by omega) (by omega) q)
      by_cases c19 : y = 19
      · refine lg_tswK (k := (19 : Int32)) (off := 779) (tgt := 811) dL_law_32 c19 (by decide) (by decide) (by decide) (by decide) ?_
        exact lwk_laps s_laps (by omega) i1 i2 i3 i4 (by omega) (by omega) hI (fun h2 q => go _ _ h2 (by omega) (by omega) q)
      by_cases c20 : y = 20
      · refine lg_tswK (k := (20 : Int32)) (off := 802) (tgt := 834) dL_law_32 c20 (by decide) (by decide) (by decide) (by decide) ?_
        exact lwk_act s_act (by omega) i1 i2 i3 i4 (by omega) (by omega) hI (fun h2 q => go _ _ h2 (by omega) (by omega) q)
      by_cases c21 : y = 21
      · refine lg_tswK (k := (21 : Int32)) (off := 845) (tgt := 877) dL_law_32 c21 (by decide) (by decide) (by decide) (by decide) ?_
        exact lwk_trace s_trace (by omega) i1 i2 i3 i4 (by omega) (by omega) hI (fun h2 q => go _ _ h2 (by omega) (by omega) q)
      by_cases c22 : y = 22
      · refine lg_tswK (k := (22 : Int32)) (off := 868) (tgt := 900) dL_law_32 c22 (by decide) (by decide) (by decide) (by decide) ?_
        exact lwk_as s_as (by omega) i1 i2 i3 i4 (by omega) (by omega) hI (fun h2 q => go _ _ h2 (by omega) (by omega) q)
      by_cases c23 : y = 23
      · refine lg_tswK (k := (23 : Int32)) (off := 901) (tgt := 933) dL_law_32 c23 (by decide) (by decide) (by decide) (by decide) ?_
        exact lwk_image s_image (by omega) i1 i2 i3 i4 (by omega) (by omega) hI (fun h2 q => go _ _ h2 (by omega) (by omega) q)
      by_cases c24 : y = 24
      · refine lg_tswK (k := (24 : Int32)) (off := 914) (tgt := 946) dL_law_32 c24 (by decide) (by decide) (by decide) (by decide) ?_
        exact lwk_undo s_undo (by omega) i1 i2 i3 i4 (by omega) (by omega) hI (fun h2 q => go _ _ h2 (by omega) (by omega) q)
      by_cases c25 : y = 25
      · refine lg_tswK (k := (25 : Int32)) (off := 927) (tgt := 959) dL_law_32 c25 (by decide) (by decide) (by decide) (by decide) ?_
        exact lwk_count s_count (by omega) i1 i2 i3 i4 (by omega) (by omega) hI (fun h2 q => go _ _ h2 (by omega) (by omega) q)
      have z0 : y.toInt ≠ 0 := fun e => c0 (Int32.toInt_inj.mp (e.trans (by decide)))
      have z1 : y.toInt ≠ 1 := fun e => c1 (Int32.toInt_inj.mp (e.trans (by decide)))
      have z2 : y.toInt ≠ 2 := fun e => c2 (Int32.toInt_inj.mp (e.trans (by decide)))
      have z3 : y.toInt ≠ 3 := fun e => c3 (Int32.toInt_inj.mp (e.trans (by decide)))
      have z4 : y.toInt ≠ 4 := fun e => c4 (Int32.toInt_inj.mp (e.trans (by decide)))
      have z5 : y.toInt ≠ 5 := fun e => c5 (Int32.toInt_inj.mp (e.trans (by decide)))
      have z6 : y.toInt ≠ 6 := fun e => c6 (Int32.toInt_inj.mp (e.trans (by decide)))
      have z7 : y.toInt ≠ 7 := fun e => c7 (Int32.toInt_inj.mp (e.trans (by decide)))
      have z8 : y.toInt ≠ 8 := fun e => c8 (Int32.toInt_inj.mp (e.trans (by decide)))
      have z9 : y.toInt ≠ 9 := fun e => c9 (Int32.toInt_inj.mp (e.trans (by decide)))
      have z10 : y.toInt ≠ 10 := fun e => c10 (Int32.toInt_inj.mp (e.trans (by decide)))
      have z11 : y.toInt ≠ 11 := fun e => c11 (Int32.toInt_inj.mp (e.trans (by decide)))
      have z12 : y.toInt ≠ 12 := fun e => c12 (Int32.toInt_inj.mp (e.trans (by decide)))
      have z13 : y.toInt ≠ 13 := fun e => c13 (Int32.toInt_inj.mp (e.trans (by decide)))
      have z14 : y.toInt ≠ 14 := fun e => c14 (Int32.toInt_inj.mp (e.trans (by decide)))
      have z15 : y.toInt ≠ 15 := fun e => c15 (Int32.toInt_inj.mp (e.trans (by decide)))
      have z16 : y.toInt ≠ 16 := fun e => c16 (Int32.toInt_inj.mp (e.trans (by decide)))
      have z17 : y.toInt ≠ 17 := fun e => c17 (Int32.toInt_inj.mp (e.trans (by decide)))
      have z18 : y.toInt ≠ 18 := fun e => c18 (Int32.toInt_inj.mp (e.trans (by decide)))
      have z19 : y.toInt ≠ 19 := fun e => c19 (Int32.toInt_inj.mp (e.trans (by decide)))
      have z20 : y.toInt ≠ 20 := fun e => c20 (Int32.toInt_inj.mp (e.trans (by decide)))
      have z21 : y.toInt ≠ 21 := fun e => c21 (Int32.toInt_inj.mp (e.trans (by decide)))
      have z22 : y.toInt ≠ 22 := fun e => c22 (Int32.toInt_inj.mp (e.trans (by decide)))
      have z23 : y.toInt ≠ 23 := fun e => c23 (Int32.toInt_inj.mp (e.trans (by decide)))
      have z24 : y.toInt ≠ 24 := fun e => c24 (Int32.toInt_inj.mp (e.trans (by decide)))
      have z25 : y.toInt ≠ 25 := fun e => c25 (Int32.toInt_inj.mp (e.trans (by decide)))
      refine lg_tableOut (tgt := 982) dL_law_32 (by omega) (by decide) ?_
      exact go _ _ h (by omega) (by omega) (mono j h (by omega) hI)
