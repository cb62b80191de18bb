abbrev b_L_law : ByteArray := code
theorem wq_L_75 : Cond.constantLong R_L 75 4294967295 ∈ bw := bw_t (i := 795) (by decide +kernel) (by decide +kernel)
theorem d_L_law_0 : decode b_L_law 0 = .ok (.new 8, 3) := by decide +kernel
theorem d_L_law_3 : decode b_L_law 3 = .ok (.dup, 1) := by decide +kernel
theorem d_L_law_4 : decode b_L_law 4 = .ok (.aload_n 0, 1) := by decide +kernel
theorem d_L_law_5 : decode b_L_law 5 = .ok (.iconst 0, 1) := by decide +kernel
theorem d_L_law_6 : decode b_L_law 6 = .ok (.invokestatic 63, 3) := by decide +kernel
theorem d_L_law_9 : decode b_L_law 9 = .ok (.aload_n 0, 1) := by decide +kernel
theorem d_L_law_10 : decode b_L_law 10 = .ok (.iconst 1, 1) := by decide +kernel
theorem d_L_law_11 : decode b_L_law 11 = .ok (.invokestatic 63, 3) := by decide +kernel
theorem d_L_law_14 : decode b_L_law 14 = .ok (.invokespecial 69, 3) := by decide +kernel
theorem d_L_law_17 : decode b_L_law 17 = .ok (.astore_n 1, 1) := by decide +kernel
theorem d_L_law_18 : decode b_L_law 18 = .ok (.new 72, 3) := by decide +kernel
theorem d_L_law_21 : decode b_L_law 21 = .ok (.dup, 1) := by decide +kernel
theorem d_L_law_22 : decode b_L_law 22 = .ok (.aload_n 0, 1) := by decide +kernel
theorem d_L_law_23 : decode b_L_law 23 = .ok (.iconst 0, 1) := by decide +kernel
theorem d_L_law_24 : decode b_L_law 24 = .ok (.invokestatic 63, 3) := by decide +kernel
theorem d_L_law_27 : decode b_L_law 27 = .ok (.aload_n 0, 1) := by decide +kernel
theorem d_L_law_28 : decode b_L_law 28 = .ok (.iconst 1, 1) := by decide +kernel
theorem d_L_law_29 : decode b_L_law 29 = .ok (.invokestatic 63, 3) := by decide +kernel
theorem d_L_law_32 : decode b_L_law 32 = .ok (.invokespecial 74, 3) := by decide +kernel
theorem d_L_law_35 : decode b_L_law 35 = .ok (.astore_n 2, 1) := by decide +kernel
theorem d_L_law_36 : decode b_L_law 36 = .ok (.iconst 1, 1) := by decide +kernel
theorem d_L_law_37 : decode b_L_law 37 = .ok (.newarray .long, 2) := by decide +kernel
theorem d_L_law_39 : decode b_L_law 39 = .ok (.astore_n 3, 1) := by decide +kernel
theorem d_L_law_40 : decode b_L_law 40 = .ok (.iconst 2, 1) := by decide +kernel
theorem d_L_law_41 : decode b_L_law 41 = .ok (.istore 4, 2) := by decide +kernel
theorem d_L_law_43 : decode b_L_law 43 = .ok (.iload 4, 2) := by decide +kernel
theorem d_L_law_45 : decode b_L_law 45 = .ok (.aload_n 0, 1) := by decide +kernel
theorem d_L_law_46 : decode b_L_law 46 = .ok (.arraylength, 1) := by decide +kernel
theorem d_L_law_47 : decode b_L_law 47 = .ok (.iconst 5, 1) := by decide +kernel
theorem d_L_law_48 : decode b_L_law 48 = .ok (.isub, 1) := by decide +kernel
theorem d_L_law_49 : decode b_L_law 49 = .ok (.if_icmp .gt 978, 3) := by decide +kernel
theorem d_L_law_52 : decode b_L_law 52 = .ok (.aload_n 0, 1) := by decide +kernel
theorem d_L_law_53 : decode b_L_law 53 = .ok (.iload 4, 2) := by decide +kernel
theorem d_L_law_55 : decode b_L_law 55 = .ok (.iaload, 1) := by decide +kernel
theorem d_L_law_56 : decode b_L_law 56 = .ok (.bipush 31, 2) := by decide +kernel
theorem d_L_law_58 : decode b_L_law 58 = .ok (.iand, 1) := by decide +kernel
theorem d_L_law_59 : decode b_L_law 59 = .ok (.tableswitch 962 0 17 #[85, 185, 198, 310, 354, 410, 478, 514, 527, 540, 607, 663, 743, 799, 855, 868, 881, 894], 85) := by decide +kernel
theorem d_L_law_144 : decode b_L_law 144 = .ok (.aload_n 1, 1) := by decide +kernel
theorem d_L_law_145 : decode b_L_law 145 = .ok (.aload_n 0, 1) := by decide +kernel
theorem d_L_law_146 : decode b_L_law 146 = .ok (.iload 4, 2) := by decide +kernel
theorem d_L_law_148 : decode b_L_law 148 = .ok (.iconst 1, 1) := by decide +kernel
theorem d_L_law_149 : decode b_L_law 149 = .ok (.iadd, 1) := by decide +kernel
theorem d_L_law_150 : decode b_L_law 150 = .ok (.iaload, 1) := by decide +kernel
theorem d_L_law_151 : decode b_L_law 151 = .ok (.i2l, 1) := by decide +kernel
theorem d_L_law_152 : decode b_L_law 152 = .ok (.bipush 32, 2) := by decide +kernel
theorem d_L_law_154 : decode b_L_law 154 = .ok (.lshl, 1) := by decide +kernel
theorem d_L_law_155 : decode b_L_law 155 = .ok (.aload_n 0, 1) := by decide +kernel
theorem d_L_law_156 : decode b_L_law 156 = .ok (.iload 4, 2) := by decide +kernel
theorem d_L_law_158 : decode b_L_law 158 = .ok (.iconst 2, 1) := by decide +kernel
theorem d_L_law_159 : decode b_L_law 159 = .ok (.iadd, 1) := by decide +kernel
theorem d_L_law_160 : decode b_L_law 160 = .ok (.iaload, 1) := by decide +kernel
theorem d_L_law_161 : decode b_L_law 161 = .ok (.i2l, 1) := by decide +kernel
theorem d_L_law_162 : decode b_L_law 162 = .ok (.ldc2_w 75, 3) := by decide +kernel
theorem d_L_law_165 : decode b_L_law 165 = .ok (.land, 1) := by decide +kernel
theorem d_L_law_166 : decode b_L_law 166 = .ok (.lor, 1) := by decide +kernel
theorem d_L_law_167 : decode b_L_law 167 = .ok (.aload_n 0, 1) := by decide +kernel
theorem d_L_law_168 : decode b_L_law 168 = .ok (.iload 4, 2) := by decide +kernel
theorem d_L_law_170 : decode b_L_law 170 = .ok (.iconst 3, 1) := by decide +kernel
theorem d_L_law_171 : decode b_L_law 171 = .ok (.iadd, 1) := by decide +kernel
theorem d_L_law_172 : decode b_L_law 172 = .ok (.iaload, 1) := by decide +kernel
theorem d_L_law_173 : decode b_L_law 173 = .ok (.aload_n 3, 1) := by decide +kernel
theorem d_L_law_174 : decode b_L_law 174 = .ok (.invokestatic 77, 3) := by decide +kernel
theorem d_L_law_177 : decode b_L_law 177 = .ok (.istore 5, 2) := by decide +kernel
theorem d_L_law_179 : decode b_L_law 179 = .ok (.aload_n 2, 1) := by decide +kernel
theorem d_L_law_180 : decode b_L_law 180 = .ok (.aload_n 0, 1) := by decide +kernel
theorem d_L_law_181 : decode b_L_law 181 = .ok (.iload 4, 2) := by decide +kernel
theorem d_L_law_183 : decode b_L_law 183 = .ok (.iconst 1, 1) := by decide +kernel
theorem d_L_law_184 : decode b_L_law 184 = .ok (.iadd, 1) := by decide +kernel
theorem d_L_law_185 : decode b_L_law 185 = .ok (.iaload, 1) := by decide +kernel
theorem d_L_law_186 : decode b_L_law 186 = .ok (.i2l, 1) := by decide +kernel
theorem d_L_law_187 : decode b_L_law 187 = .ok (.bipush 32, 2) := by decide +kernel
theorem d_L_law_189 : decode b_L_law 189 = .ok (.lshl, 1) := by decide +kernel
theorem d_L_law_190 : decode b_L_law 190 = .ok (.aload_n 0, 1) := by decide +kernel
theorem d_L_law_191 : decode b_L_law 191 = .ok (.iload 4, 2) := by decide +kernel
theorem d_L_law_193 : decode b_L_law 193 = .ok (.iconst 2, 1) := by decide +kernel
theorem d_L_law_194 : decode b_L_law 194 = .ok (.iadd, 1) := by decide +kernel
theorem d_L_law_195 : decode b_L_law 195 = .ok (.iaload, 1) := by decide +kernel
theorem d_L_law_196 : decode b_L_law 196 = .ok (.i2l, 1) := by decide +kernel
theorem d_L_law_197 : decode b_L_law 197 = .ok (.ldc2_w 75, 3) := by decide +kernel
theorem d_L_law_200 : decode b_L_law 200 = .ok (.land, 1) := by decide +kernel
theorem d_L_law_201 : decode b_L_law 201 = .ok (.lor, 1) := by decide +kernel
theorem d_L_law_202 : decode b_L_law 202 = .ok (.aload_n 0, 1) := by decide +kernel
theorem d_L_law_203 : decode b_L_law 203 = .ok (.iload 4, 2) := by decide +kernel
theorem d_L_law_205 : decode b_L_law 205 = .ok (.iconst 3, 1) := by decide +kernel
theorem d_L_law_206 : decode b_L_law 206 = .ok (.iadd, 1) := by decide +kernel
theorem d_L_law_207 : decode b_L_law 207 = .ok (.iaload, 1) := by decide +kernel
theorem d_L_law_208 : decode b_L_law 208 = .ok (.invokevirtual 80, 3) := by decide +kernel
theorem d_L_law_211 : decode b_L_law 211 = .ok (.istore 6, 2) := by decide +kernel
theorem d_L_law_213 : decode b_L_law 213 = .ok (.aload_n 2, 1) := by decide +kernel
theorem d_L_law_214 : decode b_L_law 214 = .ok (.invokevirtual 81, 3) := by decide +kernel
theorem d_L_law_217 : decode b_L_law 217 = .ok (.iload 5, 2) := by decide +kernel
theorem d_L_law_219 : decode b_L_law 219 = .ok (.if_icmp .eq 5, 3) := by decide +kernel
theorem d_L_law_222 : decode b_L_law 222 = .ok (.iconst 0, 1) := by decide +kernel
theorem d_L_law_223 : decode b_L_law 223 = .ok (.ireturn, 1) := by decide +kernel
theorem d_L_law_224 : decode b_L_law 224 = .ok (.iload 5, 2) := by decide +kernel
theorem d_L_law_226 : decode b_L_law 226 = .ok (.ifCond .ne 15, 3) := by decide +kernel
theorem d_L_law_229 : decode b_L_law 229 = .ok (.aload_n 3, 1) := by decide +kernel
theorem d_L_law_230 : decode b_L_law 230 = .ok (.iconst 0, 1) := by decide +kernel
theorem d_L_law_231 : decode b_L_law 231 = .ok (.laload, 1) := by decide +kernel
theorem d_L_law_232 : decode b_L_law 232 = .ok (.iload 6, 2) := by decide +kernel
theorem d_L_law_234 : decode b_L_law 234 = .ok (.i2l, 1) := by decide +kernel
theorem d_L_law_235 : decode b_L_law 235 = .ok (.lcmp, 1) := by decide +kernel
theorem d_L_law_236 : decode b_L_law 236 = .ok (.ifCond .eq 5, 3) := by decide +kernel
theorem d_L_law_239 : decode b_L_law 239 = .ok (.iconst 0, 1) := by decide +kernel
theorem d_L_law_240 : decode b_L_law 240 = .ok (.ireturn, 1) := by decide +kernel
theorem d_L_law_241 : decode b_L_law 241 = .ok (.goto 780, 3) := by decide +kernel
theorem d_L_law_244 : decode b_L_law 244 = .ok (.aload_n 1, 1) := by decide +kernel
theorem d_L_law_245 : decode b_L_law 245 = .ok (.invokevirtual 84, 3) := by decide +kernel
theorem d_L_law_248 : decode b_L_law 248 = .ok (.aload_n 2, 1) := by decide +kernel
theorem d_L_law_249 : decode b_L_law 249 = .ok (.invokevirtual 87, 3) := by decide +kernel
theorem d_L_law_252 : decode b_L_law 252 = .ok (.if_icmp .eq 769, 3) := by decide +kernel
theorem d_L_law_255 : decode b_L_law 255 = .ok (.iconst 0, 1) := by decide +kernel
theorem d_L_law_256 : decode b_L_law 256 = .ok (.ireturn, 1) := by decide +kernel
theorem d_L_law_257 : decode b_L_law 257 = .ok (.aload_n 1, 1) := by decide +kernel
theorem d_L_law_258 : decode b_L_law 258 = .ok (.aload_n 0, 1) := by decide +kernel
theorem d_L_law_259 : decode b_L_law 259 = .ok (.iload 4, 2) := by decide +kernel
theorem d_L_law_261 : decode b_L_law 261 = .ok (.iconst 1, 1) := by decide +kernel
theorem d_L_law_262 : decode b_L_law 262 = .ok (.iadd, 1) := by decide +kernel
theorem d_L_law_263 : decode b_L_law 263 = .ok (.iaload, 1) := by decide +kernel
theorem d_L_law_264 : decode b_L_law 264 = .ok (.aload_n 0, 1) := by decide +kernel
theorem d_L_law_265 : decode b_L_law 265 = .ok (.iload 4, 2) := by decide +kernel
theorem d_L_law_267 : decode b_L_law 267 = .ok (.iconst 2, 1) := by decide +kernel
theorem d_L_law_268 : decode b_L_law 268 = .ok (.iadd, 1) := by decide +kernel
theorem d_L_law_269 : decode b_L_law 269 = .ok (.iaload, 1) := by decide +kernel
theorem d_L_law_270 : decode b_L_law 270 = .ok (.i2l, 1) := by decide +kernel
theorem d_L_law_271 : decode b_L_law 271 = .ok (.bipush 32, 2) := by decide +kernel
theorem d_L_law_273 : decode b_L_law 273 = .ok (.lshl, 1) := by decide +kernel
theorem d_L_law_274 : decode b_L_law 274 = .ok (.aload_n 0, 1) := by decide +kernel
theorem d_L_law_275 : decode b_L_law 275 = .ok (.iload 4, 2) := by decide +kernel
theorem d_L_law_277 : decode b_L_law 277 = .ok (.iconst 3, 1) := by decide +kernel
theorem d_L_law_278 : decode b_L_law 278 = .ok (.iadd, 1) := by decide +kernel
theorem d_L_law_279 : decode b_L_law 279 = .ok (.iaload, 1) := by decide +kernel
theorem d_L_law_280 : decode b_L_law 280 = .ok (.i2l, 1) := by decide +kernel
theorem d_L_law_281 : decode b_L_law 281 = .ok (.ldc2_w 75, 3) := by decide +kernel
theorem d_L_law_284 : decode b_L_law 284 = .ok (.land, 1) := by decide +kernel
theorem d_L_law_285 : decode b_L_law 285 = .ok (.lor, 1) := by decide +kernel
theorem d_L_law_286 : decode b_L_law 286 = .ok (.aload_n 0, 1) := by decide +kernel
theorem d_L_law_287 : decode b_L_law 287 = .ok (.iload 4, 2) := by decide +kernel
theorem d_L_law_289 : decode b_L_law 289 = .ok (.iconst 4, 1) := by decide +kernel
theorem d_L_law_290 : decode b_L_law 290 = .ok (.iadd, 1) := by decide +kernel
theorem d_L_law_291 : decode b_L_law 291 = .ok (.iaload, 1) := by decide +kernel
theorem d_L_law_292 : decode b_L_law 292 = .ok (.aload_n 3, 1) := by decide +kernel
theorem d_L_law_293 : decode b_L_law 293 = .ok (.invokestatic 88, 3) := by decide +kernel
theorem d_L_law_296 : decode b_L_law 296 = .ok (.istore 5, 2) := by decide +kernel
theorem d_L_law_298 : decode b_L_law 298 = .ok (.aload_n 2, 1) := by decide +kernel
theorem d_L_law_299 : decode b_L_law 299 = .ok (.aload_n 0, 1) := by decide +kernel
theorem d_L_law_300 : decode b_L_law 300 = .ok (.iload 4, 2) := by decide +kernel
theorem d_L_law_302 : decode b_L_law 302 = .ok (.iconst 1, 1) := by decide +kernel
theorem d_L_law_303 : decode b_L_law 303 = .ok (.iadd, 1) := by decide +kernel
theorem d_L_law_304 : decode b_L_law 304 = .ok (.iaload, 1) := by decide +kernel
theorem d_L_law_305 : decode b_L_law 305 = .ok (.aload_n 0, 1) := by decide +kernel
theorem d_L_law_306 : decode b_L_law 306 = .ok (.iload 4, 2) := by decide +kernel
theorem d_L_law_308 : decode b_L_law 308 = .ok (.iconst 2, 1) := by decide +kernel
theorem d_L_law_309 : decode b_L_law 309 = .ok (.iadd, 1) := by decide +kernel
theorem d_L_law_310 : decode b_L_law 310 = .ok (.iaload, 1) := by decide +kernel
theorem d_L_law_311 : decode b_L_law 311 = .ok (.i2l, 1) := by decide +kernel
theorem d_L_law_312 : decode b_L_law 312 = .ok (.bipush 32, 2) := by decide +kernel
theorem d_L_law_314 : decode b_L_law 314 = .ok (.lshl, 1) := by decide +kernel
theorem d_L_law_315 : decode b_L_law 315 = .ok (.aload_n 0, 1) := by decide +kernel
theorem d_L_law_316 : decode b_L_law 316 = .ok (.iload 4, 2) := by decide +kernel
theorem d_L_law_318 : decode b_L_law 318 = .ok (.iconst 3, 1) := by decide +kernel
theorem d_L_law_319 : decode b_L_law 319 = .ok (.iadd, 1) := by decide +kernel
theorem d_L_law_320 : decode b_L_law 320 = .ok (.iaload, 1) := by decide +kernel
theorem d_L_law_321 : decode b_L_law 321 = .ok (.i2l, 1) := by decide +kernel
theorem d_L_law_322 : decode b_L_law 322 = .ok (.ldc2_w 75, 3) := by decide +kernel
theorem d_L_law_325 : decode b_L_law 325 = .ok (.land, 1) := by decide +kernel
theorem d_L_law_326 : decode b_L_law 326 = .ok (.lor, 1) := by decide +kernel
theorem d_L_law_327 : decode b_L_law 327 = .ok (.aload_n 0, 1) := by decide +kernel
theorem d_L_law_328 : decode b_L_law 328 = .ok (.iload 4, 2) := by decide +kernel
theorem d_L_law_330 : decode b_L_law 330 = .ok (.iconst 4, 1) := by decide +kernel
theorem d_L_law_331 : decode b_L_law 331 = .ok (.iadd, 1) := by decide +kernel
theorem d_L_law_332 : decode b_L_law 332 = .ok (.iaload, 1) := by decide +kernel
theorem d_L_law_333 : decode b_L_law 333 = .ok (.invokevirtual 91, 3) := by decide +kernel
theorem d_L_law_336 : decode b_L_law 336 = .ok (.istore 6, 2) := by decide +kernel
theorem d_L_law_338 : decode b_L_law 338 = .ok (.aload_n 2, 1) := by decide +kernel
theorem d_L_law_339 : decode b_L_law 339 = .ok (.invokevirtual 81, 3) := by decide +kernel
theorem d_L_law_342 : decode b_L_law 342 = .ok (.iload 5, 2) := by decide +kernel
theorem d_L_law_344 : decode b_L_law 344 = .ok (.if_icmp .eq 5, 3) := by decide +kernel
theorem d_L_law_347 : decode b_L_law 347 = .ok (.iconst 0, 1) := by decide +kernel
theorem d_L_law_348 : decode b_L_law 348 = .ok (.ireturn, 1) := by decide +kernel
theorem d_L_law_349 : decode b_L_law 349 = .ok (.iload 5, 2) := by decide +kernel
theorem d_L_law_351 : decode b_L_law 351 = .ok (.ifCond .ne 15, 3) := by decide +kernel
theorem d_L_law_354 : decode b_L_law 354 = .ok (.aload_n 3, 1) := by decide +kernel
theorem d_L_law_355 : decode b_L_law 355 = .ok (.iconst 0, 1) := by decide +kernel
theorem d_L_law_356 : decode b_L_law 356 = .ok (.laload, 1) := by decide +kernel
theorem d_L_law_357 : decode b_L_law 357 = .ok (.iload 6, 2) := by decide +kernel
theorem d_L_law_359 : decode b_L_law 359 = .ok (.i2l, 1) := by decide +kernel
theorem d_L_law_360 : decode b_L_law 360 = .ok (.lcmp, 1) := by decide +kernel
theorem d_L_law_361 : decode b_L_law 361 = .ok (.ifCond .eq 5, 3) := by decide +kernel
theorem d_L_law_364 : decode b_L_law 364 = .ok (.iconst 0, 1) := by decide +kernel
theorem d_L_law_365 : decode b_L_law 365 = .ok (.ireturn, 1) := by decide +kernel
theorem d_L_law_366 : decode b_L_law 366 = .ok (.goto 655, 3) := by decide +kernel
theorem d_L_law_369 : decode b_L_law 369 = .ok (.aload_n 1, 1) := by decide +kernel
theorem d_L_law_370 : decode b_L_law 370 = .ok (.aload_n 3, 1) := by decide +kernel
theorem d_L_law_371 : decode b_L_law 371 = .ok (.invokestatic 92, 3) := by decide +kernel
theorem d_L_law_374 : decode b_L_law 374 = .ok (.istore 5, 2) := by decide +kernel
theorem d_L_law_376 : decode b_L_law 376 = .ok (.aload_n 2, 1) := by decide +kernel
theorem d_L_law_377 : decode b_L_law 377 = .ok (.invokevirtual 95, 3) := by decide +kernel
theorem d_L_law_380 : decode b_L_law 380 = .ok (.istore 6, 2) := by decide +kernel
theorem d_L_law_382 : decode b_L_law 382 = .ok (.aload_n 2, 1) := by decide +kernel
theorem d_L_law_383 : decode b_L_law 383 = .ok (.invokevirtual 81, 3) := by decide +kernel
theorem d_L_law_386 : decode b_L_law 386 = .ok (.iload 5, 2) := by decide +kernel
theorem d_L_law_388 : decode b_L_law 388 = .ok (.if_icmp .eq 5, 3) := by decide +kernel
theorem d_L_law_391 : decode b_L_law 391 = .ok (.iconst 0, 1) := by decide +kernel
theorem d_L_law_392 : decode b_L_law 392 = .ok (.ireturn, 1) := by decide +kernel
theorem d_L_law_393 : decode b_L_law 393 = .ok (.iload 5, 2) := by decide +kernel
theorem d_L_law_395 : decode b_L_law 395 = .ok (.ifCond .ne 15, 3) := by decide +kernel
theorem d_L_law_398 : decode b_L_law 398 = .ok (.aload_n 3, 1) := by decide +kernel
theorem d_L_law_399 : decode b_L_law 399 = .ok (.iconst 0, 1) := by decide +kernel
theorem d_L_law_400 : decode b_L_law 400 = .ok (.laload, 1) := by decide +kernel
theorem d_L_law_401 : decode b_L_law 401 = .ok (.iload 6, 2) := by decide +kernel
theorem d_L_law_403 : decode b_L_law 403 = .ok (.i2l, 1) := by decide +kernel
theorem d_L_law_404 : decode b_L_law 404 = .ok (.lcmp, 1) := by decide +kernel
theorem d_L_law_405 : decode b_L_law 405 = .ok (.ifCond .eq 5, 3) := by decide +kernel
theorem d_L_law_408 : decode b_L_law 408 = .ok (.iconst 0, 1) := by decide +kernel
theorem d_L_law_409 : decode b_L_law 409 = .ok (.ireturn, 1) := by decide +kernel
theorem d_L_law_410 : decode b_L_law 410 = .ok (.goto 611, 3) := by decide +kernel
theorem d_L_law_413 : decode b_L_law 413 = .ok (.aload_n 1, 1) := by decide +kernel
theorem d_L_law_414 : decode b_L_law 414 = .ok (.aload_n 0, 1) := by decide +kernel
theorem d_L_law_415 : decode b_L_law 415 = .ok (.iload 4, 2) := by decide +kernel
theorem d_L_law_417 : decode b_L_law 417 = .ok (.iconst 1, 1) := by decide +kernel
theorem d_L_law_418 : decode b_L_law 418 = .ok (.iadd, 1) := by decide +kernel
theorem d_L_law_419 : decode b_L_law 419 = .ok (.iaload, 1) := by decide +kernel
theorem d_L_law_420 : decode b_L_law 420 = .ok (.aload_n 3, 1) := by decide +kernel
theorem d_L_law_421 : decode b_L_law 421 = .ok (.invokestatic 96, 3) := by decide +kernel
theorem d_L_law_424 : decode b_L_law 424 = .ok (.istore 5, 2) := by decide +kernel
theorem d_L_law_426 : decode b_L_law 426 = .ok (.aload_n 2, 1) := by decide +kernel
theorem d_L_law_427 : decode b_L_law 427 = .ok (.aload_n 0, 1) := by decide +kernel
theorem d_L_law_428 : decode b_L_law 428 = .ok (.iload 4, 2) := by decide +kernel
theorem d_L_law_430 : decode b_L_law 430 = .ok (.iconst 1, 1) := by decide +kernel
theorem d_L_law_431 : decode b_L_law 431 = .ok (.iadd, 1) := by decide +kernel
theorem d_L_law_432 : decode b_L_law 432 = .ok (.iaload, 1) := by decide +kernel
theorem d_L_law_433 : decode b_L_law 433 = .ok (.invokevirtual 99, 3) := by decide +kernel
theorem d_L_law_436 : decode b_L_law 436 = .ok (.istore 6, 2) := by decide +kernel
theorem d_L_law_438 : decode b_L_law 438 = .ok (.aload_n 2, 1) := by decide +kernel
theorem d_L_law_439 : decode b_L_law 439 = .ok (.invokevirtual 81, 3) := by decide +kernel
theorem d_L_law_442 : decode b_L_law 442 = .ok (.iload 5, 2) := by decide +kernel
theorem d_L_law_444 : decode b_L_law 444 = .ok (.if_icmp .eq 5, 3) := by decide +kernel
theorem d_L_law_447 : decode b_L_law 447 = .ok (.iconst 0, 1) := by decide +kernel
theorem d_L_law_448 : decode b_L_law 448 = .ok (.ireturn, 1) := by decide +kernel
theorem d_L_law_449 : decode b_L_law 449 = .ok (.iload 5, 2) := by decide +kernel
theorem d_L_law_451 : decode b_L_law 451 = .ok (.ifCond .ne 15, 3) := by decide +kernel
theorem d_L_law_454 : decode b_L_law 454 = .ok (.aload_n 3, 1) := by decide +kernel
theorem d_L_law_455 : decode b_L_law 455 = .ok (.iconst 0, 1) := by decide +kernel
theorem d_L_law_456 : decode b_L_law 456 = .ok (.laload, 1) := by decide +kernel
theorem d_L_law_457 : decode b_L_law 457 = .ok (.iload 6, 2) := by decide +kernel
theorem d_L_law_459 : decode b_L_law 459 = .ok (.i2l, 1) := by decide +kernel
theorem d_L_law_460 : decode b_L_law 460 = .ok (.lcmp, 1) := by decide +kernel
theorem d_L_law_461 : decode b_L_law 461 = .ok (.ifCond .eq 5, 3) := by decide +kernel
theorem d_L_law_464 : decode b_L_law 464 = .ok (.iconst 0, 1) := by decide +kernel
theorem d_L_law_465 : decode b_L_law 465 = .ok (.ireturn, 1) := by decide +kernel
theorem d_L_law_466 : decode b_L_law 466 = .ok (.goto 555, 3) := by decide +kernel
theorem d_L_law_469 : decode b_L_law 469 = .ok (.aload_n 1, 1) := by decide +kernel
theorem d_L_law_470 : decode b_L_law 470 = .ok (.aload_n 0, 1) := by decide +kernel
theorem d_L_law_471 : decode b_L_law 471 = .ok (.iload 4, 2) := by decide +kernel
theorem d_L_law_473 : decode b_L_law 473 = .ok (.iconst 1, 1) := by decide +kernel
theorem d_L_law_474 : decode b_L_law 474 = .ok (.iadd, 1) := by decide +kernel
theorem d_L_law_475 : decode b_L_law 475 = .ok (.iaload, 1) := by decide +kernel
theorem d_L_law_476 : decode b_L_law 476 = .ok (.aload_n 0, 1) := by decide +kernel
theorem d_L_law_477 : decode b_L_law 477 = .ok (.iload 4, 2) := by decide +kernel
theorem d_L_law_479 : decode b_L_law 479 = .ok (.iconst 2, 1) := by decide +kernel
theorem d_L_law_480 : decode b_L_law 480 = .ok (.iadd, 1) := by decide +kernel
theorem d_L_law_481 : decode b_L_law 481 = .ok (.iaload, 1) := by decide +kernel
theorem d_L_law_482 : decode b_L_law 482 = .ok (.aload_n 3, 1) := by decide +kernel
theorem d_L_law_483 : decode b_L_law 483 = .ok (.invokestatic 100, 3) := by decide +kernel
theorem d_L_law_486 : decode b_L_law 486 = .ok (.istore 5, 2) := by decide +kernel
theorem d_L_law_488 : decode b_L_law 488 = .ok (.aload_n 2, 1) := by decide +kernel
theorem d_L_law_489 : decode b_L_law 489 = .ok (.aload_n 0, 1) := by decide +kernel
theorem d_L_law_490 : decode b_L_law 490 = .ok (.iload 4, 2) := by decide +kernel
theorem d_L_law_492 : decode b_L_law 492 = .ok (.iconst 1, 1) := by decide +kernel
theorem d_L_law_493 : decode b_L_law 493 = .ok (.iadd, 1) := by decide +kernel
theorem d_L_law_494 : decode b_L_law 494 = .ok (.iaload, 1) := by decide +kernel
theorem d_L_law_495 : decode b_L_law 495 = .ok (.aload_n 0, 1) := by decide +kernel
theorem d_L_law_496 : decode b_L_law 496 = .ok (.iload 4, 2) := by decide +kernel
theorem d_L_law_498 : decode b_L_law 498 = .ok (.iconst 2, 1) := by decide +kernel
theorem d_L_law_499 : decode b_L_law 499 = .ok (.iadd, 1) := by decide +kernel
theorem d_L_law_500 : decode b_L_law 500 = .ok (.iaload, 1) := by decide +kernel
theorem d_L_law_501 : decode b_L_law 501 = .ok (.invokevirtual 103, 3) := by decide +kernel
theorem d_L_law_504 : decode b_L_law 504 = .ok (.istore 6, 2) := by decide +kernel
theorem d_L_law_506 : decode b_L_law 506 = .ok (.aload_n 2, 1) := by decide +kernel
theorem d_L_law_507 : decode b_L_law 507 = .ok (.invokevirtual 81, 3) := by decide +kernel
theorem d_L_law_510 : decode b_L_law 510 = .ok (.iload 5, 2) := by decide +kernel
theorem d_L_law_512 : decode b_L_law 512 = .ok (.if_icmp .eq 5, 3) := by decide +kernel
theorem d_L_law_515 : decode b_L_law 515 = .ok (.iconst 0, 1) := by decide +kernel
theorem d_L_law_516 : decode b_L_law 516 = .ok (.ireturn, 1) := by decide +kernel
theorem d_L_law_517 : decode b_L_law 517 = .ok (.iload 5, 2) := by decide +kernel
theorem d_L_law_519 : decode b_L_law 519 = .ok (.ifCond .ne 15, 3) := by decide +kernel
theorem d_L_law_522 : decode b_L_law 522 = .ok (.aload_n 3, 1) := by decide +kernel
theorem d_L_law_523 : decode b_L_law 523 = .ok (.iconst 0, 1) := by decide +kernel
theorem d_L_law_524 : decode b_L_law 524 = .ok (.laload, 1) := by decide +kernel
theorem d_L_law_525 : decode b_L_law 525 = .ok (.iload 6, 2) := by decide +kernel
theorem d_L_law_527 : decode b_L_law 527 = .ok (.i2l, 1) := by decide +kernel
theorem d_L_law_528 : decode b_L_law 528 = .ok (.lcmp, 1) := by decide +kernel
theorem d_L_law_529 : decode b_L_law 529 = .ok (.ifCond .eq 5, 3) := by decide +kernel
theorem d_L_law_532 : decode b_L_law 532 = .ok (.iconst 0, 1) := by decide +kernel
theorem d_L_law_533 : decode b_L_law 533 = .ok (.ireturn, 1) := by decide +kernel
theorem d_L_law_534 : decode b_L_law 534 = .ok (.goto 487, 3) := by decide +kernel
theorem d_L_law_537 : decode b_L_law 537 = .ok (.aload_n 1, 1) := by decide +kernel
theorem d_L_law_538 : decode b_L_law 538 = .ok (.aload_n 0, 1) := by decide +kernel
theorem d_L_law_539 : decode b_L_law 539 = .ok (.iload 4, 2) := by decide +kernel
theorem d_L_law_541 : decode b_L_law 541 = .ok (.iconst 1, 1) := by decide +kernel
theorem d_L_law_542 : decode b_L_law 542 = .ok (.iadd, 1) := by decide +kernel
theorem d_L_law_543 : decode b_L_law 543 = .ok (.iaload, 1) := by decide +kernel
theorem d_L_law_544 : decode b_L_law 544 = .ok (.invokestatic 104, 3) := by decide +kernel
theorem d_L_law_547 : decode b_L_law 547 = .ok (.istore 5, 2) := by decide +kernel
theorem d_L_law_549 : decode b_L_law 549 = .ok (.aload_n 2, 1) := by decide +kernel
theorem d_L_law_550 : decode b_L_law 550 = .ok (.aload_n 0, 1) := by decide +kernel
theorem d_L_law_551 : decode b_L_law 551 = .ok (.iload 4, 2) := by decide +kernel
theorem d_L_law_553 : decode b_L_law 553 = .ok (.iconst 1, 1) := by decide +kernel
theorem d_L_law_554 : decode b_L_law 554 = .ok (.iadd, 1) := by decide +kernel
theorem d_L_law_555 : decode b_L_law 555 = .ok (.iaload, 1) := by decide +kernel
theorem d_L_law_556 : decode b_L_law 556 = .ok (.invokevirtual 107, 3) := by decide +kernel
theorem d_L_law_559 : decode b_L_law 559 = .ok (.aload_n 2, 1) := by decide +kernel
theorem d_L_law_560 : decode b_L_law 560 = .ok (.invokevirtual 81, 3) := by decide +kernel
theorem d_L_law_563 : decode b_L_law 563 = .ok (.iload 5, 2) := by decide +kernel
theorem d_L_law_565 : decode b_L_law 565 = .ok (.if_icmp .eq 5, 3) := by decide +kernel
theorem d_L_law_568 : decode b_L_law 568 = .ok (.iconst 0, 1) := by decide +kernel
theorem d_L_law_569 : decode b_L_law 569 = .ok (.ireturn, 1) := by decide +kernel
theorem d_L_law_570 : decode b_L_law 570 = .ok (.goto 451, 3) := by decide +kernel
theorem d_L_law_573 : decode b_L_law 573 = .ok (.aload_n 1, 1) := by decide +kernel
theorem d_L_law_574 : decode b_L_law 574 = .ok (.invokevirtual 108, 3) := by decide +kernel
theorem d_L_law_577 : decode b_L_law 577 = .ok (.aload_n 2, 1) := by decide +kernel
theorem d_L_law_578 : decode b_L_law 578 = .ok (.invokevirtual 111, 3) := by decide +kernel
theorem d_L_law_581 : decode b_L_law 581 = .ok (.if_icmp .eq 440, 3) := by decide +kernel
theorem d_L_law_584 : decode b_L_law 584 = .ok (.iconst 0, 1) := by decide +kernel
theorem d_L_law_585 : decode b_L_law 585 = .ok (.ireturn, 1) := by decide +kernel
theorem d_L_law_586 : decode b_L_law 586 = .ok (.aload_n 1, 1) := by decide +kernel
theorem d_L_law_587 : decode b_L_law 587 = .ok (.invokevirtual 112, 3) := by decide +kernel
theorem d_L_law_590 : decode b_L_law 590 = .ok (.aload_n 2, 1) := by decide +kernel
theorem d_L_law_591 : decode b_L_law 591 = .ok (.invokevirtual 116, 3) := by decide +kernel
theorem d_L_law_594 : decode b_L_law 594 = .ok (.if_icmp .eq 427, 3) := by decide +kernel
theorem d_L_law_597 : decode b_L_law 597 = .ok (.iconst 0, 1) := by decide +kernel
theorem d_L_law_598 : decode b_L_law 598 = .ok (.ireturn, 1) := by decide +kernel
theorem d_L_law_599 : decode b_L_law 599 = .ok (.aload_n 1, 1) := by decide +kernel
theorem d_L_law_600 : decode b_L_law 600 = .ok (.aload_n 0, 1) := by decide +kernel
theorem d_L_law_601 : decode b_L_law 601 = .ok (.iload 4, 2) := by decide +kernel
theorem d_L_law_603 : decode b_L_law 603 = .ok (.iconst 1, 1) := by decide +kernel
theorem d_L_law_604 : decode b_L_law 604 = .ok (.iadd, 1) := by decide +kernel
theorem d_L_law_605 : decode b_L_law 605 = .ok (.iaload, 1) := by decide +kernel
theorem d_L_law_606 : decode b_L_law 606 = .ok (.aload_n 0, 1) := by decide +kernel
theorem d_L_law_607 : decode b_L_law 607 = .ok (.iload 4, 2) := by decide +kernel
theorem d_L_law_609 : decode b_L_law 609 = .ok (.iconst 2, 1) := by decide +kernel
theorem d_L_law_610 : decode b_L_law 610 = .ok (.iadd, 1) := by decide +kernel
theorem d_L_law_611 : decode b_L_law 611 = .ok (.iaload, 1) := by decide +kernel
theorem d_L_law_612 : decode b_L_law 612 = .ok (.aload_n 3, 1) := by decide +kernel
theorem d_L_law_613 : decode b_L_law 613 = .ok (.invokestatic 117, 3) := by decide +kernel
theorem d_L_law_616 : decode b_L_law 616 = .ok (.istore 5, 2) := by decide +kernel
theorem d_L_law_618 : decode b_L_law 618 = .ok (.aload_n 2, 1) := by decide +kernel
theorem d_L_law_619 : decode b_L_law 619 = .ok (.aload_n 0, 1) := by decide +kernel
theorem d_L_law_620 : decode b_L_law 620 = .ok (.iload 4, 2) := by decide +kernel
theorem d_L_law_622 : decode b_L_law 622 = .ok (.iconst 1, 1) := by decide +kernel
theorem d_L_law_623 : decode b_L_law 623 = .ok (.iadd, 1) := by decide +kernel
theorem d_L_law_624 : decode b_L_law 624 = .ok (.iaload, 1) := by decide +kernel
theorem d_L_law_625 : decode b_L_law 625 = .ok (.aload_n 0, 1) := by decide +kernel
theorem d_L_law_626 : decode b_L_law 626 = .ok (.iload 4, 2) := by decide +kernel
theorem d_L_law_628 : decode b_L_law 628 = .ok (.iconst 2, 1) := by decide +kernel
theorem d_L_law_629 : decode b_L_law 629 = .ok (.iadd, 1) := by decide +kernel
theorem d_L_law_630 : decode b_L_law 630 = .ok (.iaload, 1) := by decide +kernel
theorem d_L_law_631 : decode b_L_law 631 = .ok (.invokevirtual 119, 3) := by decide +kernel
theorem d_L_law_634 : decode b_L_law 634 = .ok (.lstore 6, 2) := by decide +kernel
theorem d_L_law_636 : decode b_L_law 636 = .ok (.aload_n 2, 1) := by decide +kernel
theorem d_L_law_637 : decode b_L_law 637 = .ok (.invokevirtual 81, 3) := by decide +kernel
theorem d_L_law_640 : decode b_L_law 640 = .ok (.iload 5, 2) := by decide +kernel
theorem d_L_law_642 : decode b_L_law 642 = .ok (.if_icmp .eq 5, 3) := by decide +kernel
theorem d_L_law_645 : decode b_L_law 645 = .ok (.iconst 0, 1) := by decide +kernel
theorem d_L_law_646 : decode b_L_law 646 = .ok (.ireturn, 1) := by decide +kernel
theorem d_L_law_647 : decode b_L_law 647 = .ok (.iload 5, 2) := by decide +kernel
theorem d_L_law_649 : decode b_L_law 649 = .ok (.ifCond .ne 14, 3) := by decide +kernel
theorem d_L_law_652 : decode b_L_law 652 = .ok (.aload_n 3, 1) := by decide +kernel
theorem d_L_law_653 : decode b_L_law 653 = .ok (.iconst 0, 1) := by decide +kernel
theorem d_L_law_654 : decode b_L_law 654 = .ok (.laload, 1) := by decide +kernel
theorem d_L_law_655 : decode b_L_law 655 = .ok (.lload 6, 2) := by decide +kernel
theorem d_L_law_657 : decode b_L_law 657 = .ok (.lcmp, 1) := by decide +kernel
theorem d_L_law_658 : decode b_L_law 658 = .ok (.ifCond .eq 5, 3) := by decide +kernel
theorem d_L_law_661 : decode b_L_law 661 = .ok (.iconst 0, 1) := by decide +kernel
theorem d_L_law_662 : decode b_L_law 662 = .ok (.ireturn, 1) := by decide +kernel
theorem d_L_law_663 : decode b_L_law 663 = .ok (.goto 358, 3) := by decide +kernel
theorem d_L_law_666 : decode b_L_law 666 = .ok (.aload_n 1, 1) := by decide +kernel
theorem d_L_law_667 : decode b_L_law 667 = .ok (.aload_n 0, 1) := by decide +kernel
theorem d_L_law_668 : decode b_L_law 668 = .ok (.iload 4, 2) := by decide +kernel
theorem d_L_law_670 : decode b_L_law 670 = .ok (.iconst 1, 1) := by decide +kernel
theorem d_L_law_671 : decode b_L_law 671 = .ok (.iadd, 1) := by decide +kernel
theorem d_L_law_672 : decode b_L_law 672 = .ok (.iaload, 1) := by decide +kernel
theorem d_L_law_673 : decode b_L_law 673 = .ok (.aload_n 3, 1) := by decide +kernel
theorem d_L_law_674 : decode b_L_law 674 = .ok (.invokestatic 120, 3) := by decide +kernel
theorem d_L_law_677 : decode b_L_law 677 = .ok (.istore 5, 2) := by decide +kernel
theorem d_L_law_679 : decode b_L_law 679 = .ok (.aload_n 2, 1) := by decide +kernel
theorem d_L_law_680 : decode b_L_law 680 = .ok (.aload_n 0, 1) := by decide +kernel
theorem d_L_law_681 : decode b_L_law 681 = .ok (.iload 4, 2) := by decide +kernel
theorem d_L_law_683 : decode b_L_law 683 = .ok (.iconst 1, 1) := by decide +kernel
theorem d_L_law_684 : decode b_L_law 684 = .ok (.iadd, 1) := by decide +kernel
theorem d_L_law_685 : decode b_L_law 685 = .ok (.iaload, 1) := by decide +kernel
theorem d_L_law_686 : decode b_L_law 686 = .ok (.invokevirtual 122, 3) := by decide +kernel
theorem d_L_law_689 : decode b_L_law 689 = .ok (.istore 6, 2) := by decide +kernel
theorem d_L_law_691 : decode b_L_law 691 = .ok (.aload_n 2, 1) := by decide +kernel
theorem d_L_law_692 : decode b_L_law 692 = .ok (.invokevirtual 81, 3) := by decide +kernel
theorem d_L_law_695 : decode b_L_law 695 = .ok (.iload 5, 2) := by decide +kernel
theorem d_L_law_697 : decode b_L_law 697 = .ok (.if_icmp .eq 5, 3) := by decide +kernel
theorem d_L_law_700 : decode b_L_law 700 = .ok (.iconst 0, 1) := by decide +kernel
theorem d_L_law_701 : decode b_L_law 701 = .ok (.ireturn, 1) := by decide +kernel
theorem d_L_law_702 : decode b_L_law 702 = .ok (.iload 5, 2) := by decide +kernel
theorem d_L_law_704 : decode b_L_law 704 = .ok (.ifCond .ne 15, 3) := by decide +kernel
theorem d_L_law_707 : decode b_L_law 707 = .ok (.aload_n 3, 1) := by decide +kernel
theorem d_L_law_708 : decode b_L_law 708 = .ok (.iconst 0, 1) := by decide +kernel
theorem d_L_law_709 : decode b_L_law 709 = .ok (.laload, 1) := by decide +kernel
theorem d_L_law_710 : decode b_L_law 710 = .ok (.iload 6, 2) := by decide +kernel
theorem d_L_law_712 : decode b_L_law 712 = .ok (.i2l, 1) := by decide +kernel
theorem d_L_law_713 : decode b_L_law 713 = .ok (.lcmp, 1) := by decide +kernel
theorem d_L_law_714 : decode b_L_law 714 = .ok (.ifCond .eq 5, 3) := by decide +kernel
theorem d_L_law_717 : decode b_L_law 717 = .ok (.iconst 0, 1) := by decide +kernel
theorem d_L_law_718 : decode b_L_law 718 = .ok (.ireturn, 1) := by decide +kernel
theorem d_L_law_719 : decode b_L_law 719 = .ok (.goto 302, 3) := by decide +kernel
theorem d_L_law_722 : decode b_L_law 722 = .ok (.aload_n 1, 1) := by decide +kernel
theorem d_L_law_723 : decode b_L_law 723 = .ok (.aload_n 0, 1) := by decide +kernel
theorem d_L_law_724 : decode b_L_law 724 = .ok (.iload 4, 2) := by decide +kernel
theorem d_L_law_726 : decode b_L_law 726 = .ok (.iconst 1, 1) := by decide +kernel
theorem d_L_law_727 : decode b_L_law 727 = .ok (.iadd, 1) := by decide +kernel
theorem d_L_law_728 : decode b_L_law 728 = .ok (.iaload, 1) := by decide +kernel
theorem d_L_law_729 : decode b_L_law 729 = .ok (.aload_n 0, 1) := by decide +kernel
theorem d_L_law_730 : decode b_L_law 730 = .ok (.iload 4, 2) := by decide +kernel
theorem d_L_law_732 : decode b_L_law 732 = .ok (.iconst 2, 1) := by decide +kernel
theorem d_L_law_733 : decode b_L_law 733 = .ok (.iadd, 1) := by decide +kernel
theorem d_L_law_734 : decode b_L_law 734 = .ok (.iaload, 1) := by decide +kernel
theorem d_L_law_735 : decode b_L_law 735 = .ok (.aload_n 0, 1) := by decide +kernel
theorem d_L_law_736 : decode b_L_law 736 = .ok (.iload 4, 2) := by decide +kernel
theorem d_L_law_738 : decode b_L_law 738 = .ok (.iconst 3, 1) := by decide +kernel
theorem d_L_law_739 : decode b_L_law 739 = .ok (.iadd, 1) := by decide +kernel
theorem d_L_law_740 : decode b_L_law 740 = .ok (.iaload, 1) := by decide +kernel
theorem d_L_law_741 : decode b_L_law 741 = .ok (.aload_n 3, 1) := by decide +kernel
theorem d_L_law_742 : decode b_L_law 742 = .ok (.invokestatic 123, 3) := by decide +kernel
theorem d_L_law_745 : decode b_L_law 745 = .ok (.istore 5, 2) := by decide +kernel
theorem d_L_law_747 : decode b_L_law 747 = .ok (.aload_n 2, 1) := by decide +kernel
theorem d_L_law_748 : decode b_L_law 748 = .ok (.aload_n 0, 1) := by decide +kernel
theorem d_L_law_749 : decode b_L_law 749 = .ok (.iload 4, 2) := by decide +kernel
theorem d_L_law_751 : decode b_L_law 751 = .ok (.iconst 1, 1) := by decide +kernel
theorem d_L_law_752 : decode b_L_law 752 = .ok (.iadd, 1) := by decide +kernel
theorem d_L_law_753 : decode b_L_law 753 = .ok (.iaload, 1) := by decide +kernel
theorem d_L_law_754 : decode b_L_law 754 = .ok (.aload_n 0, 1) := by decide +kernel
theorem d_L_law_755 : decode b_L_law 755 = .ok (.iload 4, 2) := by decide +kernel
theorem d_L_law_757 : decode b_L_law 757 = .ok (.iconst 2, 1) := by decide +kernel
theorem d_L_law_758 : decode b_L_law 758 = .ok (.iadd, 1) := by decide +kernel
theorem d_L_law_759 : decode b_L_law 759 = .ok (.iaload, 1) := by decide +kernel
theorem d_L_law_760 : decode b_L_law 760 = .ok (.aload_n 0, 1) := by decide +kernel
theorem d_L_law_761 : decode b_L_law 761 = .ok (.iload 4, 2) := by decide +kernel
theorem d_L_law_763 : decode b_L_law 763 = .ok (.iconst 3, 1) := by decide +kernel
theorem d_L_law_764 : decode b_L_law 764 = .ok (.iadd, 1) := by decide +kernel
theorem d_L_law_765 : decode b_L_law 765 = .ok (.iaload, 1) := by decide +kernel
theorem d_L_law_766 : decode b_L_law 766 = .ok (.invokevirtual 126, 3) := by decide +kernel
theorem d_L_law_769 : decode b_L_law 769 = .ok (.istore 6, 2) := by decide +kernel
theorem d_L_law_771 : decode b_L_law 771 = .ok (.aload_n 2, 1) := by decide +kernel
theorem d_L_law_772 : decode b_L_law 772 = .ok (.invokevirtual 81, 3) := by decide +kernel
theorem d_L_law_775 : decode b_L_law 775 = .ok (.iload 5, 2) := by decide +kernel
theorem d_L_law_777 : decode b_L_law 777 = .ok (.if_icmp .eq 5, 3) := by decide +kernel
theorem d_L_law_780 : decode b_L_law 780 = .ok (.iconst 0, 1) := by decide +kernel
theorem d_L_law_781 : decode b_L_law 781 = .ok (.ireturn, 1) := by decide +kernel
theorem d_L_law_782 : decode b_L_law 782 = .ok (.iload 5, 2) := by decide +kernel
theorem d_L_law_784 : decode b_L_law 784 = .ok (.ifCond .ne 15, 3) := by decide +kernel
theorem d_L_law_787 : decode b_L_law 787 = .ok (.aload_n 3, 1) := by decide +kernel
theorem d_L_law_788 : decode b_L_law 788 = .ok (.iconst 0, 1) := by decide +kernel
theorem d_L_law_789 : decode b_L_law 789 = .ok (.laload, 1) := by decide +kernel
theorem d_L_law_790 : decode b_L_law 790 = .ok (.iload 6, 2) := by decide +kernel
theorem d_L_law_792 : decode b_L_law 792 = .ok (.i2l, 1) := by decide +kernel
theorem d_L_law_793 : decode b_L_law 793 = .ok (.lcmp, 1) := by decide +kernel
theorem d_L_law_794 : decode b_L_law 794 = .ok (.ifCond .eq 5, 3) := by decide +kernel
theorem d_L_law_797 : decode b_L_law 797 = .ok (.iconst 0, 1) := by decide +kernel
theorem d_L_law_798 : decode b_L_law 798 = .ok (.ireturn, 1) := by decide +kernel
theorem d_L_law_799 : decode b_L_law 799 = .ok (.goto 222, 3) := by decide +kernel
theorem d_L_law_802 : decode b_L_law 802 = .ok (.aload_n 1, 1) := by decide +kernel
theorem d_L_law_803 : decode b_L_law 803 = .ok (.aload_n 0, 1) := by decide +kernel
theorem d_L_law_804 : decode b_L_law 804 = .ok (.iload 4, 2) := by decide +kernel
theorem d_L_law_806 : decode b_L_law 806 = .ok (.iconst 1, 1) := by decide +kernel
theorem d_L_law_807 : decode b_L_law 807 = .ok (.iadd, 1) := by decide +kernel
theorem d_L_law_808 : decode b_L_law 808 = .ok (.iaload, 1) := by decide +kernel
theorem d_L_law_809 : decode b_L_law 809 = .ok (.aload_n 3, 1) := by decide +kernel
theorem d_L_law_810 : decode b_L_law 810 = .ok (.invokestatic 127, 3) := by decide +kernel
theorem d_L_law_813 : decode b_L_law 813 = .ok (.istore 5, 2) := by decide +kernel
theorem d_L_law_815 : decode b_L_law 815 = .ok (.aload_n 2, 1) := by decide +kernel
theorem d_L_law_816 : decode b_L_law 816 = .ok (.aload_n 0, 1) := by decide +kernel
theorem d_L_law_817 : decode b_L_law 817 = .ok (.iload 4, 2) := by decide +kernel
theorem d_L_law_819 : decode b_L_law 819 = .ok (.iconst 1, 1) := by decide +kernel
theorem d_L_law_820 : decode b_L_law 820 = .ok (.iadd, 1) := by decide +kernel
theorem d_L_law_821 : decode b_L_law 821 = .ok (.iaload, 1) := by decide +kernel
theorem d_L_law_822 : decode b_L_law 822 = .ok (.invokevirtual 129, 3) := by decide +kernel
theorem d_L_law_825 : decode b_L_law 825 = .ok (.istore 6, 2) := by decide +kernel
theorem d_L_law_827 : decode b_L_law 827 = .ok (.aload_n 2, 1) := by decide +kernel
theorem d_L_law_828 : decode b_L_law 828 = .ok (.invokevirtual 81, 3) := by decide +kernel
theorem d_L_law_831 : decode b_L_law 831 = .ok (.iload 5, 2) := by decide +kernel
theorem d_L_law_833 : decode b_L_law 833 = .ok (.if_icmp .eq 5, 3) := by decide +kernel
theorem d_L_law_836 : decode b_L_law 836 = .ok (.iconst 0, 1) := by decide +kernel
theorem d_L_law_837 : decode b_L_law 837 = .ok (.ireturn, 1) := by decide +kernel
theorem d_L_law_838 : decode b_L_law 838 = .ok (.iload 5, 2) := by decide +kernel
theorem d_L_law_840 : decode b_L_law 840 = .ok (.ifCond .ne 15, 3) := by decide +kernel
theorem d_L_law_843 : decode b_L_law 843 = .ok (.aload_n 3, 1) := by decide +kernel
theorem d_L_law_844 : decode b_L_law 844 = .ok (.iconst 0, 1) := by decide +kernel
theorem d_L_law_845 : decode b_L_law 845 = .ok (.laload, 1) := by decide +kernel
theorem d_L_law_846 : decode b_L_law 846 = .ok (.iload 6, 2) := by decide +kernel
theorem d_L_law_848 : decode b_L_law 848 = .ok (.i2l, 1) := by decide +kernel
theorem d_L_law_849 : decode b_L_law 849 = .ok (.lcmp, 1) := by decide +kernel
theorem d_L_law_850 : decode b_L_law 850 = .ok (.ifCond .eq 5, 3) := by decide +kernel
theorem d_L_law_853 : decode b_L_law 853 = .ok (.iconst 0, 1) := by decide +kernel
theorem d_L_law_854 : decode b_L_law 854 = .ok (.ireturn, 1) := by decide +kernel
theorem d_L_law_855 : decode b_L_law 855 = .ok (.goto 166, 3) := by decide +kernel
theorem d_L_law_858 : decode b_L_law 858 = .ok (.aload_n 1, 1) := by decide +kernel
theorem d_L_law_859 : decode b_L_law 859 = .ok (.aload_n 0, 1) := by decide +kernel
theorem d_L_law_860 : decode b_L_law 860 = .ok (.iload 4, 2) := by decide +kernel
theorem d_L_law_862 : decode b_L_law 862 = .ok (.iconst 1, 1) := by decide +kernel
theorem d_L_law_863 : decode b_L_law 863 = .ok (.iadd, 1) := by decide +kernel
theorem d_L_law_864 : decode b_L_law 864 = .ok (.iaload, 1) := by decide +kernel
theorem d_L_law_865 : decode b_L_law 865 = .ok (.aload_n 3, 1) := by decide +kernel
theorem d_L_law_866 : decode b_L_law 866 = .ok (.invokestatic 130, 3) := by decide +kernel
theorem d_L_law_869 : decode b_L_law 869 = .ok (.istore 5, 2) := by decide +kernel
theorem d_L_law_871 : decode b_L_law 871 = .ok (.aload_n 2, 1) := by decide +kernel
theorem d_L_law_872 : decode b_L_law 872 = .ok (.aload_n 0, 1) := by decide +kernel
theorem d_L_law_873 : decode b_L_law 873 = .ok (.iload 4, 2) := by decide +kernel
theorem d_L_law_875 : decode b_L_law 875 = .ok (.iconst 1, 1) := by decide +kernel
theorem d_L_law_876 : decode b_L_law 876 = .ok (.iadd, 1) := by decide +kernel
theorem d_L_law_877 : decode b_L_law 877 = .ok (.iaload, 1) := by decide +kernel
theorem d_L_law_878 : decode b_L_law 878 = .ok (.invokevirtual 132, 3) := by decide +kernel
theorem d_L_law_881 : decode b_L_law 881 = .ok (.istore 6, 2) := by decide +kernel
theorem d_L_law_883 : decode b_L_law 883 = .ok (.aload_n 2, 1) := by decide +kernel
theorem d_L_law_884 : decode b_L_law 884 = .ok (.invokevirtual 81, 3) := by decide +kernel
theorem d_L_law_887 : decode b_L_law 887 = .ok (.iload 5, 2) := by decide +kernel
theorem d_L_law_889 : decode b_L_law 889 = .ok (.if_icmp .eq 5, 3) := by decide +kernel
theorem d_L_law_892 : decode b_L_law 892 = .ok (.iconst 0, 1) := by decide +kernel
theorem d_L_law_893 : decode b_L_law 893 = .ok (.ireturn, 1) := by decide +kernel
theorem d_L_law_894 : decode b_L_law 894 = .ok (.iload 5, 2) := by decide +kernel
theorem d_L_law_896 : decode b_L_law 896 = .ok (.ifCond .ne 15, 3) := by decide +kernel
theorem d_L_law_899 : decode b_L_law 899 = .ok (.aload_n 3, 1) := by decide +kernel
theorem d_L_law_900 : decode b_L_law 900 = .ok (.iconst 0, 1) := by decide +kernel
theorem d_L_law_901 : decode b_L_law 901 = .ok (.laload, 1) := by decide +kernel
theorem d_L_law_902 : decode b_L_law 902 = .ok (.iload 6, 2) := by decide +kernel
theorem d_L_law_904 : decode b_L_law 904 = .ok (.i2l, 1) := by decide +kernel
theorem d_L_law_905 : decode b_L_law 905 = .ok (.lcmp, 1) := by decide +kernel
theorem d_L_law_906 : decode b_L_law 906 = .ok (.ifCond .eq 5, 3) := by decide +kernel
theorem d_L_law_909 : decode b_L_law 909 = .ok (.iconst 0, 1) := by decide +kernel
theorem d_L_law_910 : decode b_L_law 910 = .ok (.ireturn, 1) := by decide +kernel
theorem d_L_law_911 : decode b_L_law 911 = .ok (.goto 110, 3) := by decide +kernel
theorem d_L_law_914 : decode b_L_law 914 = .ok (.aload_n 1, 1) := by decide +kernel
theorem d_L_law_915 : decode b_L_law 915 = .ok (.invokevirtual 133, 3) := by decide +kernel
theorem d_L_law_918 : decode b_L_law 918 = .ok (.aload_n 2, 1) := by decide +kernel
theorem d_L_law_919 : decode b_L_law 919 = .ok (.invokevirtual 136, 3) := by decide +kernel
theorem d_L_law_922 : decode b_L_law 922 = .ok (.if_icmp .eq 99, 3) := by decide +kernel
theorem d_L_law_925 : decode b_L_law 925 = .ok (.iconst 0, 1) := by decide +kernel
theorem d_L_law_926 : decode b_L_law 926 = .ok (.ireturn, 1) := by decide +kernel
theorem d_L_law_927 : decode b_L_law 927 = .ok (.aload_n 1, 1) := by decide +kernel
theorem d_L_law_928 : decode b_L_law 928 = .ok (.invokevirtual 137, 3) := by decide +kernel
theorem d_L_law_931 : decode b_L_law 931 = .ok (.aload_n 2, 1) := by decide +kernel
theorem d_L_law_932 : decode b_L_law 932 = .ok (.invokevirtual 140, 3) := by decide +kernel
theorem d_L_law_935 : decode b_L_law 935 = .ok (.if_icmp .eq 86, 3) := by decide +kernel
theorem d_L_law_938 : decode b_L_law 938 = .ok (.iconst 0, 1) := by decide +kernel
theorem d_L_law_939 : decode b_L_law 939 = .ok (.ireturn, 1) := by decide +kernel
theorem d_L_law_940 : decode b_L_law 940 = .ok (.aload_n 1, 1) := by decide +kernel
theorem d_L_law_941 : decode b_L_law 941 = .ok (.invokevirtual 141, 3) := by decide +kernel
theorem d_L_law_944 : decode b_L_law 944 = .ok (.aload_n 2, 1) := by decide +kernel
theorem d_L_law_945 : decode b_L_law 945 = .ok (.invokevirtual 144, 3) := by decide +kernel
theorem d_L_law_948 : decode b_L_law 948 = .ok (.if_icmp .eq 73, 3) := by decide +kernel
theorem d_L_law_951 : decode b_L_law 951 = .ok (.iconst 0, 1) := by decide +kernel
theorem d_L_law_952 : decode b_L_law 952 = .ok (.ireturn, 1) := by decide +kernel
theorem d_L_law_953 : decode b_L_law 953 = .ok (.aload_n 1, 1) := by decide +kernel
theorem d_L_law_954 : decode b_L_law 954 = .ok (.aload_n 0, 1) := by decide +kernel
theorem d_L_law_955 : decode b_L_law 955 = .ok (.iload 4, 2) := by decide +kernel
theorem d_L_law_957 : decode b_L_law 957 = .ok (.iconst 1, 1) := by decide +kernel
theorem d_L_law_958 : decode b_L_law 958 = .ok (.iadd, 1) := by decide +kernel
theorem d_L_law_959 : decode b_L_law 959 = .ok (.iaload, 1) := by decide +kernel
theorem d_L_law_960 : decode b_L_law 960 = .ok (.aload_n 0, 1) := by decide +kernel
theorem d_L_law_961 : decode b_L_law 961 = .ok (.iload 4, 2) := by decide +kernel
theorem d_L_law_963 : decode b_L_law 963 = .ok (.iconst 2, 1) := by decide +kernel
theorem d_L_law_964 : decode b_L_law 964 = .ok (.iadd, 1) := by decide +kernel
theorem d_L_law_965 : decode b_L_law 965 = .ok (.iaload, 1) := by decide +kernel
theorem d_L_law_966 : decode b_L_law 966 = .ok (.aload_n 3, 1) := by decide +kernel
theorem d_L_law_967 : decode b_L_law 967 = .ok (.invokestatic 145, 3) := by decide +kernel
theorem d_L_law_970 : decode b_L_law 970 = .ok (.istore 5, 2) := by decide +kernel
theorem d_L_law_972 : decode b_L_law 972 = .ok (.aload_n 2, 1) := by decide +kernel
theorem d_L_law_973 : decode b_L_law 973 = .ok (.aload_n 0, 1) := by decide +kernel
theorem d_L_law_974 : decode b_L_law 974 = .ok (.iload 4, 2) := by decide +kernel
theorem d_L_law_976 : decode b_L_law 976 = .ok (.iconst 1, 1) := by decide +kernel
theorem d_L_law_977 : decode b_L_law 977 = .ok (.iadd, 1) := by decide +kernel
theorem d_L_law_978 : decode b_L_law 978 = .ok (.iaload, 1) := by decide +kernel
theorem d_L_law_979 : decode b_L_law 979 = .ok (.aload_n 0, 1) := by decide +kernel
theorem d_L_law_980 : decode b_L_law 980 = .ok (.iload 4, 2) := by decide +kernel
theorem d_L_law_982 : decode b_L_law 982 = .ok (.iconst 2, 1) := by decide +kernel
theorem d_L_law_983 : decode b_L_law 983 = .ok (.iadd, 1) := by decide +kernel
theorem d_L_law_984 : decode b_L_law 984 = .ok (.iaload, 1) := by decide +kernel
theorem d_L_law_985 : decode b_L_law 985 = .ok (.invokevirtual 147, 3) := by decide +kernel
theorem d_L_law_988 : decode b_L_law 988 = .ok (.istore 6, 2) := by decide +kernel
theorem d_L_law_990 : decode b_L_law 990 = .ok (.aload_n 2, 1) := by decide +kernel
theorem d_L_law_991 : decode b_L_law 991 = .ok (.invokevirtual 81, 3) := by decide +kernel
theorem d_L_law_994 : decode b_L_law 994 = .ok (.iload 5, 2) := by decide +kernel
theorem d_L_law_996 : decode b_L_law 996 = .ok (.if_icmp .eq 5, 3) := by decide +kernel
theorem d_L_law_999 : decode b_L_law 999 = .ok (.iconst 0, 1) := by decide +kernel
theorem d_L_law_1000 : decode b_L_law 1000 = .ok (.ireturn, 1) := by decide +kernel
theorem d_L_law_1001 : decode b_L_law 1001 = .ok (.iload 5, 2) := by decide +kernel
theorem d_L_law_1003 : decode b_L_law 1003 = .ok (.ifCond .ne 15, 3) := by decide +kernel
theorem d_L_law_1006 : decode b_L_law 1006 = .ok (.aload_n 3, 1) := by decide +kernel
theorem d_L_law_1007 : decode b_L_law 1007 = .ok (.iconst 0, 1) := by decide +kernel
theorem d_L_law_1008 : decode b_L_law 1008 = .ok (.laload, 1) := by decide +kernel
theorem d_L_law_1009 : decode b_L_law 1009 = .ok (.iload 6, 2) := by decide +kernel
theorem d_L_law_1011 : decode b_L_law 1011 = .ok (.i2l, 1) := by decide +kernel
theorem d_L_law_1012 : decode b_L_law 1012 = .ok (.lcmp, 1) := by decide +kernel
theorem d_L_law_1013 : decode b_L_law 1013 = .ok (.ifCond .eq 5, 3) := by decide +kernel
theorem d_L_law_1016 : decode b_L_law 1016 = .ok (.iconst 0, 1) := by decide +kernel
theorem d_L_law_1017 : decode b_L_law 1017 = .ok (.ireturn, 1) := by decide +kernel
theorem d_L_law_1018 : decode b_L_law 1018 = .ok (.goto 3, 3) := by decide +kernel
theorem d_L_law_1021 : decode b_L_law 1021 = .ok (.iinc 4 5, 3) := by decide +kernel
theorem d_L_law_1024 : decode b_L_law 1024 = .ok (.goto (-981), 3) := by decide +kernel
theorem d_L_law_1027 : decode b_L_law 1027 = .ok (.iconst 1, 1) := by decide +kernel
theorem d_L_law_1028 : decode b_L_law 1028 = .ok (.ireturn, 1) := by decide +kernel
set_option maxHeartbeats 8000000 in
set_option maxRecDepth 100000 in
theorem lc_feed {p : Program} {l : Launch} {e : Env} {s : State} {m : MethodId} {below : List Frame} {meth : Method} {c : Code} {b L : Nat} {xs : Nat → Int32} {D : va_G} {cI cZ cQ cJ : ClassId} {ta : VA} {tb : MA} {qo : Nat} {A : Nat → Prop} {Q : State → Prop} (hst : l.stackTraces = false) (hx : p.tables.exec = Jvm.exec) (hb : c.code = b_L_law) (hml : c.maxLocals = 8) (hown : s.vm.findClass R_L = some m.cls) (hts : ∀ w ∈ bw, w.before #[Value.ref b] s = true) (hXs : va_X b L xs s s.heap) (hbl : b < s.heap.size) (hbA : ¬ A b) (hL : L ≤ 2562) (hK : va_K D cls (tyJ cI cZ cQ cJ) s) (hA : ∀ q : Nat, s.heap.size ≤ q → A q) (hX : xf A s s.heap) (hN : xN s) (ga : geo ta.k ta.n ta.hh ta.ff) (hhL : ∀ i, i < ta.n + 1 → ta.hh i ∈ ta.L) (ffL : ∀ i, i < ta.n + 1 → ta.ff i ∈ ta.L) {n9 : Nat} {vs : VS} {zs : MS} {lz : Nat → Nat} {f : Nat → Int64} {ls : Array Slot} {H : Heap} {locs : List Loc} (hinv : inv ta.k ta.n ta.hh lz n9 vs zs) (hn9 : n9 ≤ 511) (hi5 : 2 + 5 * n9 + 5 ≤ L) (hl : lv_has ls 8 [(0, .ref b), (1, .ref ta.qv), (2, .ref tb.qm), (3, .ref qo), (4, .int (nI (2 + 5 * n9)))]) (hP : va_P D cls (oC cJ qo f ++ (vX cI cZ cQ ta vs ++ mX cI cZ ta tb zs)) H) (hD : va_D A (oC cJ qo f ++ (vX cI cZ cQ ta vs ++ mX cI cZ ta tb zs))) (hS : va_S A s.heap H locs) (kk : ∀ (vs1 : VS) (zs1 : MS) (lz1 : Nat → Nat) (f1 : Nat → Int64) (ls : Array Slot) (H : Heap) (locs : List Loc), inv ta.k ta.n ta.hh lz1 (n9 + 1) vs1 zs1 → lv_has ls 8 [(0, .ref b), (1, .ref ta.qv), (2, .ref tb.qm), (3, .ref qo), (4, .int (nI (2 + 5 * n9)))] → va_P D cls (oC cJ qo f1 ++ (vX cI cZ cQ ta vs1 ++ mX cI cZ ta tb zs1)) H → va_D A (oC cJ qo f1 ++ (vX cI cZ cQ ta vs1 ++ mX cI cZ ta tb zs1)) → va_S A s.heap H locs → W p l e room_1 s m #[Value.ref b] below meth c H locs (100 + 16 * n9 + 12) (7000 + 120 * n9 + 100) Q (F0 m 1021 ls [])) : W p l e room_1 s m #[Value.ref b] below meth c H locs (100 + 16 * n9) (7000 + 120 * n9) Q (F0 m 144 ls []) := by
  refine lv_aload_n hx hb d_L_law_144 rfl (lv_at hl 1 rfl) ?_
  refine lv_aload_n hx hb d_L_law_145 rfl (lv_at hl 0 rfl) ?_
  refine lv_iload hx hb d_L_law_146 (lv_at hl 4 rfl) ?_
  refine lv_iconst (v := nI 1) hx hb d_L_law_148 (by decide) ?_
  refine lv_iadd hx hb d_L_law_149 ?_
  refine sd_top (y := nI (2 + 5 * n9 + 1)) (nI_add _ _) ?_
  refine sd_sld hx hb hXs hbl hbA hS (j := 2 + 5 * n9 + 1) (by omega) (by omega) d_L_law_150 ?_
  refine lv_i2l hx hb d_L_law_151 rfl ?_
  refine lv_bipush (v := (32 : Int32)) hx hb d_L_law_152 (by decide) ?_
  refine lv_lshl hx hb d_L_law_154 rfl ?_
  refine lv_aload_n hx hb d_L_law_155 rfl (lv_at hl 0 rfl) ?_
  refine lv_iload hx hb d_L_law_156 (lv_at hl 4 rfl) ?_
  refine lv_iconst (v := nI 2) hx hb d_L_law_158 (by decide) ?_
  refine lv_iadd hx hb d_L_law_159 ?_
  refine sd_top (y := nI (2 + 5 * n9 + 2)) (nI_add _ _) ?_
  refine sd_sld hx hb hXs hbl hbA hS (j := 2 + 5 * n9 + 2) (by omega) (by omega) d_L_law_160 ?_
  refine lv_i2l hx hb d_L_law_161 rfl ?_
  refine lv_ldc2 (v := 4294967295) hx hb hown (hts _ wq_L_75) d_L_law_162 ?_
  refine lv_land hx hb d_L_law_165 ?_
  refine lv_lor hx hb d_L_law_166 ?_
  refine lv_aload_n hx hb d_L_law_167 rfl (lv_at hl 0 rfl) ?_
  refine lv_iload hx hb d_L_law_168 (lv_at hl 4 rfl) ?_
  refine lv_iconst (v := nI 3) hx hb d_L_law_170 (by decide) ?_
  refine lv_iadd hx hb d_L_law_171 ?_
  refine sd_top (y := nI (2 + 5 * n9 + 3)) (nI_add _ _) ?_
  refine sd_sld hx hb hXs hbl hbA hS (j := 2 + 5 * n9 + 3) (by omega) (by omega) d_L_law_172 ?_
  refine lv_aload_n hx hb d_L_law_173 rfl (lv_at hl 3 rfl) ?_
  obtain ⟨zs1, r9, vs1, lz1, hM9, hi9, hV9⟩ := op_feed (l := l) (D := D) (cI := cI) (cZ := cZ) (cQ := cQ) (b := tb) hst ga hhL ffL hinv (by omega) ((((xs (2 + 5 * n9 + 1)).toInt64) <<< (((32 : Int32)).toInt64 &&& 63)) ||| (((xs (2 + 5 * n9 + 2)).toInt64) &&& (4294967295))) (xs (2 + 5 * n9 + 3))
  obtain ⟨f1, ⟨rl, hrl, hL9⟩, hout9⟩ := lo_feed qo cJ f ((((xs (2 + 5 * n9 + 1)).toInt64) <<< (((32 : Int32)).toInt64 &&& 63)) ||| (((xs (2 + 5 * n9 + 2)).toInt64) &&& (4294967295))) (xs (2 + 5 * n9 + 3)) hV9
  obtain ⟨hrl1, hrl2, hrl3, hrl4⟩ := hrl
  refine md_SH (X := []) (C := oC cJ qo f ++ vX cI cZ cQ ta vs) (C' := oC cJ qo f1 ++ vX cI cZ cQ ta vs1) (Z := mX cI cZ ta tb zs) (As := [.ref ta.qv, .long ((((xs (2 + 5 * n9 + 1)).toInt64) <<< (((32 : Int32)).toInt64 &&& 63)) ||| (((xs (2 + 5 * n9 + 2)).toInt64) &&& (4294967295))), .int (xs (2 + 5 * n9 + 3)), .ref qo]) (rest := []) hL9 wc_L_feed wm_L_77 wi_L ⟨by decide, by decide, show (parseMethodDescriptor y_L_feed.desc).map (fun d => d.parameters.length) = some 4 by decide +kernel⟩ ws_L_feed hx hb hml hown hts hl.1 ⟨by show rl.frames + 1 ≤ room_1.frames; have e9 : room_1.frames = 11 := rfl; omega, by show 8 + (6 + 11) + rl.locals ≤ room_1.locals; have e9 : room_1.locals = 398 := rfl; omega⟩ ⟨by show 100 + 16 * n9 + rl.cells ≤ room_1.cells; have e9 : room_1.cells = 601024 := rfl; omega, by show 7000 + 120 * n9 + rl.slots ≤ room_1.slots; have e9 : room_1.slots = 7293000 := rfl; omega⟩ hK hP hD hS hA hX hN (by rw [List.map_append, List.map_append, vX_adr _ _ _ _ vs vs1]; rfl) rfl (Nat.le_of_ble_eq_true rfl) d_L_law_174 (fun H locs hP hD hS => ?_)
  have hP : va_P D cls (oC cJ qo f1 ++ (vX cI cZ cQ ta vs1 ++ mX cI cZ ta tb zs)) H := hP
  have hD : va_D A (oC cJ qo f1 ++ (vX cI cZ cQ ta vs1 ++ mX cI cZ ta tb zs)) := hD
  refine lv_istore hx hb d_L_law_177 hl (Nat.le_of_ble_eq_true rfl) (lv' := [(5, .int (zs1.cd)), (0, .ref b), (1, .ref ta.qv), (2, .ref tb.qm), (3, .ref qo), (4, .int (nI (2 + 5 * n9)))]) rfl (fun ls hl => ?_)
  refine lv_aload_n hx hb d_L_law_179 rfl (lv_at hl 3 rfl) ?_
  refine lv_aload_n hx hb d_L_law_180 rfl (lv_at hl 1 rfl) ?_
  refine lv_iload hx hb d_L_law_181 (lv_at hl 5 rfl) ?_
  refine lv_iconst (v := nI 1) hx hb d_L_law_183 (by decide) ?_
  refine lv_iadd hx hb d_L_law_184 ?_
  refine sd_top (y := nI (2 + 5 * n9 + 1)) (nI_add _ _) ?_
  refine sd_sld hx hb hXs hbl hbA hS (j := 2 + 5 * n9 + 1) (by omega) (by omega) d_L_law_185 ?_
  refine lv_i2l hx hb d_L_law_186 rfl ?_
  refine lv_bipush (v := (32 : Int32)) hx hb d_L_law_187 (by decide) ?_
  refine lv_lshl hx hb d_L_law_189 rfl ?_
  refine lv_aload_n hx hb d_L_law_190 rfl (lv_at hl 1 rfl) ?_
  refine lv_iload hx hb d_L_law_191 (lv_at hl 5 rfl) ?_
  refine lv_iconst (v := nI 2) hx hb d_L_law_193 (by decide) ?_
  refine lv_iadd hx hb d_L_law_194 ?_
  refine sd_top (y := nI (2 + 5 * n9 + 2)) (nI_add _ _) ?_
  refine sd_sld hx hb hXs hbl hbA hS (j := 2 + 5 * n9 + 2) (by omega) (by omega) d_L_law_195 ?_
  refine lv_i2l hx hb d_L_law_196 rfl ?_
  refine lv_ldc2 (v := 4294967295) hx hb hown (hts _ wq_L_75) d_L_law_197 ?_
  refine lv_land hx hb d_L_law_200 ?_
  refine lv_lor hx hb d_L_law_201 ?_
  refine lv_aload_n hx hb d_L_law_202 rfl (lv_at hl 1 rfl) ?_
  refine lv_iload hx hb d_L_law_203 (lv_at hl 5 rfl) ?_
  refine lv_iconst (v := nI 3) hx hb d_L_law_205 (by decide) ?_
  refine lv_iadd hx hb d_L_law_206 ?_
  refine sd_top (y := nI (2 + 5 * n9 + 3)) (nI_add _ _) ?_
  refine sd_sld hx hb hXs hbl hbA hS (j := 2 + 5 * n9 + 3) (by omega) (by omega) d_L_law_207 ?_
  obtain ⟨rm9, hrm9, hM9⟩ := hM9
  obtain ⟨hrm91, hrm92, hrm93, hrm94⟩ := hrm9
  have hP : va_P D cls ((oC cJ qo f1 ++ vX cI cZ cQ ta vs1) ++ (mX cI cZ ta tb zs ++ [])) H := by rw [List.append_nil, List.append_assoc]; exact hP
  have hD : va_D A ((oC cJ qo f1 ++ vX cI cZ cQ ta vs1) ++ (mX cI cZ ta tb zs ++ [])) := by rw [List.append_nil, List.append_assoc]; exact hD
  refine md_VI (C := mX cI cZ ta tb zs) (C' := mX cI cZ ta tb zs1) (Z := []) (As := [.long ((((xs (2 + 5 * n9 + 1)).toInt64) <<< (((32 : Int32)).toInt64 &&& 63)) ||| (((xs (2 + 5 * n9 + 2)).toInt64) &&& (4294967295))), .int (xs (2 + 5 * n9 + 3))]) (rest := []) hM9 ⟨wc_M_feed, wm_L_80, wi_M, by decide, by decide, show (parseMethodDescriptor y_M_feed.desc).map (fun d => d.parameters.length) = some 2 by decide +kernel⟩ wo_M_feed wz_M_feed hx hb hml hown hts hl.1 ⟨by show rm9.frames + 1 ≤ room_1.frames; have e9 : room_1.frames = 11 := rfl; omega, by show 8 + (5 + 11) + rm9.locals ≤ room_1.locals; have e9 : room_1.locals = 398 := rfl; omega⟩ ⟨by show 100 + 16 * n9 + rl.cells + rm9.cells ≤ room_1.cells; have e9 : room_1.cells = 601024 := rfl; omega, by show 7000 + 120 * n9 + rl.slots + rm9.slots ≤ room_1.slots; have e9 : room_1.slots = 7293000 := rfl; omega⟩ (ty_J hK) hP hD hS hA (mX_adr _ _ _ _ _ _) (q0 := 0) rfl rfl rfl (Nat.le_of_ble_eq_true rfl) d_L_law_208 (fun H locs hP hD hS => ?_)
  rw [List.append_nil, List.append_assoc] at hP hD
  have hP : va_P D cls (oC cJ qo f1 ++ (vX cI cZ cQ ta vs1 ++ mX cI cZ ta tb zs1)) H := hP
  have hD : va_D A (oC cJ qo f1 ++ (vX cI cZ cQ ta vs1 ++ mX cI cZ ta tb zs1)) := hD
  refine lv_istore hx hb d_L_law_211 hl (Nat.le_of_ble_eq_true rfl) (lv' := [(6, .int (r9)), (5, .int (zs1.cd)), (0, .ref b), (1, .ref ta.qv), (2, .ref tb.qm), (3, .ref qo), (4, .int (nI (2 + 5 * n9)))]) rfl (fun ls hl => ?_)
  refine lv_aload_n hx hb d_L_law_213 rfl (lv_at hl 4 rfl) ?_
  have hM8 := (c_M_thrown l D cI cZ cQ (tb.qm) (tb.mp) (tb.mt) (tb.ml) (tb.mc) (tb.mf) (tb.me) (tb.mg) (tb.mh) (tb.mu) (ta.k) (ta.n) (zs1.pn) (zs1.nx) (zs1.cd) (zs1.ep) (zs1.M) (zs1.wi) (zs1.jb) (zs1.fp) (zs1.tf) (zs1.tt) (zs1.fi) (zs1.ln) (zs1.bx) (zs1.pr) (zs1.tk) (zs1.le) (zs1.co) (zs1.fr) (zs1.em) (zs1.nb) (zs1.su) (by have := ga.kn; have := ga.n9; omega) (ga.n9))
  have hP : va_P D cls ((oC cJ qo f1 ++ vX cI cZ cQ ta vs1) ++ (mX cI cZ ta tb zs1 ++ [])) H := by rw [List.append_nil, List.append_assoc]; exact hP
  have hD : va_D A ((oC cJ qo f1 ++ vX cI cZ cQ ta vs1) ++ (mX cI cZ ta tb zs1 ++ [])) := by rw [List.append_nil, List.append_assoc]; exact hD
  refine md_VI (C := mX cI cZ ta tb zs1) (C' := mX cI cZ ta tb zs1) (Z := []) (As := []) (rest := []) hM8 ⟨wc_M_thrown, wm_L_81, wi_M, by decide, by decide, show (parseMethodDescriptor y_M_thrown.desc).map (fun d => d.parameters.length) = some 0 by decide +kernel⟩ wo_M_thrown wz_M_thrown hx hb hml hown hts hl.1 ⟨by show 0 + 1 ≤ room_1.frames; decide, by decide⟩ ⟨by show 100 + 16 * n9 + rl.cells + rm9.cells + 0 ≤ room_1.cells; have e9 : room_1.cells = 601024 := rfl; omega, by show 7000 + 120 * n9 + rl.slots + rm9.slots + 0 ≤ room_1.slots; have e9 : room_1.slots = 7293000 := rfl; omega⟩ (ty_J hK) hP hD hS hA (mX_adr _ _ _ _ _ _) (q0 := 0) rfl rfl rfl (Nat.le_of_ble_eq_true rfl) d_L_law_214 (fun H locs hP hD hS => ?_)
  rw [List.append_nil, List.append_assoc] at hP hD
  have hP : va_P D cls (oC cJ qo f1 ++ (vX cI cZ cQ ta vs1 ++ mX cI cZ ta tb zs1)) H := hP
  have hD : va_D A (oC cJ qo f1 ++ (vX cI cZ cQ ta vs1 ++ mX cI cZ ta tb zs1)) := hD
  refine lv_iload hx hb d_L_law_217 (lv_at hl 1 rfl) ?_
  refine lv_icmp_eq (tgt := 224) hx hb d_L_law_219 rfl (fun hc219 => ?_) (fun hc219 => ?_)
  · skip
    refine lv_iload hx hb d_L_law_224 (lv_at hl 1 rfl) ?_
    refine lv_if_ne (tgt := 241) hx hb d_L_law_226 rfl (fun hc226 => ?_) (fun hc226 => ?_)
    · skip
      refine lv_goto (tgt := 1021) hx hb d_L_law_241 rfl ?_
      have hl := lv_sub hl (l' := [(0, .ref b), (1, .ref ta.qv), (2, .ref tb.qm), (3, .ref qo), (4, .int (nI (2 + 5 * n9)))]) [2, 3, 4, 5, 6] rfl
      refine W.widen (k := 100 + 16 * n9 + 12) (n := 7000 + 120 * n9 + 100) (by first | omega | (dsimp only; omega)) (by first | omega | (dsimp only; omega)) ?_
      exact kk _ _ _ _ ls H locs hi9 hl hP hD hS
    · skip
      have hcd9 : zs1.cd = 0 := hc226
      refine lv_aload_n hx hb d_L_law_229 rfl (lv_at hl 5 rfl) ?_
      refine lv_iconst (v := 0) hx hb d_L_law_230 (by decide) ?_
      refine va_lald hx hb hK hP 0 3 rfl rfl (by unfold vp_in; decide) d_L_law_231 ?_
      refine sd_topl (y := f1 0) rfl ?_
      refine lv_iload hx hb d_L_law_232 (lv_at hl 0 rfl) ?_
      refine lv_i2l hx hb d_L_law_234 rfl ?_
      refine W.lcmp hx hb d_L_law_235 ?_
      refine lv_if_eq (tgt := 241) hx hb d_L_law_236 rfl (fun hc236 => ?_) (fun hc236 => ?_)
      · skip
        refine lv_goto (tgt := 1021) hx hb d_L_law_241 rfl ?_
        have hl := lv_sub hl (l' := [(0, .ref b), (1, .ref ta.qv), (2, .ref tb.qm), (3, .ref qo), (4, .int (nI (2 + 5 * n9)))]) [2, 3, 4, 5, 6] rfl
        refine W.widen (k := 100 + 16 * n9 + 12) (n := 7000 + 120 * n9 + 100) (by first | omega | (dsimp only; omega)) (by first | omega | (dsimp only; omega)) ?_
        exact kk _ _ _ _ ls H locs hi9 hl hP hD hS
      · skip
        exact absurd (by rw [hout9 hcd9]; exact lg_self _) hc236
  · skip
    exact absurd rfl hc219
set_option maxHeartbeats 8000000 in
set_option maxRecDepth 100000 in
theorem lc_pool {p : Program} {l : Launch} {e : Env} {s : State} {m : MethodId} {below : List Frame} {meth : Method} {c : Code} {b L : Nat} {xs : Nat → Int32} {D : va_G} {cI cZ cQ cJ : ClassId} {ta : VA} {tb : MA} {qo : Nat} {A : Nat → Prop} {Q : State → Prop} (hst : l.stackTraces = false) (hx : p.tables.exec = Jvm.exec) (hb : c.code = b_L_law) (hml : c.maxLocals = 8) (hown : s.vm.findClass R_L = some m.cls) (hts : ∀ w ∈ bw, w.before #[Value.ref b] s = true) (hXs : va_X b L xs s s.heap) (hbl : b < s.heap.size) (hbA : ¬ A b) (hL : L ≤ 2562) (hK : va_K D cls (tyJ cI cZ cQ cJ) s) (hA : ∀ q : Nat, s.heap.size ≤ q → A q) (hX : xf A s s.heap) (hN : xN s) (ga : geo ta.k ta.n ta.hh ta.ff) (hhL : ∀ i, i < ta.n + 1 → ta.hh i ∈ ta.L) (ffL : ∀ i, i < ta.n + 1 → ta.ff i ∈ ta.L) {n9 : Nat} {vs : VS} {zs : MS} {lz : Nat → Nat} {f : Nat → Int64} {ls : Array Slot} {H : Heap} {locs : List Loc} (hinv : inv ta.k ta.n ta.hh lz n9 vs zs) (hn9 : n9 ≤ 511) (hi5 : 2 + 5 * n9 + 5 ≤ L) (hl : lv_has ls 8 [(0, .ref b), (1, .ref ta.qv), (2, .ref tb.qm), (3, .ref qo), (4, .int (nI (2 + 5 * n9)))]) (hP : va_P D cls (oC cJ qo f ++ (vX cI cZ cQ ta vs ++ mX cI cZ ta tb zs)) H) (hD : va_D A (oC cJ qo f ++ (vX cI cZ cQ ta vs ++ mX cI cZ ta tb zs))) (hS : va_S A s.heap H locs) (kk : ∀ (vs1 : VS) (zs1 : MS) (lz1 : Nat → Nat) (f1 : Nat → Int64) (ls : Array Slot) (H : Heap) (locs : List Loc), inv ta.k ta.n ta.hh lz1 (n9 + 1) vs1 zs1 → lv_has ls 8 [(0, .ref b), (1, .ref ta.qv), (2, .ref tb.qm), (3, .ref qo), (4, .int (nI (2 + 5 * n9)))] → va_P D cls (oC cJ qo f1 ++ (vX cI cZ cQ ta vs1 ++ mX cI cZ ta tb zs1)) H → va_D A (oC cJ qo f1 ++ (vX cI cZ cQ ta vs1 ++ mX cI cZ ta tb zs1)) → va_S A s.heap H locs → W p l e room_1 s m #[Value.ref b] below meth c H locs (100 + 16 * n9 + 12) (7000 + 120 * n9 + 100) Q (F0 m 1021 ls [])) : W p l e room_1 s m #[Value.ref b] below meth c H locs (100 + 16 * n9) (7000 + 120 * n9) Q (F0 m 244 ls []) := by
  refine lv_aload_n hx hb d_L_law_244 rfl (lv_at hl 1 rfl) ?_
  obtain ⟨zs1, r9, vs1, lz1, hM9, hi9, rl, hrl, hV9⟩ := op_pool (l := l) (D := D) (cI := cI) (cZ := cZ) (cQ := cQ) (b := tb) hst ga hhL ffL hinv (by omega)
  obtain ⟨hrl1, hrl2, hrl3, hrl4⟩ := hrl
  refine md_VI (X := oC cJ qo f) (C := vX cI cZ cQ ta vs) (C' := vX cI cZ cQ ta vs1) (Z := mX cI cZ ta tb zs) (As := []) (rest := []) hV9 ⟨wc_V_pool, wm_L_84, wi_V, by decide, by decide, show (parseMethodDescriptor y_V_pool.desc).map (fun d => d.parameters.length) = some 0 by decide +kernel⟩ wo_V_pool wz_V_pool hx hb hml hown hts hl.1 ⟨by show rl.frames + 1 ≤ room_1.frames; have e9 : room_1.frames = 11 := rfl; omega, by show 8 + (1 + 11) + rl.locals ≤ room_1.locals; have e9 : room_1.locals = 398 := rfl; omega⟩ ⟨by show 100 + 16 * n9 + rl.cells ≤ room_1.cells; have e9 : room_1.cells = 601024 := rfl; omega, by show 7000 + 120 * n9 + rl.slots ≤ room_1.slots; have e9 : room_1.slots = 7293000 := rfl; omega⟩ (ty_J hK) hP hD hS hA (vX_adr _ _ _ _ _ _) (q0 := 0) rfl rfl rfl (Nat.le_of_ble_eq_true rfl) d_L_law_245 (fun H locs hP hD hS => ?_)
  have hP : va_P D cls (oC cJ qo f ++ (vX cI cZ cQ ta vs1 ++ mX cI cZ ta tb zs)) H := hP
  have hD : va_D A (oC cJ qo f ++ (vX cI cZ cQ ta vs1 ++ mX cI cZ ta tb zs)) := hD
  refine lv_aload_n hx hb d_L_law_248 rfl (lv_at hl 2 rfl) ?_
  obtain ⟨rm9, hrm9, hM9⟩ := hM9
  obtain ⟨hrm91, hrm92, hrm93, hrm94⟩ := hrm9
  have hP : va_P D cls ((oC cJ qo f ++ vX cI cZ cQ ta vs1) ++ (mX cI cZ ta tb zs ++ [])) H := by rw [List.append_nil, List.append_assoc]; exact hP
  have hD : va_D A ((oC cJ qo f ++ vX cI cZ cQ ta vs1) ++ (mX cI cZ ta tb zs ++ [])) := by rw [List.append_nil, List.append_assoc]; exact hD
  refine md_VI (C := mX cI cZ ta tb zs) (C' := mX cI cZ ta tb zs1) (Z := []) (As := []) (rest := [.int (r9)]) hM9 ⟨wc_M_pool, wm_L_87, wi_M, by decide, by decide, show (parseMethodDescriptor y_M_pool.desc).map (fun d => d.parameters.length) = some 0 by decide +kernel⟩ wo_M_pool wz_M_pool hx hb hml hown hts hl.1 ⟨by show rm9.frames + 1 ≤ room_1.frames; have e9 : room_1.frames = 11 := rfl; omega, by show 8 + (1 + 11) + rm9.locals ≤ room_1.locals; have e9 : room_1.locals = 398 := rfl; omega⟩ ⟨by show 100 + 16 * n9 + rl.cells + rm9.cells ≤ room_1.cells; have e9 : room_1.cells = 601024 := rfl; omega, by show 7000 + 120 * n9 + rl.slots + rm9.slots ≤ room_1.slots; have e9 : room_1.slots = 7293000 := rfl; omega⟩ (ty_J hK) hP hD hS hA (mX_adr _ _ _ _ _ _) (q0 := 0) rfl rfl rfl (Nat.le_of_ble_eq_true rfl) d_L_law_249 (fun H locs hP hD hS => ?_)
  rw [List.append_nil, List.append_assoc] at hP hD
  have hP : va_P D cls (oC cJ qo f ++ (vX cI cZ cQ ta vs1 ++ mX cI cZ ta tb zs1)) H := hP
  have hD : va_D A (oC cJ qo f ++ (vX cI cZ cQ ta vs1 ++ mX cI cZ ta tb zs1)) := hD
  refine lv_icmp_eq (tgt := 1021) hx hb d_L_law_252 rfl (fun hc252 => ?_) (fun hc252 => ?_)
  · skip
    have hl := lv_sub hl (l' := [(0, .ref b), (1, .ref ta.qv), (2, .ref tb.qm), (3, .ref qo), (4, .int (nI (2 + 5 * n9)))]) [0, 1, 2, 3, 4] rfl
    refine W.widen (k := 100 + 16 * n9 + 12) (n := 7000 + 120 * n9 + 100) (by first | omega | (dsimp only; omega)) (by first | omega | (dsimp only; omega)) ?_
    exact kk _ _ _ _ ls H locs hi9 hl hP hD hS
  · skip
    exact absurd rfl hc252
set_option maxHeartbeats 8000000 in
set_option maxRecDepth 100000 in
theorem lc_store {p : Program} {l : Launch} {e : Env} {s : State} {m : MethodId} {below : List Frame} {meth : Method} {c : Code} {b L : Nat} {xs : Nat → Int32} {D : va_G} {cI cZ cQ cJ : ClassId} {ta : VA} {tb : MA} {qo : Nat} {A : Nat → Prop} {Q : State → Prop} (hst : l.stackTraces = false) (hx : p.tables.exec = Jvm.exec) (hb : c.code = b_L_law) (hml : c.maxLocals = 8) (hown : s.vm.findClass R_L = some m.cls) (hts : ∀ w ∈ bw, w.before #[Value.ref b] s = true) (hXs : va_X b L xs s s.heap) (hbl : b < s.heap.size) (hbA : ¬ A b) (hL : L ≤ 2562) (hK : va_K D cls (tyJ cI cZ cQ cJ) s) (hA : ∀ q : Nat, s.heap.size ≤ q → A q) (hX : xf A s s.heap) (hN : xN s) (ga : geo ta.k ta.n ta.hh ta.ff) (hhL : ∀ i, i < ta.n + 1 → ta.hh i ∈ ta.L) (ffL : ∀ i, i < ta.n + 1 → ta.ff i ∈ ta.L) {n9 : Nat} {vs : VS} {zs : MS} {lz : Nat → Nat} {f : Nat → Int64} {ls : Array Slot} {H : Heap} {locs : List Loc} (hinv : inv ta.k ta.n ta.hh lz n9 vs zs) (hn9 : n9 ≤ 511) (hi5 : 2 + 5 * n9 + 5 ≤ L) (hl : lv_has ls 8 [(0, .ref b), (1, .ref ta.qv), (2, .ref tb.qm), (3, .ref qo), (4, .int (nI (2 + 5 * n9)))]) (hP : va_P D cls (oC cJ qo f ++ (vX cI cZ cQ ta vs ++ mX cI cZ ta tb zs)) H) (hD : va_D A (oC cJ qo f ++ (vX cI cZ cQ ta vs ++ mX cI cZ ta tb zs))) (hS : va_S A s.heap H locs) (kk : ∀ (vs1 : VS) (zs1 : MS) (lz1 : Nat → Nat) (f1 : Nat → Int64) (ls : Array Slot) (H : Heap) (locs : List Loc), inv ta.k ta.n ta.hh lz1 (n9 + 1) vs1 zs1 → lv_has ls 8 [(0, .ref b), (1, .ref ta.qv), (2, .ref tb.qm), (3, .ref qo), (4, .int (nI (2 + 5 * n9)))] → va_P D cls (oC cJ qo f1 ++ (vX cI cZ cQ ta vs1 ++ mX cI cZ ta tb zs1)) H → va_D A (oC cJ qo f1 ++ (vX cI cZ cQ ta vs1 ++ mX cI cZ ta tb zs1)) → va_S A s.heap H locs → W p l e room_1 s m #[Value.ref b] below meth c H locs (100 + 16 * n9 + 12) (7000 + 120 * n9 + 100) Q (F0 m 1021 ls [])) : W p l e room_1 s m #[Value.ref b] below meth c H locs (100 + 16 * n9) (7000 + 120 * n9) Q (F0 m 257 ls []) := by
  refine lv_aload_n hx hb d_L_law_257 rfl (lv_at hl 1 rfl) ?_
  refine lv_aload_n hx hb d_L_law_258 rfl (lv_at hl 0 rfl) ?_
  refine lv_iload hx hb d_L_law_259 (lv_at hl 4 rfl) ?_
  refine lv_iconst (v := nI 1) hx hb d_L_law_261 (by decide) ?_
  refine lv_iadd hx hb d_L_law_262 ?_
  refine sd_top (y := nI (2 + 5 * n9 + 1)) (nI_add _ _) ?_
  refine sd_sld hx hb hXs hbl hbA hS (j := 2 + 5 * n9 + 1) (by omega) (by omega) d_L_law_263 ?_
  refine lv_aload_n hx hb d_L_law_264 rfl (lv_at hl 0 rfl) ?_
  refine lv_iload hx hb d_L_law_265 (lv_at hl 4 rfl) ?_
  refine lv_iconst (v := nI 2) hx hb d_L_law_267 (by decide) ?_
  refine lv_iadd hx hb d_L_law_268 ?_
  refine sd_top (y := nI (2 + 5 * n9 + 2)) (nI_add _ _) ?_
  refine sd_sld hx hb hXs hbl hbA hS (j := 2 + 5 * n9 + 2) (by omega) (by omega) d_L_law_269 ?_
  refine lv_i2l hx hb d_L_law_270 rfl ?_
  refine lv_bipush (v := (32 : Int32)) hx hb d_L_law_271 (by decide) ?_
  refine lv_lshl hx hb d_L_law_273 rfl ?_
  refine lv_aload_n hx hb d_L_law_274 rfl (lv_at hl 0 rfl) ?_
  refine lv_iload hx hb d_L_law_275 (lv_at hl 4 rfl) ?_
  refine lv_iconst (v := nI 3) hx hb d_L_law_277 (by decide) ?_
  refine lv_iadd hx hb d_L_law_278 ?_
  refine sd_top (y := nI (2 + 5 * n9 + 3)) (nI_add _ _) ?_
  refine sd_sld hx hb hXs hbl hbA hS (j := 2 + 5 * n9 + 3) (by omega) (by omega) d_L_law_279 ?_
  refine lv_i2l hx hb d_L_law_280 rfl ?_
  refine lv_ldc2 (v := 4294967295) hx hb hown (hts _ wq_L_75) d_L_law_281 ?_
  refine lv_land hx hb d_L_law_284 ?_
  refine lv_lor hx hb d_L_law_285 ?_
  refine lv_aload_n hx hb d_L_law_286 rfl (lv_at hl 0 rfl) ?_
  refine lv_iload hx hb d_L_law_287 (lv_at hl 4 rfl) ?_
  refine lv_iconst (v := nI 4) hx hb d_L_law_289 (by decide) ?_
  refine lv_iadd hx hb d_L_law_290 ?_
  refine sd_top (y := nI (2 + 5 * n9 + 4)) (nI_add _ _) ?_
  refine sd_sld hx hb hXs hbl hbA hS (j := 2 + 5 * n9 + 4) (by omega) (by omega) d_L_law_291 ?_
  refine lv_aload_n hx hb d_L_law_292 rfl (lv_at hl 3 rfl) ?_
  obtain ⟨zs1, r9, vs1, lz1, hM9, hi9, hV9⟩ := op_store (l := l) (D := D) (cI := cI) (cZ := cZ) (cQ := cQ) (b := tb) hst ga hhL ffL hinv (by omega) (xs (2 + 5 * n9 + 1)) ((((xs (2 + 5 * n9 + 2)).toInt64) <<< (((32 : Int32)).toInt64 &&& 63)) ||| (((xs (2 + 5 * n9 + 3)).toInt64) &&& (4294967295))) (xs (2 + 5 * n9 + 4))
  obtain ⟨f1, ⟨rl, hrl, hL9⟩, hout9⟩ := lo_store qo cJ f (xs (2 + 5 * n9 + 1)) ((((xs (2 + 5 * n9 + 2)).toInt64) <<< (((32 : Int32)).toInt64 &&& 63)) ||| (((xs (2 + 5 * n9 + 3)).toInt64) &&& (4294967295))) (xs (2 + 5 * n9 + 4)) hV9
  obtain ⟨hrl1, hrl2, hrl3, hrl4⟩ := hrl
  refine md_SH (X := []) (C := oC cJ qo f ++ vX cI cZ cQ ta vs) (C' := oC cJ qo f1 ++ vX cI cZ cQ ta vs1) (Z := mX cI cZ ta tb zs) (As := [.ref ta.qv, .int (xs (2 + 5 * n9 + 1)), .long ((((xs (2 + 5 * n9 + 2)).toInt64) <<< (((32 : Int32)).toInt64 &&& 63)) ||| (((xs (2 + 5 * n9 + 3)).toInt64) &&& (4294967295))), .int (xs (2 + 5 * n9 + 4)), .ref qo]) (rest := []) hL9 wc_L_store wm_L_88 wi_L ⟨by decide, by decide, show (parseMethodDescriptor y_L_store.desc).map (fun d => d.parameters.length) = some 5 by decide +kernel⟩ ws_L_store hx hb hml hown hts hl.1 ⟨by show rl.frames + 1 ≤ room_1.frames; have e9 : room_1.frames = 11 := rfl; omega, by show 8 + (7 + 11) + rl.locals ≤ room_1.locals; have e9 : room_1.locals = 398 := rfl; omega⟩ ⟨by show 100 + 16 * n9 + rl.cells ≤ room_1.cells; have e9 : room_1.cells = 601024 := rfl; omega, by show 7000 + 120 * n9 + rl.slots ≤ room_1.slots; have e9 : room_1.slots = 7293000 := rfl; omega⟩ hK hP hD hS hA hX hN (by rw [List.map_append, List.map_append, vX_adr _ _ _ _ vs vs1]; rfl) rfl (Nat.le_of_ble_eq_true rfl) d_L_law_293 (fun H locs hP hD hS => ?_)
  have hP : va_P D cls (oC cJ qo f1 ++ (vX cI cZ cQ ta vs1 ++ mX cI cZ ta tb zs)) H := hP
  have hD : va_D A (oC cJ qo f1 ++ (vX cI cZ cQ ta vs1 ++ mX cI cZ ta tb zs)) := hD
  refine lv_istore hx hb d_L_law_296 hl (Nat.le_of_ble_eq_true rfl) (lv' := [(5, .int (zs1.cd)), (0, .ref b), (1, .ref ta.qv), (2, .ref tb.qm), (3, .ref qo), (4, .int (nI (2 + 5 * n9)))]) rfl (fun ls hl => ?_)
  refine lv_aload_n hx hb d_L_law_298 rfl (lv_at hl 3 rfl) ?_
  refine lv_aload_n hx hb d_L_law_299 rfl (lv_at hl 1 rfl) ?_
  refine lv_iload hx hb d_L_law_300 (lv_at hl 5 rfl) ?_
  refine lv_iconst (v := nI 1) hx hb d_L_law_302 (by decide) ?_
  refine lv_iadd hx hb d_L_law_303 ?_
  refine sd_top (y := nI (2 + 5 * n9 + 1)) (nI_add _ _) ?_
  refine sd_sld hx hb hXs hbl hbA hS (j := 2 + 5 * n9 + 1) (by omega) (by omega) d_L_law_304 ?_
  refine lv_aload_n hx hb d_L_law_305 rfl (lv_at hl 1 rfl) ?_
  refine lv_iload hx hb d_L_law_306 (lv_at hl 5 rfl) ?_
  refine lv_iconst (v := nI 2) hx hb d_L_law_308 (by decide) ?_
  refine lv_iadd hx hb d_L_law_309 ?_
  refine sd_top (y := nI (2 + 5 * n9 + 2)) (nI_add _ _) ?_
  refine sd_sld hx hb hXs hbl hbA hS (j := 2 + 5 * n9 + 2) (by omega) (by omega) d_L_law_310 ?_
  refine lv_i2l hx hb d_L_law_311 rfl ?_
  refine lv_bipush (v := (32 : Int32)) hx hb d_L_law_312 (by decide) ?_
  refine lv_lshl hx hb d_L_law_314 rfl ?_
  refine lv_aload_n hx hb d_L_law_315 rfl (lv_at hl 1 rfl) ?_
  refine lv_iload hx hb d_L_law_316 (lv_at hl 5 rfl) ?_
  refine lv_iconst (v := nI 3) hx hb d_L_law_318 (by decide) ?_
  refine lv_iadd hx hb d_L_law_319 ?_
  refine sd_top (y := nI (2 + 5 * n9 + 3)) (nI_add _ _) ?_
  refine sd_sld hx hb hXs hbl hbA hS (j := 2 + 5 * n9 + 3) (by omega) (by omega) d_L_law_320 ?_
  refine lv_i2l hx hb d_L_law_321 rfl ?_
  refine lv_ldc2 (v := 4294967295) hx hb hown (hts _ wq_L_75) d_L_law_322 ?_
  refine lv_land hx hb d_L_law_325 ?_
  refine lv_lor hx hb d_L_law_326 ?_
  refine lv_aload_n hx hb d_L_law_327 rfl (lv_at hl 1 rfl) ?_
  refine lv_iload hx hb d_L_law_328 (lv_at hl 5 rfl) ?_
  refine lv_iconst (v := nI 4) hx hb d_L_law_330 (by decide) ?_
  refine lv_iadd hx hb d_L_law_331 ?_
  refine sd_top (y := nI (2 + 5 * n9 + 4)) (nI_add _ _) ?_
  refine sd_sld hx hb hXs hbl hbA hS (j := 2 + 5 * n9 + 4) (by omega) (by omega) d_L_law_332 ?_
  obtain ⟨rm9, hrm9, hM9⟩ := hM9
  obtain ⟨hrm91, hrm92, hrm93, hrm94⟩ := hrm9
  have hP : va_P D cls ((oC cJ qo f1 ++ vX cI cZ cQ ta vs1) ++ (mX cI cZ ta tb zs ++ [])) H := by rw [List.append_nil, List.append_assoc]; exact hP
  have hD : va_D A ((oC cJ qo f1 ++ vX cI cZ cQ ta vs1) ++ (mX cI cZ ta tb zs ++ [])) := by rw [List.append_nil, List.append_assoc]; exact hD
  refine md_VI (C := mX cI cZ ta tb zs) (C' := mX cI cZ ta tb zs1) (Z := []) (As := [.int (xs (2 + 5 * n9 + 1)), .long ((((xs (2 + 5 * n9 + 2)).toInt64) <<< (((32 : Int32)).toInt64 &&& 63)) ||| (((xs (2 + 5 * n9 + 3)).toInt64) &&& (4294967295))), .int (xs (2 + 5 * n9 + 4))]) (rest := []) hM9 ⟨wc_M_store, wm_L_91, wi_M, by decide, by decide, show (parseMethodDescriptor y_M_store.desc).map (fun d => d.parameters.length) = some 3 by decide +kernel⟩ wo_M_store wz_M_store hx hb hml hown hts hl.1 ⟨by show rm9.frames + 1 ≤ room_1.frames; have e9 : room_1.frames = 11 := rfl; omega, by show 8 + (7 + 11) + rm9.locals ≤ room_1.locals; have e9 : room_1.locals = 398 := rfl; omega⟩ ⟨by show 100 + 16 * n9 + rl.cells + rm9.cells ≤ room_1.cells; have e9 : room_1.cells = 601024 := rfl; omega, by show 7000 + 120 * n9 + rl.slots + rm9.slots ≤ room_1.slots; have e9 : room_1.slots = 7293000 := rfl; omega⟩ (ty_J hK) hP hD hS hA (mX_adr _ _ _ _ _ _) (q0 := 0) rfl rfl rfl (Nat.le_of_ble_eq_true rfl) d_L_law_333 (fun H locs hP hD hS => ?_)
  rw [List.append_nil, List.append_assoc] at hP hD
  have hP : va_P D cls (oC cJ qo f1 ++ (vX cI cZ cQ ta vs1 ++ mX cI cZ ta tb zs1)) H := hP
  have hD : va_D A (oC cJ qo f1 ++ (vX cI cZ cQ ta vs1 ++ mX cI cZ ta tb zs1)) := hD
  refine lv_istore hx hb d_L_law_336 hl (Nat.le_of_ble_eq_true rfl) (lv' := [(6, .int (r9)), (5, .int (zs1.cd)), (0, .ref b), (1, .ref ta.qv), (2, .ref tb.qm), (3, .ref qo), (4, .int (nI (2 + 5 * n9)))]) rfl (fun ls hl => ?_)
  refine lv_aload_n hx hb d_L_law_338 rfl (lv_at hl 4 rfl) ?_
  have hM8 := (c_M_thrown l D cI cZ cQ (tb.qm) (tb.mp) (tb.mt) (tb.ml) (tb.mc) (tb.mf) (tb.me) (tb.mg) (tb.mh) (tb.mu) (ta.k) (ta.n) (zs1.pn) (zs1.nx) (zs1.cd) (zs1.ep) (zs1.M) (zs1.wi) (zs1.jb) (zs1.fp) (zs1.tf) (zs1.tt) (zs1.fi) (zs1.ln) (zs1.bx) (zs1.pr) (zs1.tk) (zs1.le) (zs1.co) (zs1.fr) (zs1.em) (zs1.nb) (zs1.su) (by have := ga.kn; have := ga.n9; omega) (ga.n9))
  have hP : va_P D cls ((oC cJ qo f1 ++ vX cI cZ cQ ta vs1) ++ (mX cI cZ ta tb zs1 ++ [])) H := by rw [List.append_nil, List.append_assoc]; exact hP
  have hD : va_D A ((oC cJ qo f1 ++ vX cI cZ cQ ta vs1) ++ (mX cI cZ ta tb zs1 ++ [])) := by rw [List.append_nil, List.append_assoc]; exact hD
  refine md_VI (C := mX cI cZ ta tb zs1) (C' := mX cI cZ ta tb zs1) (Z := []) (As := []) (rest := []) hM8 ⟨wc_M_thrown, wm_L_81, wi_M, by decide, by decide, show (parseMethodDescriptor y_M_thrown.desc).map (fun d => d.parameters.length) = some 0 by decide +kernel⟩ wo_M_thrown wz_M_thrown hx hb hml hown hts hl.1 ⟨by show 0 + 1 ≤ room_1.frames; decide, by decide⟩ ⟨by show 100 + 16 * n9 + rl.cells + rm9.cells + 0 ≤ room_1.cells; have e9 : room_1.cells = 601024 := rfl; omega, by show 7000 + 120 * n9 + rl.slots + rm9.slots + 0 ≤ room_1.slots; have e9 : room_1.slots = 7293000 := rfl; omega⟩ (ty_J hK) hP hD hS hA (mX_adr _ _ _ _ _ _) (q0 := 0) rfl rfl rfl (Nat.le_of_ble_eq_true rfl) d_L_law_339 (fun H locs hP hD hS => ?_)
  rw [List.append_nil, List.append_assoc] at hP hD
  have hP : va_P D cls (oC cJ qo f1 ++ (vX cI cZ cQ ta vs1 ++ mX cI cZ ta tb zs1)) H := hP
  have hD : va_D A (oC cJ qo f1 ++ (vX cI cZ cQ ta vs1 ++ mX cI cZ ta tb zs1)) := hD
  refine lv_iload hx hb d_L_law_342 (lv_at hl 1 rfl) ?_
  refine lv_icmp_eq (tgt := 349) hx hb d_L_law_344 rfl (fun hc344 => ?_) (fun hc344 => ?_)
  · skip
    refine lv_iload hx hb d_L_law_349 (lv_at hl 1 rfl) ?_
    refine lv_if_ne (tgt := 366) hx hb d_L_law_351 rfl (fun hc351 => ?_) (fun hc351 => ?_)
    · skip
      refine lv_goto (tgt := 1021) hx hb d_L_law_366 rfl ?_
      have hl := lv_sub hl (l' := [(0, .ref b), (1, .ref ta.qv), (2, .ref tb.qm), (3, .ref qo), (4, .int (nI (2 + 5 * n9)))]) [2, 3, 4, 5, 6] rfl
      refine W.widen (k := 100 + 16 * n9 + 12) (n := 7000 + 120 * n9 + 100) (by first | omega | (dsimp only; omega)) (by first | omega | (dsimp only; omega)) ?_
      exact kk _ _ _ _ ls H locs hi9 hl hP hD hS
    · skip
      have hcd9 : zs1.cd = 0 := hc351
      refine lv_aload_n hx hb d_L_law_354 rfl (lv_at hl 5 rfl) ?_
      refine lv_iconst (v := 0) hx hb d_L_law_355 (by decide) ?_
      refine va_lald hx hb hK hP 0 3 rfl rfl (by unfold vp_in; decide) d_L_law_356 ?_
      refine sd_topl (y := f1 0) rfl ?_
      refine lv_iload hx hb d_L_law_357 (lv_at hl 0 rfl) ?_
      refine lv_i2l hx hb d_L_law_359 rfl ?_
      refine W.lcmp hx hb d_L_law_360 ?_
      refine lv_if_eq (tgt := 366) hx hb d_L_law_361 rfl (fun hc361 => ?_) (fun hc361 => ?_)
      · skip
        refine lv_goto (tgt := 1021) hx hb d_L_law_366 rfl ?_
        have hl := lv_sub hl (l' := [(0, .ref b), (1, .ref ta.qv), (2, .ref tb.qm), (3, .ref qo), (4, .int (nI (2 + 5 * n9)))]) [2, 3, 4, 5, 6] rfl
        refine W.widen (k := 100 + 16 * n9 + 12) (n := 7000 + 120 * n9 + 100) (by first | omega | (dsimp only; omega)) (by first | omega | (dsimp only; omega)) ?_
        exact kk _ _ _ _ ls H locs hi9 hl hP hD hS
      · skip
        exact absurd (by rw [hout9 hcd9]; exact lg_self _) hc361
  · skip
    exact absurd rfl hc344
set_option maxHeartbeats 8000000 in
set_option maxRecDepth 100000 in
theorem lc_refresh {p : Program} {l : Launch} {e : Env} {s : State} {m : MethodId} {below : List Frame} {meth : Method} {c : Code} {b L : Nat} {xs : Nat → Int32} {D : va_G} {cI cZ cQ cJ : ClassId} {ta : VA} {tb : MA} {qo : Nat} {A : Nat → Prop} {Q : State → Prop} (hst : l.stackTraces = false) (hx : p.tables.exec = Jvm.exec) (hb : c.code = b_L_law) (hml : c.maxLocals = 8) (hown : s.vm.findClass R_L = some m.cls) (hts : ∀ w ∈ bw, w.before #[Value.ref b] s = true) (hXs : va_X b L xs s s.heap) (hbl : b < s.heap.size) (hbA : ¬ A b) (hL : L ≤ 2562) (hK : va_K D cls (tyJ cI cZ cQ cJ) s) (hA : ∀ q : Nat, s.heap.size ≤ q → A q) (hX : xf A s s.heap) (hN : xN s) (ga : geo ta.k ta.n ta.hh ta.ff) (hhL : ∀ i, i < ta.n + 1 → ta.hh i ∈ ta.L) (ffL : ∀ i, i < ta.n + 1 → ta.ff i ∈ ta.L) {n9 : Nat} {vs : VS} {zs : MS} {lz : Nat → Nat} {f : Nat → Int64} {ls : Array Slot} {H : Heap} {locs : List Loc} (hinv : inv ta.k ta.n ta.hh lz n9 vs zs) (hn9 : n9 ≤ 511) (hi5 : 2 + 5 * n9 + 5 ≤ L) (hl : lv_has ls 8 [(0, .ref b), (1, .ref ta.qv), (2, .ref tb.qm), (3, .ref qo), (4, .int (nI (2 + 5 * n9)))]) (hP : va_P D cls (oC cJ qo f ++ (vX cI cZ cQ ta vs ++ mX cI cZ ta tb zs)) H) (hD : va_D A (oC cJ qo f ++ (vX cI cZ cQ ta vs ++ mX cI cZ ta tb zs))) (hS : va_S A s.heap H locs) (kk : ∀ (vs1 : VS) (zs1 : MS) (lz1 : Nat → Nat) (f1 : Nat → Int64) (ls : Array Slot) (H : Heap) (locs : List Loc), inv ta.k ta.n ta.hh lz1 (n9 + 1) vs1 zs1 → lv_has ls 8 [(0, .ref b), (1, .ref ta.qv), (2, .ref tb.qm), (3, .ref qo), (4, .int (nI (2 + 5 * n9)))] → va_P D cls (oC cJ qo f1 ++ (vX cI cZ cQ ta vs1 ++ mX cI cZ ta tb zs1)) H → va_D A (oC cJ qo f1 ++ (vX cI cZ cQ ta vs1 ++ mX cI cZ ta tb zs1)) → va_S A s.heap H locs → W p l e room_1 s m #[Value.ref b] below meth c H locs (100 + 16 * n9 + 12) (7000 + 120 * n9 + 100) Q (F0 m 1021 ls [])) : W p l e room_1 s m #[Value.ref b] below meth c H locs (100 + 16 * n9) (7000 + 120 * n9) Q (F0 m 369 ls []) := by
  refine lv_aload_n hx hb d_L_law_369 rfl (lv_at hl 1 rfl) ?_
  refine lv_aload_n hx hb d_L_law_370 rfl (lv_at hl 3 rfl) ?_
  obtain ⟨zs1, r9, vs1, lz1, hM9, hi9, hV9⟩ := op_refresh (l := l) (D := D) (cI := cI) (cZ := cZ) (cQ := cQ) (b := tb) hst ga hhL ffL hinv (by omega) 
  obtain ⟨f1, ⟨rl, hrl, hL9⟩, hout9⟩ := lo_refresh qo cJ f  hV9
  obtain ⟨hrl1, hrl2, hrl3, hrl4⟩ := hrl
  refine md_SH (X := []) (C := oC cJ qo f ++ vX cI cZ cQ ta vs) (C' := oC cJ qo f1 ++ vX cI cZ cQ ta vs1) (Z := mX cI cZ ta tb zs) (As := [.ref ta.qv, .ref qo]) (rest := []) hL9 wc_L_refresh wm_L_92 wi_L ⟨by decide, by decide, show (parseMethodDescriptor y_L_refresh.desc).map (fun d => d.parameters.length) = some 2 by decide +kernel⟩ ws_L_refresh hx hb hml hown hts hl.1 ⟨by show rl.frames + 1 ≤ room_1.frames; have e9 : room_1.frames = 11 := rfl; omega, by show 8 + (3 + 11) + rl.locals ≤ room_1.locals; have e9 : room_1.locals = 398 := rfl; omega⟩ ⟨by show 100 + 16 * n9 + rl.cells ≤ room_1.cells; have e9 : room_1.cells = 601024 := rfl; omega, by show 7000 + 120 * n9 + rl.slots ≤ room_1.slots; have e9 : room_1.slots = 7293000 := rfl; omega⟩ hK hP hD hS hA hX hN (by rw [List.map_append, List.map_append, vX_adr _ _ _ _ vs vs1]; rfl) rfl (Nat.le_of_ble_eq_true rfl) d_L_law_371 (fun H locs hP hD hS => ?_)
  have hP : va_P D cls (oC cJ qo f1 ++ (vX cI cZ cQ ta vs1 ++ mX cI cZ ta tb zs)) H := hP
  have hD : va_D A (oC cJ qo f1 ++ (vX cI cZ cQ ta vs1 ++ mX cI cZ ta tb zs)) := hD
  refine lv_istore hx hb d_L_law_374 hl (Nat.le_of_ble_eq_true rfl) (lv' := [(5, .int (zs1.cd)), (0, .ref b), (1, .ref ta.qv), (2, .ref tb.qm), (3, .ref qo), (4, .int (nI (2 + 5 * n9)))]) rfl (fun ls hl => ?_)
  refine lv_aload_n hx hb d_L_law_376 rfl (lv_at hl 3 rfl) ?_
  obtain ⟨rm9, hrm9, hM9⟩ := hM9
  obtain ⟨hrm91, hrm92, hrm93, hrm94⟩ := hrm9
  have hP : va_P D cls ((oC cJ qo f1 ++ vX cI cZ cQ ta vs1) ++ (mX cI cZ ta tb zs ++ [])) H := by rw [List.append_nil, List.append_assoc]; exact hP
  have hD : va_D A ((oC cJ qo f1 ++ vX cI cZ cQ ta vs1) ++ (mX cI cZ ta tb zs ++ [])) := by rw [List.append_nil, List.append_assoc]; exact hD
  refine md_VI (C := mX cI cZ ta tb zs) (C' := mX cI cZ ta tb zs1) (Z := []) (As := []) (rest := []) hM9 ⟨wc_M_refresh, wm_L_95, wi_M, by decide, by decide, show (parseMethodDescriptor y_M_refresh.desc).map (fun d => d.parameters.length) = some 0 by decide +kernel⟩ wo_M_refresh wz_M_refresh hx hb hml hown hts hl.1 ⟨by show rm9.frames + 1 ≤ room_1.frames; have e9 : room_1.frames = 11 := rfl; omega, by show 8 + (1 + 11) + rm9.locals ≤ room_1.locals; have e9 : room_1.locals = 398 := rfl; omega⟩ ⟨by show 100 + 16 * n9 + rl.cells + rm9.cells ≤ room_1.cells; have e9 : room_1.cells = 601024 := rfl; omega, by show 7000 + 120 * n9 + rl.slots + rm9.slots ≤ room_1.slots; have e9 : room_1.slots = 7293000 := rfl; omega⟩ (ty_J hK) hP hD hS hA (mX_adr _ _ _ _ _ _) (q0 := 0) rfl rfl rfl (Nat.le_of_ble_eq_true rfl) d_L_law_377 (fun H locs hP hD hS => ?_)
  rw [List.append_nil, List.append_assoc] at hP hD
  have hP : va_P D cls (oC cJ qo f1 ++ (vX cI cZ cQ ta vs1 ++ mX cI cZ ta tb zs1)) H := hP
  have hD : va_D A (oC cJ qo f1 ++ (vX cI cZ cQ ta vs1 ++ mX cI cZ ta tb zs1)) := hD
  refine lv_istore hx hb d_L_law_380 hl (Nat.le_of_ble_eq_true rfl) (lv' := [(6, .int (r9)), (5, .int (zs1.cd)), (0, .ref b), (1, .ref ta.qv), (2, .ref tb.qm), (3, .ref qo), (4, .int (nI (2 + 5 * n9)))]) rfl (fun ls hl => ?_)
  refine lv_aload_n hx hb d_L_law_382 rfl (lv_at hl 4 rfl) ?_
  have hM8 := (c_M_thrown l D cI cZ cQ (tb.qm) (tb.mp) (tb.mt) (tb.ml) (tb.mc) (tb.mf) (tb.me) (tb.mg) (tb.mh) (tb.mu) (ta.k) (ta.n) (zs1.pn) (zs1.nx) (zs1.cd) (zs1.ep) (zs1.M) (zs1.wi) (zs1.jb) (zs1.fp) (zs1.tf) (zs1.tt) (zs1.fi) (zs1.ln) (zs1.bx) (zs1.pr) (zs1.tk) (zs1.le) (zs1.co) (zs1.fr) (zs1.em) (zs1.nb) (zs1.su) (by have := ga.kn; have := ga.n9; omega) (ga.n9))
  have hP : va_P D cls ((oC cJ qo f1 ++ vX cI cZ cQ ta vs1) ++ (mX cI cZ ta tb zs1 ++ [])) H := by rw [List.append_nil, List.append_assoc]; exact hP
  have hD : va_D A ((oC cJ qo f1 ++ vX cI cZ cQ ta vs1) ++ (mX cI cZ ta tb zs1 ++ [])) := by rw [List.append_nil, List.append_assoc]; exact hD
  refine md_VI (C := mX cI cZ ta tb zs1) (C' := mX cI cZ ta tb zs1) (Z := []) (As := []) (rest := []) hM8 ⟨wc_M_thrown, wm_L_81, wi_M, by decide, by decide, show (parseMethodDescriptor y_M_thrown.desc).map (fun d => d.parameters.length) = some 0 by decide +kernel⟩ wo_M_thrown wz_M_thrown hx hb hml hown hts hl.1 ⟨by show 0 + 1 ≤ room_1.frames; decide, by decide⟩ ⟨by show 100 + 16 * n9 + rl.cells + rm9.cells + 0 ≤ room_1.cells; have e9 : room_1.cells = 601024 := rfl; omega, by show 7000 + 120 * n9 + rl.slots + rm9.slots + 0 ≤ room_1.slots; have e9 : room_1.slots = 7293000 := rfl; omega⟩ (ty_J hK) hP hD hS hA (mX_adr _ _ _ _ _ _) (q0 := 0) rfl rfl rfl (Nat.le_of_ble_eq_true rfl) d_L_law_383 (fun H locs hP hD hS => ?_)
  rw [List.append_nil, List.append_assoc] at hP hD
  have hP : va_P D cls (oC cJ qo f1 ++ (vX cI cZ cQ ta vs1 ++ mX cI cZ ta tb zs1)) H := hP
  have hD : va_D A (oC cJ qo f1 ++ (vX cI cZ cQ ta vs1 ++ mX cI cZ ta tb zs1)) := hD
  refine lv_iload hx hb d_L_law_386 (lv_at hl 1 rfl) ?_
  refine lv_icmp_eq (tgt := 393) hx hb d_L_law_388 rfl (fun hc388 => ?_) (fun hc388 => ?_)
  · skip
    refine lv_iload hx hb d_L_law_393 (lv_at hl 1 rfl) ?_
    refine lv_if_ne (tgt := 410) hx hb d_L_law_395 rfl (fun hc395 => ?_) (fun hc395 => ?_)
    · skip
      refine lv_goto (tgt := 1021) hx hb d_L_law_410 rfl ?_
      have hl := lv_sub hl (l' := [(0, .ref b), (1, .ref ta.qv), (2, .ref tb.qm), (3, .ref qo), (4, .int (nI (2 + 5 * n9)))]) [2, 3, 4, 5, 6] rfl
      refine W.widen (k := 100 + 16 * n9 + 12) (n := 7000 + 120 * n9 + 100) (by first | omega | (dsimp only; omega)) (by first | omega | (dsimp only; omega)) ?_
      exact kk _ _ _ _ ls H locs hi9 hl hP hD hS
    · skip
      have hcd9 : zs1.cd = 0 := hc395
      refine lv_aload_n hx hb d_L_law_398 rfl (lv_at hl 5 rfl) ?_
      refine lv_iconst (v := 0) hx hb d_L_law_399 (by decide) ?_
      refine va_lald hx hb hK hP 0 3 rfl rfl (by unfold vp_in; decide) d_L_law_400 ?_
      refine sd_topl (y := f1 0) rfl ?_
      refine lv_iload hx hb d_L_law_401 (lv_at hl 0 rfl) ?_
      refine lv_i2l hx hb d_L_law_403 rfl ?_
      refine W.lcmp hx hb d_L_law_404 ?_
      refine lv_if_eq (tgt := 410) hx hb d_L_law_405 rfl (fun hc405 => ?_) (fun hc405 => ?_)
      · skip
        refine lv_goto (tgt := 1021) hx hb d_L_law_410 rfl ?_
        have hl := lv_sub hl (l' := [(0, .ref b), (1, .ref ta.qv), (2, .ref tb.qm), (3, .ref qo), (4, .int (nI (2 + 5 * n9)))]) [2, 3, 4, 5, 6] rfl
        refine W.widen (k := 100 + 16 * n9 + 12) (n := 7000 + 120 * n9 + 100) (by first | omega | (dsimp only; omega)) (by first | omega | (dsimp only; omega)) ?_
        exact kk _ _ _ _ ls H locs hi9 hl hP hD hS
      · skip
        exact absurd (by rw [hout9 hcd9]; exact lg_self _) hc405
  · skip
    exact absurd rfl hc388
set_option maxHeartbeats 8000000 in
set_option maxRecDepth 100000 in
theorem lc_empty {p : Program} {l : Launch} {e : Env} {s : State} {m : MethodId} {below : List Frame} {meth : Method} {c : Code} {b L : Nat} {xs : Nat → Int32} {D : va_G} {cI cZ cQ cJ : ClassId} {ta : VA} {tb : MA} {qo : Nat} {A : Nat → Prop} {Q : State → Prop} (hst : l.stackTraces = false) (hx : p.tables.exec = Jvm.exec) (hb : c.code = b_L_law) (hml : c.maxLocals = 8) (hown : s.vm.findClass R_L = some m.cls) (hts : ∀ w ∈ bw, w.before #[Value.ref b] s = true) (hXs : va_X b L xs s s.heap) (hbl : b < s.heap.size) (hbA : ¬ A b) (hL : L ≤ 2562) (hK : va_K D cls (tyJ cI cZ cQ cJ) s) (hA : ∀ q : Nat, s.heap.size ≤ q → A q) (hX : xf A s s.heap) (hN : xN s) (ga : geo ta.k ta.n ta.hh ta.ff) (hhL : ∀ i, i < ta.n + 1 → ta.hh i ∈ ta.L) (ffL : ∀ i, i < ta.n + 1 → ta.ff i ∈ ta.L) {n9 : Nat} {vs : VS} {zs : MS} {lz : Nat → Nat} {f : Nat → Int64} {ls : Array Slot} {H : Heap} {locs : List Loc} (hinv : inv ta.k ta.n ta.hh lz n9 vs zs) (hn9 : n9 ≤ 511) (hi5 : 2 + 5 * n9 + 5 ≤ L) (hl : lv_has ls 8 [(0, .ref b), (1, .ref ta.qv), (2, .ref tb.qm), (3, .ref qo), (4, .int (nI (2 + 5 * n9)))]) (hP : va_P D cls (oC cJ qo f ++ (vX cI cZ cQ ta vs ++ mX cI cZ ta tb zs)) H) (hD : va_D A (oC cJ qo f ++ (vX cI cZ cQ ta vs ++ mX cI cZ ta tb zs))) (hS : va_S A s.heap H locs) (kk : ∀ (vs1 : VS) (zs1 : MS) (lz1 : Nat → Nat) (f1 : Nat → Int64) (ls : Array Slot) (H : Heap) (locs : List Loc), inv ta.k ta.n ta.hh lz1 (n9 + 1) vs1 zs1 → lv_has ls 8 [(0, .ref b), (1, .ref ta.qv), (2, .ref tb.qm), (3, .ref qo), (4, .int (nI (2 + 5 * n9)))] → va_P D cls (oC cJ qo f1 ++ (vX cI cZ cQ ta vs1 ++ mX cI cZ ta tb zs1)) H → va_D A (oC cJ qo f1 ++ (vX cI cZ cQ ta vs1 ++ mX cI cZ ta tb zs1)) → va_S A s.heap H locs → W p l e room_1 s m #[Value.ref b] below meth c H locs (100 + 16 * n9 + 12) (7000 + 120 * n9 + 100) Q (F0 m 1021 ls [])) : W p l e room_1 s m #[Value.ref b] below meth c H locs (100 + 16 * n9) (7000 + 120 * n9) Q (F0 m 413 ls []) := by
  refine lv_aload_n hx hb d_L_law_413 rfl (lv_at hl 1 rfl) ?_
  refine lv_aload_n hx hb d_L_law_414 rfl (lv_at hl 0 rfl) ?_
  refine lv_iload hx hb d_L_law_415 (lv_at hl 4 rfl) ?_
  refine lv_iconst (v := nI 1) hx hb d_L_law_417 (by decide) ?_
  refine lv_iadd hx hb d_L_law_418 ?_
  refine sd_top (y := nI (2 + 5 * n9 + 1)) (nI_add _ _) ?_
  refine sd_sld hx hb hXs hbl hbA hS (j := 2 + 5 * n9 + 1) (by omega) (by omega) d_L_law_419 ?_
  refine lv_aload_n hx hb d_L_law_420 rfl (lv_at hl 3 rfl) ?_
  obtain ⟨zs1, r9, vs1, lz1, hM9, hi9, hV9⟩ := op_empty (l := l) (D := D) (cI := cI) (cZ := cZ) (cQ := cQ) (b := tb) hst ga hhL ffL hinv (by omega) (xs (2 + 5 * n9 + 1))
  obtain ⟨f1, ⟨rl, hrl, hL9⟩, hout9⟩ := lo_empty qo cJ f (xs (2 + 5 * n9 + 1)) hV9
  obtain ⟨hrl1, hrl2, hrl3, hrl4⟩ := hrl
  refine md_SH (X := []) (C := oC cJ qo f ++ vX cI cZ cQ ta vs) (C' := oC cJ qo f1 ++ vX cI cZ cQ ta vs1) (Z := mX cI cZ ta tb zs) (As := [.ref ta.qv, .int (xs (2 + 5 * n9 + 1)), .ref qo]) (rest := []) hL9 wc_L_empty wm_L_96 wi_L ⟨by decide, by decide, show (parseMethodDescriptor y_L_empty.desc).map (fun d => d.parameters.length) = some 3 by decide +kernel⟩ ws_L_empty hx hb hml hown hts hl.1 ⟨by show rl.frames + 1 ≤ room_1.frames; have e9 : room_1.frames = 11 := rfl; omega, by show 8 + (4 + 11) + rl.locals ≤ room_1.locals; have e9 : room_1.locals = 398 := rfl; omega⟩ ⟨by show 100 + 16 * n9 + rl.cells ≤ room_1.cells; have e9 : room_1.cells = 601024 := rfl; omega, by show 7000 + 120 * n9 + rl.slots ≤ room_1.slots; have e9 : room_1.slots = 7293000 := rfl; omega⟩ hK hP hD hS hA hX hN (by rw [List.map_append, List.map_append, vX_adr _ _ _ _ vs vs1]; rfl) rfl (Nat.le_of_ble_eq_true rfl) d_L_law_421 (fun H locs hP hD hS => ?_)
  have hP : va_P D cls (oC cJ qo f1 ++ (vX cI cZ cQ ta vs1 ++ mX cI cZ ta tb zs)) H := hP
  have hD : va_D A (oC cJ qo f1 ++ (vX cI cZ cQ ta vs1 ++ mX cI cZ ta tb zs)) := hD
  refine lv_istore hx hb d_L_law_424 hl (Nat.le_of_ble_eq_true rfl) (lv' := [(5, .int (zs1.cd)), (0, .ref b), (1, .ref ta.qv), (2, .ref tb.qm), (3, .ref qo), (4, .int (nI (2 + 5 * n9)))]) rfl (fun ls hl => ?_)
  refine lv_aload_n hx hb d_L_law_426 rfl (lv_at hl 3 rfl) ?_
  refine lv_aload_n hx hb d_L_law_427 rfl (lv_at hl 1 rfl) ?_
  refine lv_iload hx hb d_L_law_428 (lv_at hl 5 rfl) ?_
  refine lv_iconst (v := nI 1) hx hb d_L_law_430 (by decide) ?_
  refine lv_iadd hx hb d_L_law_431 ?_
  refine sd_top (y := nI (2 + 5 * n9 + 1)) (nI_add _ _) ?_
  refine sd_sld hx hb hXs hbl hbA hS (j := 2 + 5 * n9 + 1) (by omega) (by omega) d_L_law_432 ?_
  obtain ⟨rm9, hrm9, hM9⟩ := hM9
  obtain ⟨hrm91, hrm92, hrm93, hrm94⟩ := hrm9
  have hP : va_P D cls ((oC cJ qo f1 ++ vX cI cZ cQ ta vs1) ++ (mX cI cZ ta tb zs ++ [])) H := by rw [List.append_nil, List.append_assoc]; exact hP
  have hD : va_D A ((oC cJ qo f1 ++ vX cI cZ cQ ta vs1) ++ (mX cI cZ ta tb zs ++ [])) := by rw [List.append_nil, List.append_assoc]; exact hD
  refine md_VI (C := mX cI cZ ta tb zs) (C' := mX cI cZ ta tb zs1) (Z := []) (As := [.int (xs (2 + 5 * n9 + 1))]) (rest := []) hM9 ⟨wc_M_empty, wm_L_99, wi_M, by decide, by decide, show (parseMethodDescriptor y_M_empty.desc).map (fun d => d.parameters.length) = some 1 by decide +kernel⟩ wo_M_empty wz_M_empty hx hb hml hown hts hl.1 ⟨by show rm9.frames + 1 ≤ room_1.frames; have e9 : room_1.frames = 11 := rfl; omega, by show 8 + (2 + 11) + rm9.locals ≤ room_1.locals; have e9 : room_1.locals = 398 := rfl; omega⟩ ⟨by show 100 + 16 * n9 + rl.cells + rm9.cells ≤ room_1.cells; have e9 : room_1.cells = 601024 := rfl; omega, by show 7000 + 120 * n9 + rl.slots + rm9.slots ≤ room_1.slots; have e9 : room_1.slots = 7293000 := rfl; omega⟩ (ty_J hK) hP hD hS hA (mX_adr _ _ _ _ _ _) (q0 := 0) rfl rfl rfl (Nat.le_of_ble_eq_true rfl) d_L_law_433 (fun H locs hP hD hS => ?_)
  rw [List.append_nil, List.append_assoc] at hP hD
  have hP : va_P D cls (oC cJ qo f1 ++ (vX cI cZ cQ ta vs1 ++ mX cI cZ ta tb zs1)) H := hP
  have hD : va_D A (oC cJ qo f1 ++ (vX cI cZ cQ ta vs1 ++ mX cI cZ ta tb zs1)) := hD
  refine lv_istore hx hb d_L_law_436 hl (Nat.le_of_ble_eq_true rfl) (lv' := [(6, .int (r9)), (5, .int (zs1.cd)), (0, .ref b), (1, .ref ta.qv), (2, .ref tb.qm), (3, .ref qo), (4, .int (nI (2 + 5 * n9)))]) rfl (fun ls hl => ?_)
  refine lv_aload_n hx hb d_L_law_438 rfl (lv_at hl 4 rfl) ?_
  have hM8 := (c_M_thrown l D cI cZ cQ (tb.qm) (tb.mp) (tb.mt) (tb.ml) (tb.mc) (tb.mf) (tb.me) (tb.mg) (tb.mh) (tb.mu) (ta.k) (ta.n) (zs1.pn) (zs1.nx) (zs1.cd) (zs1.ep) (zs1.M) (zs1.wi) (zs1.jb) (zs1.fp) (zs1.tf) (zs1.tt) (zs1.fi) (zs1.ln) (zs1.bx) (zs1.pr) (zs1.tk) (zs1.le) (zs1.co) (zs1.fr) (zs1.em) (zs1.nb) (zs1.su) (by have := ga.kn; have := ga.n9; omega) (ga.n9))
  have hP : va_P D cls ((oC cJ qo f1 ++ vX cI cZ cQ ta vs1) ++ (mX cI cZ ta tb zs1 ++ [])) H := by rw [List.append_nil, List.append_assoc]; exact hP
  have hD : va_D A ((oC cJ qo f1 ++ vX cI cZ cQ ta vs1) ++ (mX cI cZ ta tb zs1 ++ [])) := by rw [List.append_nil, List.append_assoc]; exact hD
  refine md_VI (C := mX cI cZ ta tb zs1) (C' := mX cI cZ ta tb zs1) (Z := []) (As := []) (rest := []) hM8 ⟨wc_M_thrown, wm_L_81, wi_M, by decide, by decide, show (parseMethodDescriptor y_M_thrown.desc).map (fun d => d.parameters.length) = some 0 by decide +kernel⟩ wo_M_thrown wz_M_thrown hx hb hml hown hts hl.1 ⟨by show 0 + 1 ≤ room_1.frames; decide, by decide⟩ ⟨by show 100 + 16 * n9 + rl.cells + rm9.cells + 0 ≤ room_1.cells; have e9 : room_1.cells = 601024 := rfl; omega, by show 7000 + 120 * n9 + rl.slots + rm9.slots + 0 ≤ room_1.slots; have e9 : room_1.slots = 7293000 := rfl; omega⟩ (ty_J hK) hP hD hS hA (mX_adr _ _ _ _ _ _) (q0 := 0) rfl rfl rfl (Nat.le_of_ble_eq_true rfl) d_L_law_439 (fun H locs hP hD hS => ?_)
  rw [List.append_nil, List.append_assoc] at hP hD
  have hP : va_P D cls (oC cJ qo f1 ++ (vX cI cZ cQ ta vs1 ++ mX cI cZ ta tb zs1)) H := hP
  have hD : va_D A (oC cJ qo f1 ++ (vX cI cZ cQ ta vs1 ++ mX cI cZ ta tb zs1)) := hD
  refine lv_iload hx hb d_L_law_442 (lv_at hl 1 rfl) ?_
  refine lv_icmp_eq (tgt := 449) hx hb d_L_law_444 rfl (fun hc444 => ?_) (fun hc444 => ?_)
  · skip
    refine lv_iload hx hb d_L_law_449 (lv_at hl 1 rfl) ?_
    refine lv_if_ne (tgt := 466) hx hb d_L_law_451 rfl (fun hc451 => ?_) (fun hc451 => ?_)
    · skip
      refine lv_goto (tgt := 1021) hx hb d_L_law_466 rfl ?_
      have hl := lv_sub hl (l' := [(0, .ref b), (1, .ref ta.qv), (2, .ref tb.qm), (3, .ref qo), (4, .int (nI (2 + 5 * n9)))]) [2, 3, 4, 5, 6] rfl
      refine W.widen (k := 100 + 16 * n9 + 12) (n := 7000 + 120 * n9 + 100) (by first | omega | (dsimp only; omega)) (by first | omega | (dsimp only; omega)) ?_
      exact kk _ _ _ _ ls H locs hi9 hl hP hD hS
    · skip
      have hcd9 : zs1.cd = 0 := hc451
      refine lv_aload_n hx hb d_L_law_454 rfl (lv_at hl 5 rfl) ?_
      refine lv_iconst (v := 0) hx hb d_L_law_455 (by decide) ?_
      refine va_lald hx hb hK hP 0 3 rfl rfl (by unfold vp_in; decide) d_L_law_456 ?_
      refine sd_topl (y := f1 0) rfl ?_
      refine lv_iload hx hb d_L_law_457 (lv_at hl 0 rfl) ?_
      refine lv_i2l hx hb d_L_law_459 rfl ?_
      refine W.lcmp hx hb d_L_law_460 ?_
      refine lv_if_eq (tgt := 466) hx hb d_L_law_461 rfl (fun hc461 => ?_) (fun hc461 => ?_)
      · skip
        refine lv_goto (tgt := 1021) hx hb d_L_law_466 rfl ?_
        have hl := lv_sub hl (l' := [(0, .ref b), (1, .ref ta.qv), (2, .ref tb.qm), (3, .ref qo), (4, .int (nI (2 + 5 * n9)))]) [2, 3, 4, 5, 6] rfl
        refine W.widen (k := 100 + 16 * n9 + 12) (n := 7000 + 120 * n9 + 100) (by first | omega | (dsimp only; omega)) (by first | omega | (dsimp only; omega)) ?_
        exact kk _ _ _ _ ls H locs hi9 hl hP hD hS
      · skip
        exact absurd (by rw [hout9 hcd9]; exact lg_self _) hc461
  · skip
    exact absurd rfl hc444
set_option maxHeartbeats 8000000 in
set_option maxRecDepth 100000 in
theorem lc_rebuild {p : Program} {l : Launch} {e : Env} {s : State} {m : MethodId} {below : List Frame} {meth : Method} {c : Code} {b L : Nat} {xs : Nat → Int32} {D : va_G} {cI cZ cQ cJ : ClassId} {ta : VA} {tb : MA} {qo : Nat} {A : Nat → Prop} {Q : State → Prop} (hst : l.stackTraces = false) (hx : p.tables.exec = Jvm.exec) (hb : c.code = b_L_law) (hml : c.maxLocals = 8) (hown : s.vm.findClass R_L = some m.cls) (hts : ∀ w ∈ bw, w.before #[Value.ref b] s = true) (hXs : va_X b L xs s s.heap) (hbl : b < s.heap.size) (hbA : ¬ A b) (hL : L ≤ 2562) (hK : va_K D cls (tyJ cI cZ cQ cJ) s) (hA : ∀ q : Nat, s.heap.size ≤ q → A q) (hX : xf A s s.heap) (hN : xN s) (ga : geo ta.k ta.n ta.hh ta.ff) (hhL : ∀ i, i < ta.n + 1 → ta.hh i ∈ ta.L) (ffL : ∀ i, i < ta.n + 1 → ta.ff i ∈ ta.L) {n9 : Nat} {vs : VS} {zs : MS} {lz : Nat → Nat} {f : Nat → Int64} {ls : Array Slot} {H : Heap} {locs : List Loc} (hinv : inv ta.k ta.n ta.hh lz n9 vs zs) (hn9 : n9 ≤ 511) (hi5 : 2 + 5 * n9 + 5 ≤ L) (hl : lv_has ls 8 [(0, .ref b), (1, .ref ta.qv), (2, .ref tb.qm), (3, .ref qo), (4, .int (nI (2 + 5 * n9)))]) (hP : va_P D cls (oC cJ qo f ++ (vX cI cZ cQ ta vs ++ mX cI cZ ta tb zs)) H) (hD : va_D A (oC cJ qo f ++ (vX cI cZ cQ ta vs ++ mX cI cZ ta tb zs))) (hS : va_S A s.heap H locs) (kk : ∀ (vs1 : VS) (zs1 : MS) (lz1 : Nat → Nat) (f1 : Nat → Int64) (ls : Array Slot) (H : Heap) (locs : List Loc), inv ta.k ta.n ta.hh lz1 (n9 + 1) vs1 zs1 → lv_has ls 8 [(0, .ref b), (1, .ref ta.qv), (2, .ref tb.qm), (3, .ref qo), (4, .int (nI (2 + 5 * n9)))] → va_P D cls (oC cJ qo f1 ++ (vX cI cZ cQ ta vs1 ++ mX cI cZ ta tb zs1)) H → va_D A (oC cJ qo f1 ++ (vX cI cZ cQ ta vs1 ++ mX cI cZ ta tb zs1)) → va_S A s.heap H locs → W p l e room_1 s m #[Value.ref b] below meth c H locs (100 + 16 * n9 + 12) (7000 + 120 * n9 + 100) Q (F0 m 1021 ls [])) : W p l e room_1 s m #[Value.ref b] below meth c H locs (100 + 16 * n9) (7000 + 120 * n9) Q (F0 m 469 ls []) := by
  refine lv_aload_n hx hb d_L_law_469 rfl (lv_at hl 1 rfl) ?_
  refine lv_aload_n hx hb d_L_law_470 rfl (lv_at hl 0 rfl) ?_
  refine lv_iload hx hb d_L_law_471 (lv_at hl 4 rfl) ?_
  refine lv_iconst (v := nI 1) hx hb d_L_law_473 (by decide) ?_
  refine lv_iadd hx hb d_L_law_474 ?_
  refine sd_top (y := nI (2 + 5 * n9 + 1)) (nI_add _ _) ?_
  refine sd_sld hx hb hXs hbl hbA hS (j := 2 + 5 * n9 + 1) (by omega) (by omega) d_L_law_475 ?_
  refine lv_aload_n hx hb d_L_law_476 rfl (lv_at hl 0 rfl) ?_
  refine lv_iload hx hb d_L_law_477 (lv_at hl 4 rfl) ?_
  refine lv_iconst (v := nI 2) hx hb d_L_law_479 (by decide) ?_
  refine lv_iadd hx hb d_L_law_480 ?_
  refine sd_top (y := nI (2 + 5 * n9 + 2)) (nI_add _ _) ?_
  refine sd_sld hx hb hXs hbl hbA hS (j := 2 + 5 * n9 + 2) (by omega) (by omega) d_L_law_481 ?_
  refine lv_aload_n hx hb d_L_law_482 rfl (lv_at hl 3 rfl) ?_
  obtain ⟨zs1, r9, vs1, lz1, hM9, hi9, hV9⟩ := op_rebuild (l := l) (D := D) (cI := cI) (cZ := cZ) (cQ := cQ) (b := tb) hst ga hhL ffL hinv (by omega) (xs (2 + 5 * n9 + 1)) (xs (2 + 5 * n9 + 2))
  obtain ⟨f1, ⟨rl, hrl, hL9⟩, hout9⟩ := lo_rebuild qo cJ f (xs (2 + 5 * n9 + 1)) (xs (2 + 5 * n9 + 2)) hV9
  obtain ⟨hrl1, hrl2, hrl3, hrl4⟩ := hrl
  refine md_SH (X := []) (C := oC cJ qo f ++ vX cI cZ cQ ta vs) (C' := oC cJ qo f1 ++ vX cI cZ cQ ta vs1) (Z := mX cI cZ ta tb zs) (As := [.ref ta.qv, .int (xs (2 + 5 * n9 + 1)), .int (xs (2 + 5 * n9 + 2)), .ref qo]) (rest := []) hL9 wc_L_rebuild wm_L_100 wi_L ⟨by decide, by decide, show (parseMethodDescriptor y_L_rebuild.desc).map (fun d => d.parameters.length) = some 4 by decide +kernel⟩ ws_L_rebuild hx hb hml hown hts hl.1 ⟨by show rl.frames + 1 ≤ room_1.frames; have e9 : room_1.frames = 11 := rfl; omega, by show 8 + (5 + 11) + rl.locals ≤ room_1.locals; have e9 : room_1.locals = 398 := rfl; omega⟩ ⟨by show 100 + 16 * n9 + rl.cells ≤ room_1.cells; have e9 : room_1.cells = 601024 := rfl; omega, by show 7000 + 120 * n9 + rl.slots ≤ room_1.slots; have e9 : room_1.slots = 7293000 := rfl; omega⟩ hK hP hD hS hA hX hN (by rw [List.map_append, List.map_append, vX_adr _ _ _ _ vs vs1]; rfl) rfl (Nat.le_of_ble_eq_true rfl) d_L_law_483 (fun H locs hP hD hS => ?_)
  have hP : va_P D cls (oC cJ qo f1 ++ (vX cI cZ cQ ta vs1 ++ mX cI cZ ta tb zs)) H := hP
  have hD : va_D A (oC cJ qo f1 ++ (vX cI cZ cQ ta vs1 ++ mX cI cZ ta tb zs)) := hD
  refine lv_istore hx hb d_L_law_486 hl (Nat.le_of_ble_eq_true rfl) (lv' := [(5, .int (zs1.cd)), (0, .ref b), (1, .ref ta.qv), (2, .ref tb.qm), (3, .ref qo), (4, .int (nI (2 + 5 * n9)))]) rfl (fun ls hl => ?_)
  refine lv_aload_n hx hb d_L_law_488 rfl (lv_at hl 3 rfl) ?_
  refine lv_aload_n hx hb d_L_law_489 rfl (lv_at hl 1 rfl) ?_
  refine lv_iload hx hb d_L_law_490 (lv_at hl 5 rfl) ?_
  refine lv_iconst (v := nI 1) hx hb d_L_law_492 (by decide) ?_
  refine lv_iadd hx hb d_L_law_493 ?_
  refine sd_top (y := nI (2 + 5 * n9 + 1)) (nI_add _ _) ?_
  refine sd_sld hx hb hXs hbl hbA hS (j := 2 + 5 * n9 + 1) (by omega) (by omega) d_L_law_494 ?_
  refine lv_aload_n hx hb d_L_law_495 rfl (lv_at hl 1 rfl) ?_
  refine lv_iload hx hb d_L_law_496 (lv_at hl 5 rfl) ?_
  refine lv_iconst (v := nI 2) hx hb d_L_law_498 (by decide) ?_
  refine lv_iadd hx hb d_L_law_499 ?_
  refine sd_top (y := nI (2 + 5 * n9 + 2)) (nI_add _ _) ?_
  refine sd_sld hx hb hXs hbl hbA hS (j := 2 + 5 * n9 + 2) (by omega) (by omega) d_L_law_500 ?_
  obtain ⟨rm9, hrm9, hM9⟩ := hM9
  obtain ⟨hrm91, hrm92, hrm93, hrm94⟩ := hrm9
  have hP : va_P D cls ((oC cJ qo f1 ++ vX cI cZ cQ ta vs1) ++ (mX cI cZ ta tb zs ++ [])) H := by rw [List.append_nil, List.append_assoc]; exact hP
  have hD : va_D A ((oC cJ qo f1 ++ vX cI cZ cQ ta vs1) ++ (mX cI cZ ta tb zs ++ [])) := by rw [List.append_nil, List.append_assoc]; exact hD
  refine md_VI (C := mX cI cZ ta tb zs) (C' := mX cI cZ ta tb zs1) (Z := []) (As := [.int (xs (2 + 5 * n9 + 1)), .int (xs (2 + 5 * n9 + 2))]) (rest := []) hM9 ⟨wc_M_rebuild, wm_L_103, wi_M, by decide, by decide, show (parseMethodDescriptor y_M_rebuild.desc).map (fun d => d.parameters.length) = some 2 by decide +kernel⟩ wo_M_rebuild wz_M_rebuild hx hb hml hown hts hl.1 ⟨by show rm9.frames + 1 ≤ room_1.frames; have e9 : room_1.frames = 11 := rfl; omega, by show 8 + (5 + 11) + rm9.locals ≤ room_1.locals; have e9 : room_1.locals = 398 := rfl; omega⟩ ⟨by show 100 + 16 * n9 + rl.cells + rm9.cells ≤ room_1.cells; have e9 : room_1.cells = 601024 := rfl; omega, by show 7000 + 120 * n9 + rl.slots + rm9.slots ≤ room_1.slots; have e9 : room_1.slots = 7293000 := rfl; omega⟩ (ty_J hK) hP hD hS hA (mX_adr _ _ _ _ _ _) (q0 := 0) rfl rfl rfl (Nat.le_of_ble_eq_true rfl) d_L_law_501 (fun H locs hP hD hS => ?_)
  rw [List.append_nil, List.append_assoc] at hP hD
  have hP : va_P D cls (oC cJ qo f1 ++ (vX cI cZ cQ ta vs1 ++ mX cI cZ ta tb zs1)) H := hP
  have hD : va_D A (oC cJ qo f1 ++ (vX cI cZ cQ ta vs1 ++ mX cI cZ ta tb zs1)) := hD
  refine lv_istore hx hb d_L_law_504 hl (Nat.le_of_ble_eq_true rfl) (lv' := [(6, .int (r9)), (5, .int (zs1.cd)), (0, .ref b), (1, .ref ta.qv), (2, .ref tb.qm), (3, .ref qo), (4, .int (nI (2 + 5 * n9)))]) rfl (fun ls hl => ?_)
  refine lv_aload_n hx hb d_L_law_506 rfl (lv_at hl 4 rfl) ?_
  have hM8 := (c_M_thrown l D cI cZ cQ (tb.qm) (tb.mp) (tb.mt) (tb.ml) (tb.mc) (tb.mf) (tb.me) (tb.mg) (tb.mh) (tb.mu) (ta.k) (ta.n) (zs1.pn) (zs1.nx) (zs1.cd) (zs1.ep) (zs1.M) (zs1.wi) (zs1.jb) (zs1.fp) (zs1.tf) (zs1.tt) (zs1.fi) (zs1.ln) (zs1.bx) (zs1.pr) (zs1.tk) (zs1.le) (zs1.co) (zs1.fr) (zs1.em) (zs1.nb) (zs1.su) (by have := ga.kn; have := ga.n9; omega) (ga.n9))
  have hP : va_P D cls ((oC cJ qo f1 ++ vX cI cZ cQ ta vs1) ++ (mX cI cZ ta tb zs1 ++ [])) H := by rw [List.append_nil, List.append_assoc]; exact hP
  have hD : va_D A ((oC cJ qo f1 ++ vX cI cZ cQ ta vs1) ++ (mX cI cZ ta tb zs1 ++ [])) := by rw [List.append_nil, List.append_assoc]; exact hD
  refine md_VI (C := mX cI cZ ta tb zs1) (C' := mX cI cZ ta tb zs1) (Z := []) (As := []) (rest := []) hM8 ⟨wc_M_thrown, wm_L_81, wi_M, by decide, by decide, show (parseMethodDescriptor y_M_thrown.desc).map (fun d => d.parameters.length) = some 0 by decide +kernel⟩ wo_M_thrown wz_M_thrown hx hb hml hown hts hl.1 ⟨by show 0 + 1 ≤ room_1.frames; decide, by decide⟩ ⟨by show 100 + 16 * n9 + rl.cells + rm9.cells + 0 ≤ room_1.cells; have e9 : room_1.cells = 601024 := rfl; omega, by show 7000 + 120 * n9 + rl.slots + rm9.slots + 0 ≤ room_1.slots; have e9 : room_1.slots = 7293000 := rfl; omega⟩ (ty_J hK) hP hD hS hA (mX_adr _ _ _ _ _ _) (q0 := 0) rfl rfl rfl (Nat.le_of_ble_eq_true rfl) d_L_law_507 (fun H locs hP hD hS => ?_)
  rw [List.append_nil, List.append_assoc] at hP hD
  have hP : va_P D cls (oC cJ qo f1 ++ (vX cI cZ cQ ta vs1 ++ mX cI cZ ta tb zs1)) H := hP
  have hD : va_D A (oC cJ qo f1 ++ (vX cI cZ cQ ta vs1 ++ mX cI cZ ta tb zs1)) := hD
  refine lv_iload hx hb d_L_law_510 (lv_at hl 1 rfl) ?_
  refine lv_icmp_eq (tgt := 517) hx hb d_L_law_512 rfl (fun hc512 => ?_) (fun hc512 => ?_)
  · skip
    refine lv_iload hx hb d_L_law_517 (lv_at hl 1 rfl) ?_
    refine lv_if_ne (tgt := 534) hx hb d_L_law_519 rfl (fun hc519 => ?_) (fun hc519 => ?_)
    · skip
      refine lv_goto (tgt := 1021) hx hb d_L_law_534 rfl ?_
      have hl := lv_sub hl (l' := [(0, .ref b), (1, .ref ta.qv), (2, .ref tb.qm), (3, .ref qo), (4, .int (nI (2 + 5 * n9)))]) [2, 3, 4, 5, 6] rfl
      refine W.widen (k := 100 + 16 * n9 + 12) (n := 7000 + 120 * n9 + 100) (by first | omega | (dsimp only; omega)) (by first | omega | (dsimp only; omega)) ?_
      exact kk _ _ _ _ ls H locs hi9 hl hP hD hS
    · skip
      have hcd9 : zs1.cd = 0 := hc519
      refine lv_aload_n hx hb d_L_law_522 rfl (lv_at hl 5 rfl) ?_
      refine lv_iconst (v := 0) hx hb d_L_law_523 (by decide) ?_
      refine va_lald hx hb hK hP 0 3 rfl rfl (by unfold vp_in; decide) d_L_law_524 ?_
      refine sd_topl (y := f1 0) rfl ?_
      refine lv_iload hx hb d_L_law_525 (lv_at hl 0 rfl) ?_
      refine lv_i2l hx hb d_L_law_527 rfl ?_
      refine W.lcmp hx hb d_L_law_528 ?_
      refine lv_if_eq (tgt := 534) hx hb d_L_law_529 rfl (fun hc529 => ?_) (fun hc529 => ?_)
      · skip
        refine lv_goto (tgt := 1021) hx hb d_L_law_534 rfl ?_
        have hl := lv_sub hl (l' := [(0, .ref b), (1, .ref ta.qv), (2, .ref tb.qm), (3, .ref qo), (4, .int (nI (2 + 5 * n9)))]) [2, 3, 4, 5, 6] rfl
        refine W.widen (k := 100 + 16 * n9 + 12) (n := 7000 + 120 * n9 + 100) (by first | omega | (dsimp only; omega)) (by first | omega | (dsimp only; omega)) ?_
        exact kk _ _ _ _ ls H locs hi9 hl hP hD hS
      · skip
        exact absurd (by rw [hout9 hcd9]; exact lg_self _) hc529
  · skip
    exact absurd rfl hc512
set_option maxHeartbeats 8000000 in
set_option maxRecDepth 100000 in
theorem lc_stopAfter {p : Program} {l : Launch} {e : Env} {s : State} {m : MethodId} {below : List Frame} {meth : Method} {c : Code} {b L : Nat} {xs : Nat → Int32} {D : va_G} {cI cZ cQ cJ : ClassId} {ta : VA} {tb : MA} {qo : Nat} {A : Nat → Prop} {Q : State → Prop} (hst : l.stackTraces = false) (hx : p.tables.exec = Jvm.exec) (hb : c.code = b_L_law) (hml : c.maxLocals = 8) (hown : s.vm.findClass R_L = some m.cls) (hts : ∀ w ∈ bw, w.before #[Value.ref b] s = true) (hXs : va_X b L xs s s.heap) (hbl : b < s.heap.size) (hbA : ¬ A b) (hL : L ≤ 2562) (hK : va_K D cls (tyJ cI cZ cQ cJ) s) (hA : ∀ q : Nat, s.heap.size ≤ q → A q) (hX : xf A s s.heap) (hN : xN s) (ga : geo ta.k ta.n ta.hh ta.ff) (hhL : ∀ i, i < ta.n + 1 → ta.hh i ∈ ta.L) (ffL : ∀ i, i < ta.n + 1 → ta.ff i ∈ ta.L) {n9 : Nat} {vs : VS} {zs : MS} {lz : Nat → Nat} {f : Nat → Int64} {ls : Array Slot} {H : Heap} {locs : List Loc} (hinv : inv ta.k ta.n ta.hh lz n9 vs zs) (hn9 : n9 ≤ 511) (hi5 : 2 + 5 * n9 + 5 ≤ L) (hl : lv_has ls 8 [(0, .ref b), (1, .ref ta.qv), (2, .ref tb.qm), (3, .ref qo), (4, .int (nI (2 + 5 * n9)))]) (hP : va_P D cls (oC cJ qo f ++ (vX cI cZ cQ ta vs ++ mX cI cZ ta tb zs)) H) (hD : va_D A (oC cJ qo f ++ (vX cI cZ cQ ta vs ++ mX cI cZ ta tb zs))) (hS : va_S A s.heap H locs) (kk : ∀ (vs1 : VS) (zs1 : MS) (lz1 : Nat → Nat) (f1 : Nat → Int64) (ls : Array Slot) (H : Heap) (locs : List Loc), inv ta.k ta.n ta.hh lz1 (n9 + 1) vs1 zs1 → lv_has ls 8 [(0, .ref b), (1, .ref ta.qv), (2, .ref tb.qm), (3, .ref qo), (4, .int (nI (2 + 5 * n9)))] → va_P D cls (oC cJ qo f1 ++ (vX cI cZ cQ ta vs1 ++ mX cI cZ ta tb zs1)) H → va_D A (oC cJ qo f1 ++ (vX cI cZ cQ ta vs1 ++ mX cI cZ ta tb zs1)) → va_S A s.heap H locs → W p l e room_1 s m #[Value.ref b] below meth c H locs (100 + 16 * n9 + 12) (7000 + 120 * n9 + 100) Q (F0 m 1021 ls [])) : W p l e room_1 s m #[Value.ref b] below meth c H locs (100 + 16 * n9) (7000 + 120 * n9) Q (F0 m 537 ls []) := by
  refine lv_aload_n hx hb d_L_law_537 rfl (lv_at hl 1 rfl) ?_
  refine lv_aload_n hx hb d_L_law_538 rfl (lv_at hl 0 rfl) ?_
  refine lv_iload hx hb d_L_law_539 (lv_at hl 4 rfl) ?_
  refine lv_iconst (v := nI 1) hx hb d_L_law_541 (by decide) ?_
  refine lv_iadd hx hb d_L_law_542 ?_
  refine sd_top (y := nI (2 + 5 * n9 + 1)) (nI_add _ _) ?_
  refine sd_sld hx hb hXs hbl hbA hS (j := 2 + 5 * n9 + 1) (by omega) (by omega) d_L_law_543 ?_
  obtain ⟨zs1, vs1, lz1, hM9, hi9, hV9⟩ := op_stopAfter (l := l) (D := D) (cI := cI) (cZ := cZ) (cQ := cQ) (b := tb) hst ga hhL ffL hinv (by omega) (xs (2 + 5 * n9 + 1))
  obtain ⟨rl, hrl, hL9⟩ := lo_stopAfter qo cJ f (xs (2 + 5 * n9 + 1)) hV9
  obtain ⟨hrl1, hrl2, hrl3, hrl4⟩ := hrl
  refine md_SH (X := oC cJ qo f) (C := vX cI cZ cQ ta vs) (C' := vX cI cZ cQ ta vs1) (Z := mX cI cZ ta tb zs) (As := [.ref ta.qv, .int (xs (2 + 5 * n9 + 1))]) (rest := []) hL9 wc_L_stopAfter wm_L_104 wi_L ⟨by decide, by decide, show (parseMethodDescriptor y_L_stopAfter.desc).map (fun d => d.parameters.length) = some 2 by decide +kernel⟩ ws_L_stopAfter hx hb hml hown hts hl.1 ⟨by show rl.frames + 1 ≤ room_1.frames; have e9 : room_1.frames = 11 := rfl; omega, by show 8 + (3 + 11) + rl.locals ≤ room_1.locals; have e9 : room_1.locals = 398 := rfl; omega⟩ ⟨by show 100 + 16 * n9 + rl.cells ≤ room_1.cells; have e9 : room_1.cells = 601024 := rfl; omega, by show 7000 + 120 * n9 + rl.slots ≤ room_1.slots; have e9 : room_1.slots = 7293000 := rfl; omega⟩ hK hP hD hS hA hX hN (vX_adr _ _ _ _ _ _) rfl (Nat.le_of_ble_eq_true rfl) d_L_law_544 (fun H locs hP hD hS => ?_)
  have hP : va_P D cls (oC cJ qo f ++ (vX cI cZ cQ ta vs1 ++ mX cI cZ ta tb zs)) H := hP
  have hD : va_D A (oC cJ qo f ++ (vX cI cZ cQ ta vs1 ++ mX cI cZ ta tb zs)) := hD
  refine lv_istore hx hb d_L_law_547 hl (Nat.le_of_ble_eq_true rfl) (lv' := [(5, .int (zs1.cd)), (0, .ref b), (1, .ref ta.qv), (2, .ref tb.qm), (3, .ref qo), (4, .int (nI (2 + 5 * n9)))]) rfl (fun ls hl => ?_)
  refine lv_aload_n hx hb d_L_law_549 rfl (lv_at hl 3 rfl) ?_
  refine lv_aload_n hx hb d_L_law_550 rfl (lv_at hl 1 rfl) ?_
  refine lv_iload hx hb d_L_law_551 (lv_at hl 5 rfl) ?_
  refine lv_iconst (v := nI 1) hx hb d_L_law_553 (by decide) ?_
  refine lv_iadd hx hb d_L_law_554 ?_
  refine sd_top (y := nI (2 + 5 * n9 + 1)) (nI_add _ _) ?_
  refine sd_sld hx hb hXs hbl hbA hS (j := 2 + 5 * n9 + 1) (by omega) (by omega) d_L_law_555 ?_
  obtain ⟨rm9, hrm9, hM9⟩ := hM9
  obtain ⟨hrm91, hrm92, hrm93, hrm94⟩ := hrm9
  have hP : va_P D cls ((oC cJ qo f ++ vX cI cZ cQ ta vs1) ++ (mX cI cZ ta tb zs ++ [])) H := by rw [List.append_nil, List.append_assoc]; exact hP
  have hD : va_D A ((oC cJ qo f ++ vX cI cZ cQ ta vs1) ++ (mX cI cZ ta tb zs ++ [])) := by rw [List.append_nil, List.append_assoc]; exact hD
  refine md_VV (C := mX cI cZ ta tb zs) (C' := mX cI cZ ta tb zs1) (Z := []) (As := [.int (xs (2 + 5 * n9 + 1))]) (rest := []) hM9 ⟨wc_M_stopAfter, wm_L_107, wi_M, by decide, by decide, show (parseMethodDescriptor y_M_stopAfter.desc).map (fun d => d.parameters.length) = some 1 by decide +kernel⟩ wo_M_stopAfter wz_M_stopAfter hx hb hml hown hts hl.1 ⟨by show rm9.frames + 1 ≤ room_1.frames; have e9 : room_1.frames = 11 := rfl; omega, by show 8 + (2 + 11) + rm9.locals ≤ room_1.locals; have e9 : room_1.locals = 398 := rfl; omega⟩ ⟨by show 100 + 16 * n9 + rl.cells + rm9.cells ≤ room_1.cells; have e9 : room_1.cells = 601024 := rfl; omega, by show 7000 + 120 * n9 + rl.slots + rm9.slots ≤ room_1.slots; have e9 : room_1.slots = 7293000 := rfl; omega⟩ (ty_J hK) hP hD hS hA (mX_adr _ _ _ _ _ _) (q0 := 0) rfl rfl rfl (Nat.le_of_ble_eq_true rfl) d_L_law_556 (fun H locs hP hD hS => ?_)
  rw [List.append_nil, List.append_assoc] at hP hD
  have hP : va_P D cls (oC cJ qo f ++ (vX cI cZ cQ ta vs1 ++ mX cI cZ ta tb zs1)) H := hP
  have hD : va_D A (oC cJ qo f ++ (vX cI cZ cQ ta vs1 ++ mX cI cZ ta tb zs1)) := hD
  refine lv_aload_n hx hb d_L_law_559 rfl (lv_at hl 3 rfl) ?_
  have hM8 := (c_M_thrown l D cI cZ cQ (tb.qm) (tb.mp) (tb.mt) (tb.ml) (tb.mc) (tb.mf) (tb.me) (tb.mg) (tb.mh) (tb.mu) (ta.k) (ta.n) (zs1.pn) (zs1.nx) (zs1.cd) (zs1.ep) (zs1.M) (zs1.wi) (zs1.jb) (zs1.fp) (zs1.tf) (zs1.tt) (zs1.fi) (zs1.ln) (zs1.bx) (zs1.pr) (zs1.tk) (zs1.le) (zs1.co) (zs1.fr) (zs1.em) (zs1.nb) (zs1.su) (by have := ga.kn; have := ga.n9; omega) (ga.n9))
  have hP : va_P D cls ((oC cJ qo f ++ vX cI cZ cQ ta vs1) ++ (mX cI cZ ta tb zs1 ++ [])) H := by rw [List.append_nil, List.append_assoc]; exact hP
  have hD : va_D A ((oC cJ qo f ++ vX cI cZ cQ ta vs1) ++ (mX cI cZ ta tb zs1 ++ [])) := by rw [List.append_nil, List.append_assoc]; exact hD
  refine md_VI (C := mX cI cZ ta tb zs1) (C' := mX cI cZ ta tb zs1) (Z := []) (As := []) (rest := []) hM8 ⟨wc_M_thrown, wm_L_81, wi_M, by decide, by decide, show (parseMethodDescriptor y_M_thrown.desc).map (fun d => d.parameters.length) = some 0 by decide +kernel⟩ wo_M_thrown wz_M_thrown hx hb hml hown hts hl.1 ⟨by show 0 + 1 ≤ room_1.frames; decide, by decide⟩ ⟨by show 100 + 16 * n9 + rl.cells + rm9.cells + 0 ≤ room_1.cells; have e9 : room_1.cells = 601024 := rfl; omega, by show 7000 + 120 * n9 + rl.slots + rm9.slots + 0 ≤ room_1.slots; have e9 : room_1.slots = 7293000 := rfl; omega⟩ (ty_J hK) hP hD hS hA (mX_adr _ _ _ _ _ _) (q0 := 0) rfl rfl rfl (Nat.le_of_ble_eq_true rfl) d_L_law_560 (fun H locs hP hD hS => ?_)
  rw [List.append_nil, List.append_assoc] at hP hD
  have hP : va_P D cls (oC cJ qo f ++ (vX cI cZ cQ ta vs1 ++ mX cI cZ ta tb zs1)) H := hP
  have hD : va_D A (oC cJ qo f ++ (vX cI cZ cQ ta vs1 ++ mX cI cZ ta tb zs1)) := hD
  refine lv_iload hx hb d_L_law_563 (lv_at hl 0 rfl) ?_
  refine lv_icmp_eq (tgt := 570) hx hb d_L_law_565 rfl (fun hc565 => ?_) (fun hc565 => ?_)
  · skip
    refine lv_goto (tgt := 1021) hx hb d_L_law_570 rfl ?_
    have hl := lv_sub hl (l' := [(0, .ref b), (1, .ref ta.qv), (2, .ref tb.qm), (3, .ref qo), (4, .int (nI (2 + 5 * n9)))]) [1, 2, 3, 4, 5] rfl
    refine W.widen (k := 100 + 16 * n9 + 12) (n := 7000 + 120 * n9 + 100) (by first | omega | (dsimp only; omega)) (by first | omega | (dsimp only; omega)) ?_
    exact kk _ _ _ _ ls H locs hi9 hl hP hD hS
  · skip
    exact absurd rfl hc565
set_option maxHeartbeats 8000000 in
set_option maxRecDepth 100000 in
theorem lc_resume {p : Program} {l : Launch} {e : Env} {s : State} {m : MethodId} {below : List Frame} {meth : Method} {c : Code} {b L : Nat} {xs : Nat → Int32} {D : va_G} {cI cZ cQ cJ : ClassId} {ta : VA} {tb : MA} {qo : Nat} {A : Nat → Prop} {Q : State → Prop} (hst : l.stackTraces = false) (hx : p.tables.exec = Jvm.exec) (hb : c.code = b_L_law) (hml : c.maxLocals = 8) (hown : s.vm.findClass R_L = some m.cls) (hts : ∀ w ∈ bw, w.before #[Value.ref b] s = true) (hXs : va_X b L xs s s.heap) (hbl : b < s.heap.size) (hbA : ¬ A b) (hL : L ≤ 2562) (hK : va_K D cls (tyJ cI cZ cQ cJ) s) (hA : ∀ q : Nat, s.heap.size ≤ q → A q) (hX : xf A s s.heap) (hN : xN s) (ga : geo ta.k ta.n ta.hh ta.ff) (hhL : ∀ i, i < ta.n + 1 → ta.hh i ∈ ta.L) (ffL : ∀ i, i < ta.n + 1 → ta.ff i ∈ ta.L) {n9 : Nat} {vs : VS} {zs : MS} {lz : Nat → Nat} {f : Nat → Int64} {ls : Array Slot} {H : Heap} {locs : List Loc} (hinv : inv ta.k ta.n ta.hh lz n9 vs zs) (hn9 : n9 ≤ 511) (hi5 : 2 + 5 * n9 + 5 ≤ L) (hl : lv_has ls 8 [(0, .ref b), (1, .ref ta.qv), (2, .ref tb.qm), (3, .ref qo), (4, .int (nI (2 + 5 * n9)))]) (hP : va_P D cls (oC cJ qo f ++ (vX cI cZ cQ ta vs ++ mX cI cZ ta tb zs)) H) (hD : va_D A (oC cJ qo f ++ (vX cI cZ cQ ta vs ++ mX cI cZ ta tb zs))) (hS : va_S A s.heap H locs) (kk : ∀ (vs1 : VS) (zs1 : MS) (lz1 : Nat → Nat) (f1 : Nat → Int64) (ls : Array Slot) (H : Heap) (locs : List Loc), inv ta.k ta.n ta.hh lz1 (n9 + 1) vs1 zs1 → lv_has ls 8 [(0, .ref b), (1, .ref ta.qv), (2, .ref tb.qm), (3, .ref qo), (4, .int (nI (2 + 5 * n9)))] → va_P D cls (oC cJ qo f1 ++ (vX cI cZ cQ ta vs1 ++ mX cI cZ ta tb zs1)) H → va_D A (oC cJ qo f1 ++ (vX cI cZ cQ ta vs1 ++ mX cI cZ ta tb zs1)) → va_S A s.heap H locs → W p l e room_1 s m #[Value.ref b] below meth c H locs (100 + 16 * n9 + 12) (7000 + 120 * n9 + 100) Q (F0 m 1021 ls [])) : W p l e room_1 s m #[Value.ref b] below meth c H locs (100 + 16 * n9) (7000 + 120 * n9) Q (F0 m 573 ls []) := by
  refine lv_aload_n hx hb d_L_law_573 rfl (lv_at hl 1 rfl) ?_
  obtain ⟨zs1, r9, vs1, lz1, hM9, hi9, rl, hrl, hV9⟩ := op_resume (l := l) (D := D) (cI := cI) (cZ := cZ) (cQ := cQ) (b := tb) hst ga hhL ffL hinv (by omega)
  obtain ⟨hrl1, hrl2, hrl3, hrl4⟩ := hrl
  refine md_VI (X := oC cJ qo f) (C := vX cI cZ cQ ta vs) (C' := vX cI cZ cQ ta vs1) (Z := mX cI cZ ta tb zs) (As := []) (rest := []) hV9 ⟨wc_V_resume, wm_L_108, wi_V, by decide, by decide, show (parseMethodDescriptor y_V_resume.desc).map (fun d => d.parameters.length) = some 0 by decide +kernel⟩ wo_V_resume wz_V_resume hx hb hml hown hts hl.1 ⟨by show rl.frames + 1 ≤ room_1.frames; have e9 : room_1.frames = 11 := rfl; omega, by show 8 + (1 + 11) + rl.locals ≤ room_1.locals; have e9 : room_1.locals = 398 := rfl; omega⟩ ⟨by show 100 + 16 * n9 + rl.cells ≤ room_1.cells; have e9 : room_1.cells = 601024 := rfl; omega, by show 7000 + 120 * n9 + rl.slots ≤ room_1.slots; have e9 : room_1.slots = 7293000 := rfl; omega⟩ (ty_J hK) hP hD hS hA (vX_adr _ _ _ _ _ _) (q0 := 0) rfl rfl rfl (Nat.le_of_ble_eq_true rfl) d_L_law_574 (fun H locs hP hD hS => ?_)
  have hP : va_P D cls (oC cJ qo f ++ (vX cI cZ cQ ta vs1 ++ mX cI cZ ta tb zs)) H := hP
  have hD : va_D A (oC cJ qo f ++ (vX cI cZ cQ ta vs1 ++ mX cI cZ ta tb zs)) := hD
  refine lv_aload_n hx hb d_L_law_577 rfl (lv_at hl 2 rfl) ?_
  obtain ⟨rm9, hrm9, hM9⟩ := hM9
  obtain ⟨hrm91, hrm92, hrm93, hrm94⟩ := hrm9
  have hP : va_P D cls ((oC cJ qo f ++ vX cI cZ cQ ta vs1) ++ (mX cI cZ ta tb zs ++ [])) H := by rw [List.append_nil, List.append_assoc]; exact hP
  have hD : va_D A ((oC cJ qo f ++ vX cI cZ cQ ta vs1) ++ (mX cI cZ ta tb zs ++ [])) := by rw [List.append_nil, List.append_assoc]; exact hD
  refine md_VI (C := mX cI cZ ta tb zs) (C' := mX cI cZ ta tb zs1) (Z := []) (As := []) (rest := [.int (r9)]) hM9 ⟨wc_M_resume, wm_L_111, wi_M, by decide, by decide, show (parseMethodDescriptor y_M_resume.desc).map (fun d => d.parameters.length) = some 0 by decide +kernel⟩ wo_M_resume wz_M_resume hx hb hml hown hts hl.1 ⟨by show rm9.frames + 1 ≤ room_1.frames; have e9 : room_1.frames = 11 := rfl; omega, by show 8 + (1 + 11) + rm9.locals ≤ room_1.locals; have e9 : room_1.locals = 398 := rfl; omega⟩ ⟨by show 100 + 16 * n9 + rl.cells + rm9.cells ≤ room_1.cells; have e9 : room_1.cells = 601024 := rfl; omega, by show 7000 + 120 * n9 + rl.slots + rm9.slots ≤ room_1.slots; have e9 : room_1.slots = 7293000 := rfl; omega⟩ (ty_J hK) hP hD hS hA (mX_adr _ _ _ _ _ _) (q0 := 0) rfl rfl rfl (Nat.le_of_ble_eq_true rfl) d_L_law_578 (fun H locs hP hD hS => ?_)
  rw [List.append_nil, List.append_assoc] at hP hD
  have hP : va_P D cls (oC cJ qo f ++ (vX cI cZ cQ ta vs1 ++ mX cI cZ ta tb zs1)) H := hP
  have hD : va_D A (oC cJ qo f ++ (vX cI cZ cQ ta vs1 ++ mX cI cZ ta tb zs1)) := hD
  refine lv_icmp_eq (tgt := 1021) hx hb d_L_law_581 rfl (fun hc581 => ?_) (fun hc581 => ?_)
  · skip
    have hl := lv_sub hl (l' := [(0, .ref b), (1, .ref ta.qv), (2, .ref tb.qm), (3, .ref qo), (4, .int (nI (2 + 5 * n9)))]) [0, 1, 2, 3, 4] rfl
    refine W.widen (k := 100 + 16 * n9 + 12) (n := 7000 + 120 * n9 + 100) (by first | omega | (dsimp only; omega)) (by first | omega | (dsimp only; omega)) ?_
    exact kk _ _ _ _ ls H locs hi9 hl hP hD hS
  · skip
    exact absurd rfl hc581
set_option maxHeartbeats 8000000 in
set_option maxRecDepth 100000 in
theorem lc_stopped {p : Program} {l : Launch} {e : Env} {s : State} {m : MethodId} {below : List Frame} {meth : Method} {c : Code} {b L : Nat} {xs : Nat → Int32} {D : va_G} {cI cZ cQ cJ : ClassId} {ta : VA} {tb : MA} {qo : Nat} {A : Nat → Prop} {Q : State → Prop} (hst : l.stackTraces = false) (hx : p.tables.exec = Jvm.exec) (hb : c.code = b_L_law) (hml : c.maxLocals = 8) (hown : s.vm.findClass R_L = some m.cls) (hts : ∀ w ∈ bw, w.before #[Value.ref b] s = true) (hXs : va_X b L xs s s.heap) (hbl : b < s.heap.size) (hbA : ¬ A b) (hL : L ≤ 2562) (hK : va_K D cls (tyJ cI cZ cQ cJ) s) (hA : ∀ q : Nat, s.heap.size ≤ q → A q) (hX : xf A s s.heap) (hN : xN s) (ga : geo ta.k ta.n ta.hh ta.ff) (hhL : ∀ i, i < ta.n + 1 → ta.hh i ∈ ta.L) (ffL : ∀ i, i < ta.n + 1 → ta.ff i ∈ ta.L) {n9 : Nat} {vs : VS} {zs : MS} {lz : Nat → Nat} {f : Nat → Int64} {ls : Array Slot} {H : Heap} {locs : List Loc} (hinv : inv ta.k ta.n ta.hh lz n9 vs zs) (hn9 : n9 ≤ 511) (hi5 : 2 + 5 * n9 + 5 ≤ L) (hl : lv_has ls 8 [(0, .ref b), (1, .ref ta.qv), (2, .ref tb.qm), (3, .ref qo), (4, .int (nI (2 + 5 * n9)))]) (hP : va_P D cls (oC cJ qo f ++ (vX cI cZ cQ ta vs ++ mX cI cZ ta tb zs)) H) (hD : va_D A (oC cJ qo f ++ (vX cI cZ cQ ta vs ++ mX cI cZ ta tb zs))) (hS : va_S A s.heap H locs) (kk : ∀ (vs1 : VS) (zs1 : MS) (lz1 : Nat → Nat) (f1 : Nat → Int64) (ls : Array Slot) (H : Heap) (locs : List Loc), inv ta.k ta.n ta.hh lz1 (n9 + 1) vs1 zs1 → lv_has ls 8 [(0, .ref b), (1, .ref ta.qv), (2, .ref tb.qm), (3, .ref qo), (4, .int (nI (2 + 5 * n9)))] → va_P D cls (oC cJ qo f1 ++ (vX cI cZ cQ ta vs1 ++ mX cI cZ ta tb zs1)) H → va_D A (oC cJ qo f1 ++ (vX cI cZ cQ ta vs1 ++ mX cI cZ ta tb zs1)) → va_S A s.heap H locs → W p l e room_1 s m #[Value.ref b] below meth c H locs (100 + 16 * n9 + 12) (7000 + 120 * n9 + 100) Q (F0 m 1021 ls [])) : W p l e room_1 s m #[Value.ref b] below meth c H locs (100 + 16 * n9) (7000 + 120 * n9) Q (F0 m 586 ls []) := by
  refine lv_aload_n hx hb d_L_law_586 rfl (lv_at hl 1 rfl) ?_
  obtain ⟨zs1, r9, vs1, lz1, hM9, hi9, rl, hrl, hV9⟩ := op_stopped (l := l) (D := D) (cI := cI) (cZ := cZ) (cQ := cQ) (b := tb) hst ga hhL ffL hinv (by omega)
  obtain ⟨hrl1, hrl2, hrl3, hrl4⟩ := hrl
  refine md_VI (X := oC cJ qo f) (C := vX cI cZ cQ ta vs) (C' := vX cI cZ cQ ta vs1) (Z := mX cI cZ ta tb zs) (As := []) (rest := []) hV9 ⟨wc_V_stopped, wm_L_112, wi_V, by decide, by decide, show (parseMethodDescriptor y_V_stopped.desc).map (fun d => d.parameters.length) = some 0 by decide +kernel⟩ wo_V_stopped wz_V_stopped hx hb hml hown hts hl.1 ⟨by show rl.frames + 1 ≤ room_1.frames; have e9 : room_1.frames = 11 := rfl; omega, by show 8 + (1 + 11) + rl.locals ≤ room_1.locals; have e9 : room_1.locals = 398 := rfl; omega⟩ ⟨by show 100 + 16 * n9 + rl.cells ≤ room_1.cells; have e9 : room_1.cells = 601024 := rfl; omega, by show 7000 + 120 * n9 + rl.slots ≤ room_1.slots; have e9 : room_1.slots = 7293000 := rfl; omega⟩ (ty_J hK) hP hD hS hA (vX_adr _ _ _ _ _ _) (q0 := 0) rfl rfl rfl (Nat.le_of_ble_eq_true rfl) d_L_law_587 (fun H locs hP hD hS => ?_)
  have hP : va_P D cls (oC cJ qo f ++ (vX cI cZ cQ ta vs1 ++ mX cI cZ ta tb zs)) H := hP
  have hD : va_D A (oC cJ qo f ++ (vX cI cZ cQ ta vs1 ++ mX cI cZ ta tb zs)) := hD
  refine lv_aload_n hx hb d_L_law_590 rfl (lv_at hl 2 rfl) ?_
  obtain ⟨rm9, hrm9, hM9⟩ := hM9
  obtain ⟨hrm91, hrm92, hrm93, hrm94⟩ := hrm9
  have hP : va_P D cls ((oC cJ qo f ++ vX cI cZ cQ ta vs1) ++ (mX cI cZ ta tb zs ++ [])) H := by rw [List.append_nil, List.append_assoc]; exact hP
  have hD : va_D A ((oC cJ qo f ++ vX cI cZ cQ ta vs1) ++ (mX cI cZ ta tb zs ++ [])) := by rw [List.append_nil, List.append_assoc]; exact hD
  refine md_VI (C := mX cI cZ ta tb zs) (C' := mX cI cZ ta tb zs1) (Z := []) (As := []) (rest := [.int (r9)]) hM9 ⟨wc_M_stopped, wm_L_116, wi_M, by decide, by decide, show (parseMethodDescriptor y_M_stopped.desc).map (fun d => d.parameters.length) = some 0 by decide +kernel⟩ wo_M_stopped wz_M_stopped hx hb hml hown hts hl.1 ⟨by show rm9.frames + 1 ≤ room_1.frames; have e9 : room_1.frames = 11 := rfl; omega, by show 8 + (1 + 11) + rm9.locals ≤ room_1.locals; have e9 : room_1.locals = 398 := rfl; omega⟩ ⟨by show 100 + 16 * n9 + rl.cells + rm9.cells ≤ room_1.cells; have e9 : room_1.cells = 601024 := rfl; omega, by show 7000 + 120 * n9 + rl.slots + rm9.slots ≤ room_1.slots; have e9 : room_1.slots = 7293000 := rfl; omega⟩ (ty_J hK) hP hD hS hA (mX_adr _ _ _ _ _ _) (q0 := 0) rfl rfl rfl (Nat.le_of_ble_eq_true rfl) d_L_law_591 (fun H locs hP hD hS => ?_)
  rw [List.append_nil, List.append_assoc] at hP hD
  have hP : va_P D cls (oC cJ qo f ++ (vX cI cZ cQ ta vs1 ++ mX cI cZ ta tb zs1)) H := hP
  have hD : va_D A (oC cJ qo f ++ (vX cI cZ cQ ta vs1 ++ mX cI cZ ta tb zs1)) := hD
  refine lv_icmp_eq (tgt := 1021) hx hb d_L_law_594 rfl (fun hc594 => ?_) (fun hc594 => ?_)
  · skip
    have hl := lv_sub hl (l' := [(0, .ref b), (1, .ref ta.qv), (2, .ref tb.qm), (3, .ref qo), (4, .int (nI (2 + 5 * n9)))]) [0, 1, 2, 3, 4] rfl
    refine W.widen (k := 100 + 16 * n9 + 12) (n := 7000 + 120 * n9 + 100) (by first | omega | (dsimp only; omega)) (by first | omega | (dsimp only; omega)) ?_
    exact kk _ _ _ _ ls H locs hi9 hl hP hD hS
  · skip
    exact absurd rfl hc594
set_option maxHeartbeats 8000000 in
set_option maxRecDepth 100000 in
theorem lc_restore {p : Program} {l : Launch} {e : Env} {s : State} {m : MethodId} {below : List Frame} {meth : Method} {c : Code} {b L : Nat} {xs : Nat → Int32} {D : va_G} {cI cZ cQ cJ : ClassId} {ta : VA} {tb : MA} {qo : Nat} {A : Nat → Prop} {Q : State → Prop} (hst : l.stackTraces = false) (hx : p.tables.exec = Jvm.exec) (hb : c.code = b_L_law) (hml : c.maxLocals = 8) (hown : s.vm.findClass R_L = some m.cls) (hts : ∀ w ∈ bw, w.before #[Value.ref b] s = true) (hXs : va_X b L xs s s.heap) (hbl : b < s.heap.size) (hbA : ¬ A b) (hL : L ≤ 2562) (hK : va_K D cls (tyJ cI cZ cQ cJ) s) (hA : ∀ q : Nat, s.heap.size ≤ q → A q) (hX : xf A s s.heap) (hN : xN s) (ga : geo ta.k ta.n ta.hh ta.ff) (hhL : ∀ i, i < ta.n + 1 → ta.hh i ∈ ta.L) (ffL : ∀ i, i < ta.n + 1 → ta.ff i ∈ ta.L) {n9 : Nat} {vs : VS} {zs : MS} {lz : Nat → Nat} {f : Nat → Int64} {ls : Array Slot} {H : Heap} {locs : List Loc} (hinv : inv ta.k ta.n ta.hh lz n9 vs zs) (hn9 : n9 ≤ 511) (hi5 : 2 + 5 * n9 + 5 ≤ L) (hl : lv_has ls 8 [(0, .ref b), (1, .ref ta.qv), (2, .ref tb.qm), (3, .ref qo), (4, .int (nI (2 + 5 * n9)))]) (hP : va_P D cls (oC cJ qo f ++ (vX cI cZ cQ ta vs ++ mX cI cZ ta tb zs)) H) (hD : va_D A (oC cJ qo f ++ (vX cI cZ cQ ta vs ++ mX cI cZ ta tb zs))) (hS : va_S A s.heap H locs) (kk : ∀ (vs1 : VS) (zs1 : MS) (lz1 : Nat → Nat) (f1 : Nat → Int64) (ls : Array Slot) (H : Heap) (locs : List Loc), inv ta.k ta.n ta.hh lz1 (n9 + 1) vs1 zs1 → lv_has ls 8 [(0, .ref b), (1, .ref ta.qv), (2, .ref tb.qm), (3, .ref qo), (4, .int (nI (2 + 5 * n9)))] → va_P D cls (oC cJ qo f1 ++ (vX cI cZ cQ ta vs1 ++ mX cI cZ ta tb zs1)) H → va_D A (oC cJ qo f1 ++ (vX cI cZ cQ ta vs1 ++ mX cI cZ ta tb zs1)) → va_S A s.heap H locs → W p l e room_1 s m #[Value.ref b] below meth c H locs (100 + 16 * n9 + 12) (7000 + 120 * n9 + 100) Q (F0 m 1021 ls [])) : W p l e room_1 s m #[Value.ref b] below meth c H locs (100 + 16 * n9) (7000 + 120 * n9) Q (F0 m 599 ls []) := by
  refine lv_aload_n hx hb d_L_law_599 rfl (lv_at hl 1 rfl) ?_
  refine lv_aload_n hx hb d_L_law_600 rfl (lv_at hl 0 rfl) ?_
  refine lv_iload hx hb d_L_law_601 (lv_at hl 4 rfl) ?_
  refine lv_iconst (v := nI 1) hx hb d_L_law_603 (by decide) ?_
  refine lv_iadd hx hb d_L_law_604 ?_
  refine sd_top (y := nI (2 + 5 * n9 + 1)) (nI_add _ _) ?_
  refine sd_sld hx hb hXs hbl hbA hS (j := 2 + 5 * n9 + 1) (by omega) (by omega) d_L_law_605 ?_
  refine lv_aload_n hx hb d_L_law_606 rfl (lv_at hl 0 rfl) ?_
  refine lv_iload hx hb d_L_law_607 (lv_at hl 4 rfl) ?_
  refine lv_iconst (v := nI 2) hx hb d_L_law_609 (by decide) ?_
  refine lv_iadd hx hb d_L_law_610 ?_
  refine sd_top (y := nI (2 + 5 * n9 + 2)) (nI_add _ _) ?_
  refine sd_sld hx hb hXs hbl hbA hS (j := 2 + 5 * n9 + 2) (by omega) (by omega) d_L_law_611 ?_
  refine lv_aload_n hx hb d_L_law_612 rfl (lv_at hl 3 rfl) ?_
  obtain ⟨zs1, r9, vs1, lz1, hM9, hi9, hV9⟩ := op_restore (l := l) (D := D) (cI := cI) (cZ := cZ) (cQ := cQ) (b := tb) hst ga hhL ffL hinv (by omega) (xs (2 + 5 * n9 + 1)) (xs (2 + 5 * n9 + 2))
  obtain ⟨f1, ⟨rl, hrl, hL9⟩, hout9⟩ := lo_restore qo cJ f (xs (2 + 5 * n9 + 1)) (xs (2 + 5 * n9 + 2)) hV9
  obtain ⟨hrl1, hrl2, hrl3, hrl4⟩ := hrl
  refine md_SH (X := []) (C := oC cJ qo f ++ vX cI cZ cQ ta vs) (C' := oC cJ qo f1 ++ vX cI cZ cQ ta vs1) (Z := mX cI cZ ta tb zs) (As := [.ref ta.qv, .int (xs (2 + 5 * n9 + 1)), .int (xs (2 + 5 * n9 + 2)), .ref qo]) (rest := []) hL9 wc_L_restore wm_L_117 wi_L ⟨by decide, by decide, show (parseMethodDescriptor y_L_restore.desc).map (fun d => d.parameters.length) = some 4 by decide +kernel⟩ ws_L_restore hx hb hml hown hts hl.1 ⟨by show rl.frames + 1 ≤ room_1.frames; have e9 : room_1.frames = 11 := rfl; omega, by show 8 + (5 + 11) + rl.locals ≤ room_1.locals; have e9 : room_1.locals = 398 := rfl; omega⟩ ⟨by show 100 + 16 * n9 + rl.cells ≤ room_1.cells; have e9 : room_1.cells = 601024 := rfl; omega, by show 7000 + 120 * n9 + rl.slots ≤ room_1.slots; have e9 : room_1.slots = 7293000 := rfl; omega⟩ hK hP hD hS hA hX hN (by rw [List.map_append, List.map_append, vX_adr _ _ _ _ vs vs1]; rfl) rfl (Nat.le_of_ble_eq_true rfl) d_L_law_613 (fun H locs hP hD hS => ?_)
  have hP : va_P D cls (oC cJ qo f1 ++ (vX cI cZ cQ ta vs1 ++ mX cI cZ ta tb zs)) H := hP
  have hD : va_D A (oC cJ qo f1 ++ (vX cI cZ cQ ta vs1 ++ mX cI cZ ta tb zs)) := hD
  refine lv_istore hx hb d_L_law_616 hl (Nat.le_of_ble_eq_true rfl) (lv' := [(5, .int (zs1.cd)), (0, .ref b), (1, .ref ta.qv), (2, .ref tb.qm), (3, .ref qo), (4, .int (nI (2 + 5 * n9)))]) rfl (fun ls hl => ?_)
  refine lv_aload_n hx hb d_L_law_618 rfl (lv_at hl 3 rfl) ?_
  refine lv_aload_n hx hb d_L_law_619 rfl (lv_at hl 1 rfl) ?_
  refine lv_iload hx hb d_L_law_620 (lv_at hl 5 rfl) ?_
  refine lv_iconst (v := nI 1) hx hb d_L_law_622 (by decide) ?_
  refine lv_iadd hx hb d_L_law_623 ?_
  refine sd_top (y := nI (2 + 5 * n9 + 1)) (nI_add _ _) ?_
  refine sd_sld hx hb hXs hbl hbA hS (j := 2 + 5 * n9 + 1) (by omega) (by omega) d_L_law_624 ?_
  refine lv_aload_n hx hb d_L_law_625 rfl (lv_at hl 1 rfl) ?_
  refine lv_iload hx hb d_L_law_626 (lv_at hl 5 rfl) ?_
  refine lv_iconst (v := nI 2) hx hb d_L_law_628 (by decide) ?_
  refine lv_iadd hx hb d_L_law_629 ?_
  refine sd_top (y := nI (2 + 5 * n9 + 2)) (nI_add _ _) ?_
  refine sd_sld hx hb hXs hbl hbA hS (j := 2 + 5 * n9 + 2) (by omega) (by omega) d_L_law_630 ?_
  obtain ⟨rm9, hrm9, hM9⟩ := hM9
  obtain ⟨hrm91, hrm92, hrm93, hrm94⟩ := hrm9
  have hP : va_P D cls ((oC cJ qo f1 ++ vX cI cZ cQ ta vs1) ++ (mX cI cZ ta tb zs ++ [])) H := by rw [List.append_nil, List.append_assoc]; exact hP
  have hD : va_D A ((oC cJ qo f1 ++ vX cI cZ cQ ta vs1) ++ (mX cI cZ ta tb zs ++ [])) := by rw [List.append_nil, List.append_assoc]; exact hD
  refine md_VJ (C := mX cI cZ ta tb zs) (C' := mX cI cZ ta tb zs1) (Z := []) (As := [.int (xs (2 + 5 * n9 + 1)), .int (xs (2 + 5 * n9 + 2))]) (rest := []) hM9 ⟨wc_M_restore, wm_L_119, wi_M, by decide, by decide, show (parseMethodDescriptor y_M_restore.desc).map (fun d => d.parameters.length) = some 2 by decide +kernel⟩ wo_M_restore wz_M_restore hx hb hml hown hts hl.1 ⟨by show rm9.frames + 1 ≤ room_1.frames; have e9 : room_1.frames = 11 := rfl; omega, by show 8 + (6 + 11) + rm9.locals ≤ room_1.locals; have e9 : room_1.locals = 398 := rfl; omega⟩ ⟨by show 100 + 16 * n9 + rl.cells + rm9.cells ≤ room_1.cells; have e9 : room_1.cells = 601024 := rfl; omega, by show 7000 + 120 * n9 + rl.slots + rm9.slots ≤ room_1.slots; have e9 : room_1.slots = 7293000 := rfl; omega⟩ (ty_J hK) hP hD hS hA (mX_adr _ _ _ _ _ _) (q0 := 0) rfl rfl rfl (Nat.le_of_ble_eq_true rfl) d_L_law_631 (fun H locs hP hD hS => ?_)
  rw [List.append_nil, List.append_assoc] at hP hD
  have hP : va_P D cls (oC cJ qo f1 ++ (vX cI cZ cQ ta vs1 ++ mX cI cZ ta tb zs1)) H := hP
  have hD : va_D A (oC cJ qo f1 ++ (vX cI cZ cQ ta vs1 ++ mX cI cZ ta tb zs1)) := hD
  refine lv_lstore hx hb d_L_law_634 hl (Nat.le_of_ble_eq_true rfl) (lv' := [(6, .long (r9)), (5, .int (zs1.cd)), (0, .ref b), (1, .ref ta.qv), (2, .ref tb.qm), (3, .ref qo), (4, .int (nI (2 + 5 * n9)))]) rfl (fun ls hl => ?_)
  refine lv_aload_n hx hb d_L_law_636 rfl (lv_at hl 4 rfl) ?_
  have hM8 := (c_M_thrown l D cI cZ cQ (tb.qm) (tb.mp) (tb.mt) (tb.ml) (tb.mc) (tb.mf) (tb.me) (tb.mg) (tb.mh) (tb.mu) (ta.k) (ta.n) (zs1.pn) (zs1.nx) (zs1.cd) (zs1.ep) (zs1.M) (zs1.wi) (zs1.jb) (zs1.fp) (zs1.tf) (zs1.tt) (zs1.fi) (zs1.ln) (zs1.bx) (zs1.pr) (zs1.tk) (zs1.le) (zs1.co) (zs1.fr) (zs1.em) (zs1.nb) (zs1.su) (by have := ga.kn; have := ga.n9; omega) (ga.n9))
  have hP : va_P D cls ((oC cJ qo f1 ++ vX cI cZ cQ ta vs1) ++ (mX cI cZ ta tb zs1 ++ [])) H := by rw [List.append_nil, List.append_assoc]; exact hP
  have hD : va_D A ((oC cJ qo f1 ++ vX cI cZ cQ ta vs1) ++ (mX cI cZ ta tb zs1 ++ [])) := by rw [List.append_nil, List.append_assoc]; exact hD
  refine md_VI (C := mX cI cZ ta tb zs1) (C' := mX cI cZ ta tb zs1) (Z := []) (As := []) (rest := []) hM8 ⟨wc_M_thrown, wm_L_81, wi_M, by decide, by decide, show (parseMethodDescriptor y_M_thrown.desc).map (fun d => d.parameters.length) = some 0 by decide +kernel⟩ wo_M_thrown wz_M_thrown hx hb hml hown hts hl.1 ⟨by show 0 + 1 ≤ room_1.frames; decide, by decide⟩ ⟨by show 100 + 16 * n9 + rl.cells + rm9.cells + 0 ≤ room_1.cells; have e9 : room_1.cells = 601024 := rfl; omega, by show 7000 + 120 * n9 + rl.slots + rm9.slots + 0 ≤ room_1.slots; have e9 : room_1.slots = 7293000 := rfl; omega⟩ (ty_J hK) hP hD hS hA (mX_adr _ _ _ _ _ _) (q0 := 0) rfl rfl rfl (Nat.le_of_ble_eq_true rfl) d_L_law_637 (fun H locs hP hD hS => ?_)
  rw [List.append_nil, List.append_assoc] at hP hD
  have hP : va_P D cls (oC cJ qo f1 ++ (vX cI cZ cQ ta vs1 ++ mX cI cZ ta tb zs1)) H := hP
  have hD : va_D A (oC cJ qo f1 ++ (vX cI cZ cQ ta vs1 ++ mX cI cZ ta tb zs1)) := hD
  refine lv_iload hx hb d_L_law_640 (lv_at hl 1 rfl) ?_
  refine lv_icmp_eq (tgt := 647) hx hb d_L_law_642 rfl (fun hc642 => ?_) (fun hc642 => ?_)
  · skip
    refine lv_iload hx hb d_L_law_647 (lv_at hl 1 rfl) ?_
    refine lv_if_ne (tgt := 663) hx hb d_L_law_649 rfl (fun hc649 => ?_) (fun hc649 => ?_)
    · skip
      refine lv_goto (tgt := 1021) hx hb d_L_law_663 rfl ?_
      have hl := lv_sub hl (l' := [(0, .ref b), (1, .ref ta.qv), (2, .ref tb.qm), (3, .ref qo), (4, .int (nI (2 + 5 * n9)))]) [2, 3, 4, 5, 6] rfl
      refine W.widen (k := 100 + 16 * n9 + 12) (n := 7000 + 120 * n9 + 100) (by first | omega | (dsimp only; omega)) (by first | omega | (dsimp only; omega)) ?_
      exact kk _ _ _ _ ls H locs hi9 hl hP hD hS
    · skip
      have hcd9 : zs1.cd = 0 := hc649
      refine lv_aload_n hx hb d_L_law_652 rfl (lv_at hl 5 rfl) ?_
      refine lv_iconst (v := 0) hx hb d_L_law_653 (by decide) ?_
      refine va_lald hx hb hK hP 0 3 rfl rfl (by unfold vp_in; decide) d_L_law_654 ?_
      refine sd_topl (y := f1 0) rfl ?_
      refine lv_lload hx hb d_L_law_655 (lv_at hl 0 rfl) ?_
      refine W.lcmp hx hb d_L_law_657 ?_
      refine lv_if_eq (tgt := 663) hx hb d_L_law_658 rfl (fun hc658 => ?_) (fun hc658 => ?_)
      · skip
        refine lv_goto (tgt := 1021) hx hb d_L_law_663 rfl ?_
        have hl := lv_sub hl (l' := [(0, .ref b), (1, .ref ta.qv), (2, .ref tb.qm), (3, .ref qo), (4, .int (nI (2 + 5 * n9)))]) [2, 3, 4, 5, 6] rfl
        refine W.widen (k := 100 + 16 * n9 + 12) (n := 7000 + 120 * n9 + 100) (by first | omega | (dsimp only; omega)) (by first | omega | (dsimp only; omega)) ?_
        exact kk _ _ _ _ ls H locs hi9 hl hP hD hS
      · skip
        exact absurd (by rw [hout9 hcd9]; exact lg_self _) hc658
  · skip
    exact absurd rfl hc642
set_option maxHeartbeats 8000000 in
set_option maxRecDepth 100000 in
theorem lc_length {p : Program} {l : Launch} {e : Env} {s : State} {m : MethodId} {below : List Frame} {meth : Method} {c : Code} {b L : Nat} {xs : Nat → Int32} {D : va_G} {cI cZ cQ cJ : ClassId} {ta : VA} {tb : MA} {qo : Nat} {A : Nat → Prop} {Q : State → Prop} (hst : l.stackTraces = false) (hx : p.tables.exec = Jvm.exec) (hb : c.code = b_L_law) (hml : c.maxLocals = 8) (hown : s.vm.findClass R_L = some m.cls) (hts : ∀ w ∈ bw, w.before #[Value.ref b] s = true) (hXs : va_X b L xs s s.heap) (hbl : b < s.heap.size) (hbA : ¬ A b) (hL : L ≤ 2562) (hK : va_K D cls (tyJ cI cZ cQ cJ) s) (hA : ∀ q : Nat, s.heap.size ≤ q → A q) (hX : xf A s s.heap) (hN : xN s) (ga : geo ta.k ta.n ta.hh ta.ff) (hhL : ∀ i, i < ta.n + 1 → ta.hh i ∈ ta.L) (ffL : ∀ i, i < ta.n + 1 → ta.ff i ∈ ta.L) {n9 : Nat} {vs : VS} {zs : MS} {lz : Nat → Nat} {f : Nat → Int64} {ls : Array Slot} {H : Heap} {locs : List Loc} (hinv : inv ta.k ta.n ta.hh lz n9 vs zs) (hn9 : n9 ≤ 511) (hi5 : 2 + 5 * n9 + 5 ≤ L) (hl : lv_has ls 8 [(0, .ref b), (1, .ref ta.qv), (2, .ref tb.qm), (3, .ref qo), (4, .int (nI (2 + 5 * n9)))]) (hP : va_P D cls (oC cJ qo f ++ (vX cI cZ cQ ta vs ++ mX cI cZ ta tb zs)) H) (hD : va_D A (oC cJ qo f ++ (vX cI cZ cQ ta vs ++ mX cI cZ ta tb zs))) (hS : va_S A s.heap H locs) (kk : ∀ (vs1 : VS) (zs1 : MS) (lz1 : Nat → Nat) (f1 : Nat → Int64) (ls : Array Slot) (H : Heap) (locs : List Loc), inv ta.k ta.n ta.hh lz1 (n9 + 1) vs1 zs1 → lv_has ls 8 [(0, .ref b), (1, .ref ta.qv), (2, .ref tb.qm), (3, .ref qo), (4, .int (nI (2 + 5 * n9)))] → va_P D cls (oC cJ qo f1 ++ (vX cI cZ cQ ta vs1 ++ mX cI cZ ta tb zs1)) H → va_D A (oC cJ qo f1 ++ (vX cI cZ cQ ta vs1 ++ mX cI cZ ta tb zs1)) → va_S A s.heap H locs → W p l e room_1 s m #[Value.ref b] below meth c H locs (100 + 16 * n9 + 12) (7000 + 120 * n9 + 100) Q (F0 m 1021 ls [])) : W p l e room_1 s m #[Value.ref b] below meth c H locs (100 + 16 * n9) (7000 + 120 * n9) Q (F0 m 666 ls []) := by
  refine lv_aload_n hx hb d_L_law_666 rfl (lv_at hl 1 rfl) ?_
  refine lv_aload_n hx hb d_L_law_667 rfl (lv_at hl 0 rfl) ?_
  refine lv_iload hx hb d_L_law_668 (lv_at hl 4 rfl) ?_
  refine lv_iconst (v := nI 1) hx hb d_L_law_670 (by decide) ?_
  refine lv_iadd hx hb d_L_law_671 ?_
  refine sd_top (y := nI (2 + 5 * n9 + 1)) (nI_add _ _) ?_
  refine sd_sld hx hb hXs hbl hbA hS (j := 2 + 5 * n9 + 1) (by omega) (by omega) d_L_law_672 ?_
  refine lv_aload_n hx hb d_L_law_673 rfl (lv_at hl 3 rfl) ?_
  obtain ⟨zs1, r9, vs1, lz1, hM9, hi9, hV9⟩ := op_length (l := l) (D := D) (cI := cI) (cZ := cZ) (cQ := cQ) (b := tb) hst ga hhL ffL hinv (by omega) (xs (2 + 5 * n9 + 1))
  obtain ⟨f1, ⟨rl, hrl, hL9⟩, hout9⟩ := lo_length qo cJ f (xs (2 + 5 * n9 + 1)) hV9
  obtain ⟨hrl1, hrl2, hrl3, hrl4⟩ := hrl
  refine md_SH (X := []) (C := oC cJ qo f ++ vX cI cZ cQ ta vs) (C' := oC cJ qo f1 ++ vX cI cZ cQ ta vs1) (Z := mX cI cZ ta tb zs) (As := [.ref ta.qv, .int (xs (2 + 5 * n9 + 1)), .ref qo]) (rest := []) hL9 wc_L_length wm_L_120 wi_L ⟨by decide, by decide, show (parseMethodDescriptor y_L_length.desc).map (fun d => d.parameters.length) = some 3 by decide +kernel⟩ ws_L_length hx hb hml hown hts hl.1 ⟨by show rl.frames + 1 ≤ room_1.frames; have e9 : room_1.frames = 11 := rfl; omega, by show 8 + (4 + 11) + rl.locals ≤ room_1.locals; have e9 : room_1.locals = 398 := rfl; omega⟩ ⟨by show 100 + 16 * n9 + rl.cells ≤ room_1.cells; have e9 : room_1.cells = 601024 := rfl; omega, by show 7000 + 120 * n9 + rl.slots ≤ room_1.slots; have e9 : room_1.slots = 7293000 := rfl; omega⟩ hK hP hD hS hA hX hN (by rw [List.map_append, List.map_append, vX_adr _ _ _ _ vs vs1]; rfl) rfl (Nat.le_of_ble_eq_true rfl) d_L_law_674 (fun H locs hP hD hS => ?_)
  have hP : va_P D cls (oC cJ qo f1 ++ (vX cI cZ cQ ta vs1 ++ mX cI cZ ta tb zs)) H := hP
  have hD : va_D A (oC cJ qo f1 ++ (vX cI cZ cQ ta vs1 ++ mX cI cZ ta tb zs)) := hD
  refine lv_istore hx hb d_L_law_677 hl (Nat.le_of_ble_eq_true rfl) (lv' := [(5, .int (zs1.cd)), (0, .ref b), (1, .ref ta.qv), (2, .ref tb.qm), (3, .ref qo), (4, .int (nI (2 + 5 * n9)))]) rfl (fun ls hl => ?_)
  refine lv_aload_n hx hb d_L_law_679 rfl (lv_at hl 3 rfl) ?_
  refine lv_aload_n hx hb d_L_law_680 rfl (lv_at hl 1 rfl) ?_
  refine lv_iload hx hb d_L_law_681 (lv_at hl 5 rfl) ?_
  refine lv_iconst (v := nI 1) hx hb d_L_law_683 (by decide) ?_
  refine lv_iadd hx hb d_L_law_684 ?_
  refine sd_top (y := nI (2 + 5 * n9 + 1)) (nI_add _ _) ?_
  refine sd_sld hx hb hXs hbl hbA hS (j := 2 + 5 * n9 + 1) (by omega) (by omega) d_L_law_685 ?_
  obtain ⟨rm9, hrm9, hM9⟩ := hM9
  obtain ⟨hrm91, hrm92, hrm93, hrm94⟩ := hrm9
  have hP : va_P D cls ((oC cJ qo f1 ++ vX cI cZ cQ ta vs1) ++ (mX cI cZ ta tb zs ++ [])) H := by rw [List.append_nil, List.append_assoc]; exact hP
  have hD : va_D A ((oC cJ qo f1 ++ vX cI cZ cQ ta vs1) ++ (mX cI cZ ta tb zs ++ [])) := by rw [List.append_nil, List.append_assoc]; exact hD
  refine md_VI (C := mX cI cZ ta tb zs) (C' := mX cI cZ ta tb zs1) (Z := []) (As := [.int (xs (2 + 5 * n9 + 1))]) (rest := []) hM9 ⟨wc_M_length, wm_L_122, wi_M, by decide, by decide, show (parseMethodDescriptor y_M_length.desc).map (fun d => d.parameters.length) = some 1 by decide +kernel⟩ wo_M_length wz_M_length hx hb hml hown hts hl.1 ⟨by show rm9.frames + 1 ≤ room_1.frames; have e9 : room_1.frames = 11 := rfl; omega, by show 8 + (2 + 11) + rm9.locals ≤ room_1.locals; have e9 : room_1.locals = 398 := rfl; omega⟩ ⟨by show 100 + 16 * n9 + rl.cells + rm9.cells ≤ room_1.cells; have e9 : room_1.cells = 601024 := rfl; omega, by show 7000 + 120 * n9 + rl.slots + rm9.slots ≤ room_1.slots; have e9 : room_1.slots = 7293000 := rfl; omega⟩ (ty_J hK) hP hD hS hA (mX_adr _ _ _ _ _ _) (q0 := 0) rfl rfl rfl (Nat.le_of_ble_eq_true rfl) d_L_law_686 (fun H locs hP hD hS => ?_)
  rw [List.append_nil, List.append_assoc] at hP hD
  have hP : va_P D cls (oC cJ qo f1 ++ (vX cI cZ cQ ta vs1 ++ mX cI cZ ta tb zs1)) H := hP
  have hD : va_D A (oC cJ qo f1 ++ (vX cI cZ cQ ta vs1 ++ mX cI cZ ta tb zs1)) := hD
  refine lv_istore hx hb d_L_law_689 hl (Nat.le_of_ble_eq_true rfl) (lv' := [(6, .int (r9)), (5, .int (zs1.cd)), (0, .ref b), (1, .ref ta.qv), (2, .ref tb.qm), (3, .ref qo), (4, .int (nI (2 + 5 * n9)))]) rfl (fun ls hl => ?_)
  refine lv_aload_n hx hb d_L_law_691 rfl (lv_at hl 4 rfl) ?_
  have hM8 := (c_M_thrown l D cI cZ cQ (tb.qm) (tb.mp) (tb.mt) (tb.ml) (tb.mc) (tb.mf) (tb.me) (tb.mg) (tb.mh) (tb.mu) (ta.k) (ta.n) (zs1.pn) (zs1.nx) (zs1.cd) (zs1.ep) (zs1.M) (zs1.wi) (zs1.jb) (zs1.fp) (zs1.tf) (zs1.tt) (zs1.fi) (zs1.ln) (zs1.bx) (zs1.pr) (zs1.tk) (zs1.le) (zs1.co) (zs1.fr) (zs1.em) (zs1.nb) (zs1.su) (by have := ga.kn; have := ga.n9; omega) (ga.n9))
  have hP : va_P D cls ((oC cJ qo f1 ++ vX cI cZ cQ ta vs1) ++ (mX cI cZ ta tb zs1 ++ [])) H := by rw [List.append_nil, List.append_assoc]; exact hP
  have hD : va_D A ((oC cJ qo f1 ++ vX cI cZ cQ ta vs1) ++ (mX cI cZ ta tb zs1 ++ [])) := by rw [List.append_nil, List.append_assoc]; exact hD
  refine md_VI (C := mX cI cZ ta tb zs1) (C' := mX cI cZ ta tb zs1) (Z := []) (As := []) (rest := []) hM8 ⟨wc_M_thrown, wm_L_81, wi_M, by decide, by decide, show (parseMethodDescriptor y_M_thrown.desc).map (fun d => d.parameters.length) = some 0 by decide +kernel⟩ wo_M_thrown wz_M_thrown hx hb hml hown hts hl.1 ⟨by show 0 + 1 ≤ room_1.frames; decide, by decide⟩ ⟨by show 100 + 16 * n9 + rl.cells + rm9.cells + 0 ≤ room_1.cells; have e9 : room_1.cells = 601024 := rfl; omega, by show 7000 + 120 * n9 + rl.slots + rm9.slots + 0 ≤ room_1.slots; have e9 : room_1.slots = 7293000 := rfl; omega⟩ (ty_J hK) hP hD hS hA (mX_adr _ _ _ _ _ _) (q0 := 0) rfl rfl rfl (Nat.le_of_ble_eq_true rfl) d_L_law_692 (fun H locs hP hD hS => ?_)
  rw [List.append_nil, List.append_assoc] at hP hD
  have hP : va_P D cls (oC cJ qo f1 ++ (vX cI cZ cQ ta vs1 ++ mX cI cZ ta tb zs1)) H := hP
  have hD : va_D A (oC cJ qo f1 ++ (vX cI cZ cQ ta vs1 ++ mX cI cZ ta tb zs1)) := hD
  refine lv_iload hx hb d_L_law_695 (lv_at hl 1 rfl) ?_
  refine lv_icmp_eq (tgt := 702) hx hb d_L_law_697 rfl (fun hc697 => ?_) (fun hc697 => ?_)
  · skip
    refine lv_iload hx hb d_L_law_702 (lv_at hl 1 rfl) ?_
    refine lv_if_ne (tgt := 719) hx hb d_L_law_704 rfl (fun hc704 => ?_) (fun hc704 => ?_)
    · skip
      refine lv_goto (tgt := 1021) hx hb d_L_law_719 rfl ?_
      have hl := lv_sub hl (l' := [(0, .ref b), (1, .ref ta.qv), (2, .ref tb.qm), (3, .ref qo), (4, .int (nI (2 + 5 * n9)))]) [2, 3, 4, 5, 6] rfl
      refine W.widen (k := 100 + 16 * n9 + 12) (n := 7000 + 120 * n9 + 100) (by first | omega | (dsimp only; omega)) (by first | omega | (dsimp only; omega)) ?_
      exact kk _ _ _ _ ls H locs hi9 hl hP hD hS
    · skip
      have hcd9 : zs1.cd = 0 := hc704
      refine lv_aload_n hx hb d_L_law_707 rfl (lv_at hl 5 rfl) ?_
      refine lv_iconst (v := 0) hx hb d_L_law_708 (by decide) ?_
      refine va_lald hx hb hK hP 0 3 rfl rfl (by unfold vp_in; decide) d_L_law_709 ?_
      refine sd_topl (y := f1 0) rfl ?_
      refine lv_iload hx hb d_L_law_710 (lv_at hl 0 rfl) ?_
      refine lv_i2l hx hb d_L_law_712 rfl ?_
      refine W.lcmp hx hb d_L_law_713 ?_
      refine lv_if_eq (tgt := 719) hx hb d_L_law_714 rfl (fun hc714 => ?_) (fun hc714 => ?_)
      · skip
        refine lv_goto (tgt := 1021) hx hb d_L_law_719 rfl ?_
        have hl := lv_sub hl (l' := [(0, .ref b), (1, .ref ta.qv), (2, .ref tb.qm), (3, .ref qo), (4, .int (nI (2 + 5 * n9)))]) [2, 3, 4, 5, 6] rfl
        refine W.widen (k := 100 + 16 * n9 + 12) (n := 7000 + 120 * n9 + 100) (by first | omega | (dsimp only; omega)) (by first | omega | (dsimp only; omega)) ?_
        exact kk _ _ _ _ ls H locs hi9 hl hP hD hS
      · skip
        exact absurd (by rw [hout9 hcd9]; exact lg_self _) hc714
  · skip
    exact absurd rfl hc697
set_option maxHeartbeats 8000000 in
set_option maxRecDepth 100000 in
theorem lc_share {p : Program} {l : Launch} {e : Env} {s : State} {m : MethodId} {below : List Frame} {meth : Method} {c : Code} {b L : Nat} {xs : Nat → Int32} {D : va_G} {cI cZ cQ cJ : ClassId} {ta : VA} {tb : MA} {qo : Nat} {A : Nat → Prop} {Q : State → Prop} (hst : l.stackTraces = false) (hx : p.tables.exec = Jvm.exec) (hb : c.code = b_L_law) (hml : c.maxLocals = 8) (hown : s.vm.findClass R_L = some m.cls) (hts : ∀ w ∈ bw, w.before #[Value.ref b] s = true) (hXs : va_X b L xs s s.heap) (hbl : b < s.heap.size) (hbA : ¬ A b) (hL : L ≤ 2562) (hK : va_K D cls (tyJ cI cZ cQ cJ) s) (hA : ∀ q : Nat, s.heap.size ≤ q → A q) (hX : xf A s s.heap) (hN : xN s) (ga : geo ta.k ta.n ta.hh ta.ff) (hhL : ∀ i, i < ta.n + 1 → ta.hh i ∈ ta.L) (ffL : ∀ i, i < ta.n + 1 → ta.ff i ∈ ta.L) {n9 : Nat} {vs : VS} {zs : MS} {lz : Nat → Nat} {f : Nat → Int64} {ls : Array Slot} {H : Heap} {locs : List Loc} (hinv : inv ta.k ta.n ta.hh lz n9 vs zs) (hn9 : n9 ≤ 511) (hi5 : 2 + 5 * n9 + 5 ≤ L) (hl : lv_has ls 8 [(0, .ref b), (1, .ref ta.qv), (2, .ref tb.qm), (3, .ref qo), (4, .int (nI (2 + 5 * n9)))]) (hP : va_P D cls (oC cJ qo f ++ (vX cI cZ cQ ta vs ++ mX cI cZ ta tb zs)) H) (hD : va_D A (oC cJ qo f ++ (vX cI cZ cQ ta vs ++ mX cI cZ ta tb zs))) (hS : va_S A s.heap H locs) (kk : ∀ (vs1 : VS) (zs1 : MS) (lz1 : Nat → Nat) (f1 : Nat → Int64) (ls : Array Slot) (H : Heap) (locs : List Loc), inv ta.k ta.n ta.hh lz1 (n9 + 1) vs1 zs1 → lv_has ls 8 [(0, .ref b), (1, .ref ta.qv), (2, .ref tb.qm), (3, .ref qo), (4, .int (nI (2 + 5 * n9)))] → va_P D cls (oC cJ qo f1 ++ (vX cI cZ cQ ta vs1 ++ mX cI cZ ta tb zs1)) H → va_D A (oC cJ qo f1 ++ (vX cI cZ cQ ta vs1 ++ mX cI cZ ta tb zs1)) → va_S A s.heap H locs → W p l e room_1 s m #[Value.ref b] below meth c H locs (100 + 16 * n9 + 12) (7000 + 120 * n9 + 100) Q (F0 m 1021 ls [])) : W p l e room_1 s m #[Value.ref b] below meth c H locs (100 + 16 * n9) (7000 + 120 * n9) Q (F0 m 722 ls []) := by
  refine lv_aload_n hx hb d_L_law_722 rfl (lv_at hl 1 rfl) ?_
  refine lv_aload_n hx hb d_L_law_723 rfl (lv_at hl 0 rfl) ?_
  refine lv_iload hx hb d_L_law_724 (lv_at hl 4 rfl) ?_
  refine lv_iconst (v := nI 1) hx hb d_L_law_726 (by decide) ?_
  refine lv_iadd hx hb d_L_law_727 ?_
  refine sd_top (y := nI (2 + 5 * n9 + 1)) (nI_add _ _) ?_
  refine sd_sld hx hb hXs hbl hbA hS (j := 2 + 5 * n9 + 1) (by omega) (by omega) d_L_law_728 ?_
  refine lv_aload_n hx hb d_L_law_729 rfl (lv_at hl 0 rfl) ?_
  refine lv_iload hx hb d_L_law_730 (lv_at hl 4 rfl) ?_
  refine lv_iconst (v := nI 2) hx hb d_L_law_732 (by decide) ?_
  refine lv_iadd hx hb d_L_law_733 ?_
  refine sd_top (y := nI (2 + 5 * n9 + 2)) (nI_add _ _) ?_
  refine sd_sld hx hb hXs hbl hbA hS (j := 2 + 5 * n9 + 2) (by omega) (by omega) d_L_law_734 ?_
  refine lv_aload_n hx hb d_L_law_735 rfl (lv_at hl 0 rfl) ?_
  refine lv_iload hx hb d_L_law_736 (lv_at hl 4 rfl) ?_
  refine lv_iconst (v := nI 3) hx hb d_L_law_738 (by decide) ?_
  refine lv_iadd hx hb d_L_law_739 ?_
  refine sd_top (y := nI (2 + 5 * n9 + 3)) (nI_add _ _) ?_
  refine sd_sld hx hb hXs hbl hbA hS (j := 2 + 5 * n9 + 3) (by omega) (by omega) d_L_law_740 ?_
  refine lv_aload_n hx hb d_L_law_741 rfl (lv_at hl 3 rfl) ?_
  obtain ⟨zs1, r9, vs1, lz1, hM9, hi9, hV9⟩ := op_share (l := l) (D := D) (cI := cI) (cZ := cZ) (cQ := cQ) (b := tb) hst ga hhL ffL hinv (by omega) (xs (2 + 5 * n9 + 1)) (xs (2 + 5 * n9 + 2)) (xs (2 + 5 * n9 + 3))
  obtain ⟨f1, ⟨rl, hrl, hL9⟩, hout9⟩ := lo_share qo cJ f (xs (2 + 5 * n9 + 1)) (xs (2 + 5 * n9 + 2)) (xs (2 + 5 * n9 + 3)) hV9
  obtain ⟨hrl1, hrl2, hrl3, hrl4⟩ := hrl
  refine md_SH (X := []) (C := oC cJ qo f ++ vX cI cZ cQ ta vs) (C' := oC cJ qo f1 ++ vX cI cZ cQ ta vs1) (Z := mX cI cZ ta tb zs) (As := [.ref ta.qv, .int (xs (2 + 5 * n9 + 1)), .int (xs (2 + 5 * n9 + 2)), .int (xs (2 + 5 * n9 + 3)), .ref qo]) (rest := []) hL9 wc_L_share wm_L_123 wi_L ⟨by decide, by decide, show (parseMethodDescriptor y_L_share.desc).map (fun d => d.parameters.length) = some 5 by decide +kernel⟩ ws_L_share hx hb hml hown hts hl.1 ⟨by show rl.frames + 1 ≤ room_1.frames; have e9 : room_1.frames = 11 := rfl; omega, by show 8 + (6 + 11) + rl.locals ≤ room_1.locals; have e9 : room_1.locals = 398 := rfl; omega⟩ ⟨by show 100 + 16 * n9 + rl.cells ≤ room_1.cells; have e9 : room_1.cells = 601024 := rfl; omega, by show 7000 + 120 * n9 + rl.slots ≤ room_1.slots; have e9 : room_1.slots = 7293000 := rfl; omega⟩ hK hP hD hS hA hX hN (by rw [List.map_append, List.map_append, vX_adr _ _ _ _ vs vs1]; rfl) rfl (Nat.le_of_ble_eq_true rfl) d_L_law_742 (fun H locs hP hD hS => ?_)
  have hP : va_P D cls (oC cJ qo f1 ++ (vX cI cZ cQ ta vs1 ++ mX cI cZ ta tb zs)) H := hP
  have hD : va_D A (oC cJ qo f1 ++ (vX cI cZ cQ ta vs1 ++ mX cI cZ ta tb zs)) := hD
  refine lv_istore hx hb d_L_law_745 hl (Nat.le_of_ble_eq_true rfl) (lv' := [(5, .int (zs1.cd)), (0, .ref b), (1, .ref ta.qv), (2, .ref tb.qm), (3, .ref qo), (4, .int (nI (2 + 5 * n9)))]) rfl (fun ls hl => ?_)
  refine lv_aload_n hx hb d_L_law_747 rfl (lv_at hl 3 rfl) ?_
  refine lv_aload_n hx hb d_L_law_748 rfl (lv_at hl 1 rfl) ?_
  refine lv_iload hx hb d_L_law_749 (lv_at hl 5 rfl) ?_
  refine lv_iconst (v := nI 1) hx hb d_L_law_751 (by decide) ?_
  refine lv_iadd hx hb d_L_law_752 ?_
  refine sd_top (y := nI (2 + 5 * n9 + 1)) (nI_add _ _) ?_
  refine sd_sld hx hb hXs hbl hbA hS (j := 2 + 5 * n9 + 1) (by omega) (by omega) d_L_law_753 ?_
  refine lv_aload_n hx hb d_L_law_754 rfl (lv_at hl 1 rfl) ?_
  refine lv_iload hx hb d_L_law_755 (lv_at hl 5 rfl) ?_
  refine lv_iconst (v := nI 2) hx hb d_L_law_757 (by decide) ?_
  refine lv_iadd hx hb d_L_law_758 ?_
  refine sd_top (y := nI (2 + 5 * n9 + 2)) (nI_add _ _) ?_
  refine sd_sld hx hb hXs hbl hbA hS (j := 2 + 5 * n9 + 2) (by omega) (by omega) d_L_law_759 ?_
  refine lv_aload_n hx hb d_L_law_760 rfl (lv_at hl 1 rfl) ?_
  refine lv_iload hx hb d_L_law_761 (lv_at hl 5 rfl) ?_
  refine lv_iconst (v := nI 3) hx hb d_L_law_763 (by decide) ?_
  refine lv_iadd hx hb d_L_law_764 ?_
  refine sd_top (y := nI (2 + 5 * n9 + 3)) (nI_add _ _) ?_
  refine sd_sld hx hb hXs hbl hbA hS (j := 2 + 5 * n9 + 3) (by omega) (by omega) d_L_law_765 ?_
  obtain ⟨rm9, hrm9, hM9⟩ := hM9
  obtain ⟨hrm91, hrm92, hrm93, hrm94⟩ := hrm9
  have hP : va_P D cls ((oC cJ qo f1 ++ vX cI cZ cQ ta vs1) ++ (mX cI cZ ta tb zs ++ [])) H := by rw [List.append_nil, List.append_assoc]; exact hP
  have hD : va_D A ((oC cJ qo f1 ++ vX cI cZ cQ ta vs1) ++ (mX cI cZ ta tb zs ++ [])) := by rw [List.append_nil, List.append_assoc]; exact hD
  refine md_VI (C := mX cI cZ ta tb zs) (C' := mX cI cZ ta tb zs1) (Z := []) (As := [.int (xs (2 + 5 * n9 + 1)), .int (xs (2 + 5 * n9 + 2)), .int (xs (2 + 5 * n9 + 3))]) (rest := []) hM9 ⟨wc_M_share, wm_L_126, wi_M, by decide, by decide, show (parseMethodDescriptor y_M_share.desc).map (fun d => d.parameters.length) = some 3 by decide +kernel⟩ wo_M_share wz_M_share hx hb hml hown hts hl.1 ⟨by show rm9.frames + 1 ≤ room_1.frames; have e9 : room_1.frames = 11 := rfl; omega, by show 8 + (4 + 11) + rm9.locals ≤ room_1.locals; have e9 : room_1.locals = 398 := rfl; omega⟩ ⟨by show 100 + 16 * n9 + rl.cells + rm9.cells ≤ room_1.cells; have e9 : room_1.cells = 601024 := rfl; omega, by show 7000 + 120 * n9 + rl.slots + rm9.slots ≤ room_1.slots; have e9 : room_1.slots = 7293000 := rfl; omega⟩ (ty_J hK) hP hD hS hA (mX_adr _ _ _ _ _ _) (q0 := 0) rfl rfl rfl (Nat.le_of_ble_eq_true rfl) d_L_law_766 (fun H locs hP hD hS => ?_)
  rw [List.append_nil, List.append_assoc] at hP hD
  have hP : va_P D cls (oC cJ qo f1 ++ (vX cI cZ cQ ta vs1 ++ mX cI cZ ta tb zs1)) H := hP
  have hD : va_D A (oC cJ qo f1 ++ (vX cI cZ cQ ta vs1 ++ mX cI cZ ta tb zs1)) := hD
  refine lv_istore hx hb d_L_law_769 hl (Nat.le_of_ble_eq_true rfl) (lv' := [(6, .int (r9)), (5, .int (zs1.cd)), (0, .ref b), (1, .ref ta.qv), (2, .ref tb.qm), (3, .ref qo), (4, .int (nI (2 + 5 * n9)))]) rfl (fun ls hl => ?_)
  refine lv_aload_n hx hb d_L_law_771 rfl (lv_at hl 4 rfl) ?_
  have hM8 := (c_M_thrown l D cI cZ cQ (tb.qm) (tb.mp) (tb.mt) (tb.ml) (tb.mc) (tb.mf) (tb.me) (tb.mg) (tb.mh) (tb.mu) (ta.k) (ta.n) (zs1.pn) (zs1.nx) (zs1.cd) (zs1.ep) (zs1.M) (zs1.wi) (zs1.jb) (zs1.fp) (zs1.tf) (zs1.tt) (zs1.fi) (zs1.ln) (zs1.bx) (zs1.pr) (zs1.tk) (zs1.le) (zs1.co) (zs1.fr) (zs1.em) (zs1.nb) (zs1.su) (by have := ga.kn; have := ga.n9; omega) (ga.n9))
  have hP : va_P D cls ((oC cJ qo f1 ++ vX cI cZ cQ ta vs1) ++ (mX cI cZ ta tb zs1 ++ [])) H := by rw [List.append_nil, List.append_assoc]; exact hP
  have hD : va_D A ((oC cJ qo f1 ++ vX cI cZ cQ ta vs1) ++ (mX cI cZ ta tb zs1 ++ [])) := by rw [List.append_nil, List.append_assoc]; exact hD
  refine md_VI (C := mX cI cZ ta tb zs1) (C' := mX cI cZ ta tb zs1) (Z := []) (As := []) (rest := []) hM8 ⟨wc_M_thrown, wm_L_81, wi_M, by decide, by decide, show (parseMethodDescriptor y_M_thrown.desc).map (fun d => d.parameters.length) = some 0 by decide +kernel⟩ wo_M_thrown wz_M_thrown hx hb hml hown hts hl.1 ⟨by show 0 + 1 ≤ room_1.frames; decide, by decide⟩ ⟨by show 100 + 16 * n9 + rl.cells + rm9.cells + 0 ≤ room_1.cells; have e9 : room_1.cells = 601024 := rfl; omega, by show 7000 + 120 * n9 + rl.slots + rm9.slots + 0 ≤ room_1.slots; have e9 : room_1.slots = 7293000 := rfl; omega⟩ (ty_J hK) hP hD hS hA (mX_adr _ _ _ _ _ _) (q0 := 0) rfl rfl rfl (Nat.le_of_ble_eq_true rfl) d_L_law_772 (fun H locs hP hD hS => ?_)
  rw [List.append_nil, List.append_assoc] at hP hD
  have hP : va_P D cls (oC cJ qo f1 ++ (vX cI cZ cQ ta vs1 ++ mX cI cZ ta tb zs1)) H := hP
  have hD : va_D A (oC cJ qo f1 ++ (vX cI cZ cQ ta vs1 ++ mX cI cZ ta tb zs1)) := hD
  refine lv_iload hx hb d_L_law_775 (lv_at hl 1 rfl) ?_
  refine lv_icmp_eq (tgt := 782) hx hb d_L_law_777 rfl (fun hc777 => ?_) (fun hc777 => ?_)
  · skip
    refine lv_iload hx hb d_L_law_782 (lv_at hl 1 rfl) ?_
    refine lv_if_ne (tgt := 799) hx hb d_L_law_784 rfl (fun hc784 => ?_) (fun hc784 => ?_)
    · skip
      refine lv_goto (tgt := 1021) hx hb d_L_law_799 rfl ?_
      have hl := lv_sub hl (l' := [(0, .ref b), (1, .ref ta.qv), (2, .ref tb.qm), (3, .ref qo), (4, .int (nI (2 + 5 * n9)))]) [2, 3, 4, 5, 6] rfl
      refine W.widen (k := 100 + 16 * n9 + 12) (n := 7000 + 120 * n9 + 100) (by first | omega | (dsimp only; omega)) (by first | omega | (dsimp only; omega)) ?_
      exact kk _ _ _ _ ls H locs hi9 hl hP hD hS
    · skip
      have hcd9 : zs1.cd = 0 := hc784
      refine lv_aload_n hx hb d_L_law_787 rfl (lv_at hl 5 rfl) ?_
      refine lv_iconst (v := 0) hx hb d_L_law_788 (by decide) ?_
      refine va_lald hx hb hK hP 0 3 rfl rfl (by unfold vp_in; decide) d_L_law_789 ?_
      refine sd_topl (y := f1 0) rfl ?_
      refine lv_iload hx hb d_L_law_790 (lv_at hl 0 rfl) ?_
      refine lv_i2l hx hb d_L_law_792 rfl ?_
      refine W.lcmp hx hb d_L_law_793 ?_
      refine lv_if_eq (tgt := 799) hx hb d_L_law_794 rfl (fun hc794 => ?_) (fun hc794 => ?_)
      · skip
        refine lv_goto (tgt := 1021) hx hb d_L_law_799 rfl ?_
        have hl := lv_sub hl (l' := [(0, .ref b), (1, .ref ta.qv), (2, .ref tb.qm), (3, .ref qo), (4, .int (nI (2 + 5 * n9)))]) [2, 3, 4, 5, 6] rfl
        refine W.widen (k := 100 + 16 * n9 + 12) (n := 7000 + 120 * n9 + 100) (by first | omega | (dsimp only; omega)) (by first | omega | (dsimp only; omega)) ?_
        exact kk _ _ _ _ ls H locs hi9 hl hP hD hS
      · skip
        exact absurd (by rw [hout9 hcd9]; exact lg_self _) hc794
  · skip
    exact absurd rfl hc777
set_option maxHeartbeats 8000000 in
set_option maxRecDepth 100000 in
theorem lc_forget {p : Program} {l : Launch} {e : Env} {s : State} {m : MethodId} {below : List Frame} {meth : Method} {c : Code} {b L : Nat} {xs : Nat → Int32} {D : va_G} {cI cZ cQ cJ : ClassId} {ta : VA} {tb : MA} {qo : Nat} {A : Nat → Prop} {Q : State → Prop} (hst : l.stackTraces = false) (hx : p.tables.exec = Jvm.exec) (hb : c.code = b_L_law) (hml : c.maxLocals = 8) (hown : s.vm.findClass R_L = some m.cls) (hts : ∀ w ∈ bw, w.before #[Value.ref b] s = true) (hXs : va_X b L xs s s.heap) (hbl : b < s.heap.size) (hbA : ¬ A b) (hL : L ≤ 2562) (hK : va_K D cls (tyJ cI cZ cQ cJ) s) (hA : ∀ q : Nat, s.heap.size ≤ q → A q) (hX : xf A s s.heap) (hN : xN s) (ga : geo ta.k ta.n ta.hh ta.ff) (hhL : ∀ i, i < ta.n + 1 → ta.hh i ∈ ta.L) (ffL : ∀ i, i < ta.n + 1 → ta.ff i ∈ ta.L) {n9 : Nat} {vs : VS} {zs : MS} {lz : Nat → Nat} {f : Nat → Int64} {ls : Array Slot} {H : Heap} {locs : List Loc} (hinv : inv ta.k ta.n ta.hh lz n9 vs zs) (hn9 : n9 ≤ 511) (hi5 : 2 + 5 * n9 + 5 ≤ L) (hl : lv_has ls 8 [(0, .ref b), (1, .ref ta.qv), (2, .ref tb.qm), (3, .ref qo), (4, .int (nI (2 + 5 * n9)))]) (hP : va_P D cls (oC cJ qo f ++ (vX cI cZ cQ ta vs ++ mX cI cZ ta tb zs)) H) (hD : va_D A (oC cJ qo f ++ (vX cI cZ cQ ta vs ++ mX cI cZ ta tb zs))) (hS : va_S A s.heap H locs) (kk : ∀ (vs1 : VS) (zs1 : MS) (lz1 : Nat → Nat) (f1 : Nat → Int64) (ls : Array Slot) (H : Heap) (locs : List Loc), inv ta.k ta.n ta.hh lz1 (n9 + 1) vs1 zs1 → lv_has ls 8 [(0, .ref b), (1, .ref ta.qv), (2, .ref tb.qm), (3, .ref qo), (4, .int (nI (2 + 5 * n9)))] → va_P D cls (oC cJ qo f1 ++ (vX cI cZ cQ ta vs1 ++ mX cI cZ ta tb zs1)) H → va_D A (oC cJ qo f1 ++ (vX cI cZ cQ ta vs1 ++ mX cI cZ ta tb zs1)) → va_S A s.heap H locs → W p l e room_1 s m #[Value.ref b] below meth c H locs (100 + 16 * n9 + 12) (7000 + 120 * n9 + 100) Q (F0 m 1021 ls [])) : W p l e room_1 s m #[Value.ref b] below meth c H locs (100 + 16 * n9) (7000 + 120 * n9) Q (F0 m 802 ls []) := by
  refine lv_aload_n hx hb d_L_law_802 rfl (lv_at hl 1 rfl) ?_
  refine lv_aload_n hx hb d_L_law_803 rfl (lv_at hl 0 rfl) ?_
  refine lv_iload hx hb d_L_law_804 (lv_at hl 4 rfl) ?_
  refine lv_iconst (v := nI 1) hx hb d_L_law_806 (by decide) ?_
  refine lv_iadd hx hb d_L_law_807 ?_
  refine sd_top (y := nI (2 + 5 * n9 + 1)) (nI_add _ _) ?_
  refine sd_sld hx hb hXs hbl hbA hS (j := 2 + 5 * n9 + 1) (by omega) (by omega) d_L_law_808 ?_
  refine lv_aload_n hx hb d_L_law_809 rfl (lv_at hl 3 rfl) ?_
  obtain ⟨zs1, r9, vs1, lz1, hM9, hi9, hV9⟩ := op_forget (l := l) (D := D) (cI := cI) (cZ := cZ) (cQ := cQ) (b := tb) hst ga hhL ffL hinv (by omega) (xs (2 + 5 * n9 + 1))
  obtain ⟨f1, ⟨rl, hrl, hL9⟩, hout9⟩ := lo_forget qo cJ f (xs (2 + 5 * n9 + 1)) hV9
  obtain ⟨hrl1, hrl2, hrl3, hrl4⟩ := hrl
  refine md_SH (X := []) (C := oC cJ qo f ++ vX cI cZ cQ ta vs) (C' := oC cJ qo f1 ++ vX cI cZ cQ ta vs1) (Z := mX cI cZ ta tb zs) (As := [.ref ta.qv, .int (xs (2 + 5 * n9 + 1)), .ref qo]) (rest := []) hL9 wc_L_forget wm_L_127 wi_L ⟨by decide, by decide, show (parseMethodDescriptor y_L_forget.desc).map (fun d => d.parameters.length) = some 3 by decide +kernel⟩ ws_L_forget hx hb hml hown hts hl.1 ⟨by show rl.frames + 1 ≤ room_1.frames; have e9 : room_1.frames = 11 := rfl; omega, by show 8 + (4 + 11) + rl.locals ≤ room_1.locals; have e9 : room_1.locals = 398 := rfl; omega⟩ ⟨by show 100 + 16 * n9 + rl.cells ≤ room_1.cells; have e9 : room_1.cells = 601024 := rfl; omega, by show 7000 + 120 * n9 + rl.slots ≤ room_1.slots; have e9 : room_1.slots = 7293000 := rfl; omega⟩ hK hP hD hS hA hX hN (by rw [List.map_append, List.map_append, vX_adr _ _ _ _ vs vs1]; rfl) rfl (Nat.le_of_ble_eq_true rfl) d_L_law_810 (fun H locs hP hD hS => ?_)
  have hP : va_P D cls (oC cJ qo f1 ++ (vX cI cZ cQ ta vs1 ++ mX cI cZ ta tb zs)) H := hP
  have hD : va_D A (oC cJ qo f1 ++ (vX cI cZ cQ ta vs1 ++ mX cI cZ ta tb zs)) := hD
  refine lv_istore hx hb d_L_law_813 hl (Nat.le_of_ble_eq_true rfl) (lv' := [(5, .int (zs1.cd)), (0, .ref b), (1, .ref ta.qv), (2, .ref tb.qm), (3, .ref qo), (4, .int (nI (2 + 5 * n9)))]) rfl (fun ls hl => ?_)
  refine lv_aload_n hx hb d_L_law_815 rfl (lv_at hl 3 rfl) ?_
  refine lv_aload_n hx hb d_L_law_816 rfl (lv_at hl 1 rfl) ?_
  refine lv_iload hx hb d_L_law_817 (lv_at hl 5 rfl) ?_
  refine lv_iconst (v := nI 1) hx hb d_L_law_819 (by decide) ?_
  refine lv_iadd hx hb d_L_law_820 ?_
  refine sd_top (y := nI (2 + 5 * n9 + 1)) (nI_add _ _) ?_
  refine sd_sld hx hb hXs hbl hbA hS (j := 2 + 5 * n9 + 1) (by omega) (by omega) d_L_law_821 ?_
  obtain ⟨rm9, hrm9, hM9⟩ := hM9
  obtain ⟨hrm91, hrm92, hrm93, hrm94⟩ := hrm9
  have hP : va_P D cls ((oC cJ qo f1 ++ vX cI cZ cQ ta vs1) ++ (mX cI cZ ta tb zs ++ [])) H := by rw [List.append_nil, List.append_assoc]; exact hP
  have hD : va_D A ((oC cJ qo f1 ++ vX cI cZ cQ ta vs1) ++ (mX cI cZ ta tb zs ++ [])) := by rw [List.append_nil, List.append_assoc]; exact hD
  refine md_VI (C := mX cI cZ ta tb zs) (C' := mX cI cZ ta tb zs1) (Z := []) (As := [.int (xs (2 + 5 * n9 + 1))]) (rest := []) hM9 ⟨wc_M_forget, wm_L_129, wi_M, by decide, by decide, show (parseMethodDescriptor y_M_forget.desc).map (fun d => d.parameters.length) = some 1 by decide +kernel⟩ wo_M_forget wz_M_forget hx hb hml hown hts hl.1 ⟨by show rm9.frames + 1 ≤ room_1.frames; have e9 : room_1.frames = 11 := rfl; omega, by show 8 + (2 + 11) + rm9.locals ≤ room_1.locals; have e9 : room_1.locals = 398 := rfl; omega⟩ ⟨by show 100 + 16 * n9 + rl.cells + rm9.cells ≤ room_1.cells; have e9 : room_1.cells = 601024 := rfl; omega, by show 7000 + 120 * n9 + rl.slots + rm9.slots ≤ room_1.slots; have e9 : room_1.slots = 7293000 := rfl; omega⟩ (ty_J hK) hP hD hS hA (mX_adr _ _ _ _ _ _) (q0 := 0) rfl rfl rfl (Nat.le_of_ble_eq_true rfl) d_L_law_822 (fun H locs hP hD hS => ?_)
  rw [List.append_nil, List.append_assoc] at hP hD
  have hP : va_P D cls (oC cJ qo f1 ++ (vX cI cZ cQ ta vs1 ++ mX cI cZ ta tb zs1)) H := hP
  have hD : va_D A (oC cJ qo f1 ++ (vX cI cZ cQ ta vs1 ++ mX cI cZ ta tb zs1)) := hD
  refine lv_istore hx hb d_L_law_825 hl (Nat.le_of_ble_eq_true rfl) (lv' := [(6, .int (r9)), (5, .int (zs1.cd)), (0, .ref b), (1, .ref ta.qv), (2, .ref tb.qm), (3, .ref qo), (4, .int (nI (2 + 5 * n9)))]) rfl (fun ls hl => ?_)
  refine lv_aload_n hx hb d_L_law_827 rfl (lv_at hl 4 rfl) ?_
  have hM8 := (c_M_thrown l D cI cZ cQ (tb.qm) (tb.mp) (tb.mt) (tb.ml) (tb.mc) (tb.mf) (tb.me) (tb.mg) (tb.mh) (tb.mu) (ta.k) (ta.n) (zs1.pn) (zs1.nx) (zs1.cd) (zs1.ep) (zs1.M) (zs1.wi) (zs1.jb) (zs1.fp) (zs1.tf) (zs1.tt) (zs1.fi) (zs1.ln) (zs1.bx) (zs1.pr) (zs1.tk) (zs1.le) (zs1.co) (zs1.fr) (zs1.em) (zs1.nb) (zs1.su) (by have := ga.kn; have := ga.n9; omega) (ga.n9))
  have hP : va_P D cls ((oC cJ qo f1 ++ vX cI cZ cQ ta vs1) ++ (mX cI cZ ta tb zs1 ++ [])) H := by rw [List.append_nil, List.append_assoc]; exact hP
  have hD : va_D A ((oC cJ qo f1 ++ vX cI cZ cQ ta vs1) ++ (mX cI cZ ta tb zs1 ++ [])) := by rw [List.append_nil, List.append_assoc]; exact hD
  refine md_VI (C := mX cI cZ ta tb zs1) (C' := mX cI cZ ta tb zs1) (Z := []) (As := []) (rest := []) hM8 ⟨wc_M_thrown, wm_L_81, wi_M, by decide, by decide, show (parseMethodDescriptor y_M_thrown.desc).map (fun d => d.parameters.length) = some 0 by decide +kernel⟩ wo_M_thrown wz_M_thrown hx hb hml hown hts hl.1 ⟨by show 0 + 1 ≤ room_1.frames; decide, by decide⟩ ⟨by show 100 + 16 * n9 + rl.cells + rm9.cells + 0 ≤ room_1.cells; have e9 : room_1.cells = 601024 := rfl; omega, by show 7000 + 120 * n9 + rl.slots + rm9.slots + 0 ≤ room_1.slots; have e9 : room_1.slots = 7293000 := rfl; omega⟩ (ty_J hK) hP hD hS hA (mX_adr _ _ _ _ _ _) (q0 := 0) rfl rfl rfl (Nat.le_of_ble_eq_true rfl) d_L_law_828 (fun H locs hP hD hS => ?_)
  rw [List.append_nil, List.append_assoc] at hP hD
  have hP : va_P D cls (oC cJ qo f1 ++ (vX cI cZ cQ ta vs1 ++ mX cI cZ ta tb zs1)) H := hP
  have hD : va_D A (oC cJ qo f1 ++ (vX cI cZ cQ ta vs1 ++ mX cI cZ ta tb zs1)) := hD
  refine lv_iload hx hb d_L_law_831 (lv_at hl 1 rfl) ?_
  refine lv_icmp_eq (tgt := 838) hx hb d_L_law_833 rfl (fun hc833 => ?_) (fun hc833 => ?_)
  · skip
    refine lv_iload hx hb d_L_law_838 (lv_at hl 1 rfl) ?_
    refine lv_if_ne (tgt := 855) hx hb d_L_law_840 rfl (fun hc840 => ?_) (fun hc840 => ?_)
    · skip
      refine lv_goto (tgt := 1021) hx hb d_L_law_855 rfl ?_
      have hl := lv_sub hl (l' := [(0, .ref b), (1, .ref ta.qv), (2, .ref tb.qm), (3, .ref qo), (4, .int (nI (2 + 5 * n9)))]) [2, 3, 4, 5, 6] rfl
      refine W.widen (k := 100 + 16 * n9 + 12) (n := 7000 + 120 * n9 + 100) (by first | omega | (dsimp only; omega)) (by first | omega | (dsimp only; omega)) ?_
      exact kk _ _ _ _ ls H locs hi9 hl hP hD hS
    · skip
      have hcd9 : zs1.cd = 0 := hc840
      refine lv_aload_n hx hb d_L_law_843 rfl (lv_at hl 5 rfl) ?_
      refine lv_iconst (v := 0) hx hb d_L_law_844 (by decide) ?_
      refine va_lald hx hb hK hP 0 3 rfl rfl (by unfold vp_in; decide) d_L_law_845 ?_
      refine sd_topl (y := f1 0) rfl ?_
      refine lv_iload hx hb d_L_law_846 (lv_at hl 0 rfl) ?_
      refine lv_i2l hx hb d_L_law_848 rfl ?_
      refine W.lcmp hx hb d_L_law_849 ?_
      refine lv_if_eq (tgt := 855) hx hb d_L_law_850 rfl (fun hc850 => ?_) (fun hc850 => ?_)
      · skip
        refine lv_goto (tgt := 1021) hx hb d_L_law_855 rfl ?_
        have hl := lv_sub hl (l' := [(0, .ref b), (1, .ref ta.qv), (2, .ref tb.qm), (3, .ref qo), (4, .int (nI (2 + 5 * n9)))]) [2, 3, 4, 5, 6] rfl
        refine W.widen (k := 100 + 16 * n9 + 12) (n := 7000 + 120 * n9 + 100) (by first | omega | (dsimp only; omega)) (by first | omega | (dsimp only; omega)) ?_
        exact kk _ _ _ _ ls H locs hi9 hl hP hD hS
      · skip
        exact absurd (by rw [hout9 hcd9]; exact lg_self _) hc850
  · skip
    exact absurd rfl hc833
set_option maxHeartbeats 8000000 in
set_option maxRecDepth 100000 in
theorem lc_need {p : Program} {l : Launch} {e : Env} {s : State} {m : MethodId} {below : List Frame} {meth : Method} {c : Code} {b L : Nat} {xs : Nat → Int32} {D : va_G} {cI cZ cQ cJ : ClassId} {ta : VA} {tb : MA} {qo : Nat} {A : Nat → Prop} {Q : State → Prop} (hst : l.stackTraces = false) (hx : p.tables.exec = Jvm.exec) (hb : c.code = b_L_law) (hml : c.maxLocals = 8) (hown : s.vm.findClass R_L = some m.cls) (hts : ∀ w ∈ bw, w.before #[Value.ref b] s = true) (hXs : va_X b L xs s s.heap) (hbl : b < s.heap.size) (hbA : ¬ A b) (hL : L ≤ 2562) (hK : va_K D cls (tyJ cI cZ cQ cJ) s) (hA : ∀ q : Nat, s.heap.size ≤ q → A q) (hX : xf A s s.heap) (hN : xN s) (ga : geo ta.k ta.n ta.hh ta.ff) (hhL : ∀ i, i < ta.n + 1 → ta.hh i ∈ ta.L) (ffL : ∀ i, i < ta.n + 1 → ta.ff i ∈ ta.L) {n9 : Nat} {vs : VS} {zs : MS} {lz : Nat → Nat} {f : Nat → Int64} {ls : Array Slot} {H : Heap} {locs : List Loc} (hinv : inv ta.k ta.n ta.hh lz n9 vs zs) (hn9 : n9 ≤ 511) (hi5 : 2 + 5 * n9 + 5 ≤ L) (hl : lv_has ls 8 [(0, .ref b), (1, .ref ta.qv), (2, .ref tb.qm), (3, .ref qo), (4, .int (nI (2 + 5 * n9)))]) (hP : va_P D cls (oC cJ qo f ++ (vX cI cZ cQ ta vs ++ mX cI cZ ta tb zs)) H) (hD : va_D A (oC cJ qo f ++ (vX cI cZ cQ ta vs ++ mX cI cZ ta tb zs))) (hS : va_S A s.heap H locs) (kk : ∀ (vs1 : VS) (zs1 : MS) (lz1 : Nat → Nat) (f1 : Nat → Int64) (ls : Array Slot) (H : Heap) (locs : List Loc), inv ta.k ta.n ta.hh lz1 (n9 + 1) vs1 zs1 → lv_has ls 8 [(0, .ref b), (1, .ref ta.qv), (2, .ref tb.qm), (3, .ref qo), (4, .int (nI (2 + 5 * n9)))] → va_P D cls (oC cJ qo f1 ++ (vX cI cZ cQ ta vs1 ++ mX cI cZ ta tb zs1)) H → va_D A (oC cJ qo f1 ++ (vX cI cZ cQ ta vs1 ++ mX cI cZ ta tb zs1)) → va_S A s.heap H locs → W p l e room_1 s m #[Value.ref b] below meth c H locs (100 + 16 * n9 + 12) (7000 + 120 * n9 + 100) Q (F0 m 1021 ls [])) : W p l e room_1 s m #[Value.ref b] below meth c H locs (100 + 16 * n9) (7000 + 120 * n9) Q (F0 m 858 ls []) := by
  refine lv_aload_n hx hb d_L_law_858 rfl (lv_at hl 1 rfl) ?_
  refine lv_aload_n hx hb d_L_law_859 rfl (lv_at hl 0 rfl) ?_
  refine lv_iload hx hb d_L_law_860 (lv_at hl 4 rfl) ?_
  refine lv_iconst (v := nI 1) hx hb d_L_law_862 (by decide) ?_
  refine lv_iadd hx hb d_L_law_863 ?_
  refine sd_top (y := nI (2 + 5 * n9 + 1)) (nI_add _ _) ?_
  refine sd_sld hx hb hXs hbl hbA hS (j := 2 + 5 * n9 + 1) (by omega) (by omega) d_L_law_864 ?_
  refine lv_aload_n hx hb d_L_law_865 rfl (lv_at hl 3 rfl) ?_
  obtain ⟨zs1, r9, vs1, lz1, hM9, hi9, hV9⟩ := op_need (l := l) (D := D) (cI := cI) (cZ := cZ) (cQ := cQ) (b := tb) hst ga hhL ffL hinv (by omega) (xs (2 + 5 * n9 + 1))
  obtain ⟨f1, ⟨rl, hrl, hL9⟩, hout9⟩ := lo_need qo cJ f (xs (2 + 5 * n9 + 1)) hV9
  obtain ⟨hrl1, hrl2, hrl3, hrl4⟩ := hrl
  refine md_SH (X := []) (C := oC cJ qo f ++ vX cI cZ cQ ta vs) (C' := oC cJ qo f1 ++ vX cI cZ cQ ta vs1) (Z := mX cI cZ ta tb zs) (As := [.ref ta.qv, .int (xs (2 + 5 * n9 + 1)), .ref qo]) (rest := []) hL9 wc_L_need wm_L_130 wi_L ⟨by decide, by decide, show (parseMethodDescriptor y_L_need.desc).map (fun d => d.parameters.length) = some 3 by decide +kernel⟩ ws_L_need hx hb hml hown hts hl.1 ⟨by show rl.frames + 1 ≤ room_1.frames; have e9 : room_1.frames = 11 := rfl; omega, by show 8 + (4 + 11) + rl.locals ≤ room_1.locals; have e9 : room_1.locals = 398 := rfl; omega⟩ ⟨by show 100 + 16 * n9 + rl.cells ≤ room_1.cells; have e9 : room_1.cells = 601024 := rfl; omega, by show 7000 + 120 * n9 + rl.slots ≤ room_1.slots; have e9 : room_1.slots = 7293000 := rfl; omega⟩ hK hP hD hS hA hX hN (by rw [List.map_append, List.map_append, vX_adr _ _ _ _ vs vs1]; rfl) rfl (Nat.le_of_ble_eq_true rfl) d_L_law_866 (fun H locs hP hD hS => ?_)
  have hP : va_P D cls (oC cJ qo f1 ++ (vX cI cZ cQ ta vs1 ++ mX cI cZ ta tb zs)) H := hP
  have hD : va_D A (oC cJ qo f1 ++ (vX cI cZ cQ ta vs1 ++ mX cI cZ ta tb zs)) := hD
  refine lv_istore hx hb d_L_law_869 hl (Nat.le_of_ble_eq_true rfl) (lv' := [(5, .int (zs1.cd)), (0, .ref b), (1, .ref ta.qv), (2, .ref tb.qm), (3, .ref qo), (4, .int (nI (2 + 5 * n9)))]) rfl (fun ls hl => ?_)
  refine lv_aload_n hx hb d_L_law_871 rfl (lv_at hl 3 rfl) ?_
  refine lv_aload_n hx hb d_L_law_872 rfl (lv_at hl 1 rfl) ?_
  refine lv_iload hx hb d_L_law_873 (lv_at hl 5 rfl) ?_
  refine lv_iconst (v := nI 1) hx hb d_L_law_875 (by decide) ?_
  refine lv_iadd hx hb d_L_law_876 ?_
  refine sd_top (y := nI (2 + 5 * n9 + 1)) (nI_add _ _) ?_
  refine sd_sld hx hb hXs hbl hbA hS (j := 2 + 5 * n9 + 1) (by omega) (by omega) d_L_law_877 ?_
  obtain ⟨rm9, hrm9, hM9⟩ := hM9
  obtain ⟨hrm91, hrm92, hrm93, hrm94⟩ := hrm9
  have hP : va_P D cls ((oC cJ qo f1 ++ vX cI cZ cQ ta vs1) ++ (mX cI cZ ta tb zs ++ [])) H := by rw [List.append_nil, List.append_assoc]; exact hP
  have hD : va_D A ((oC cJ qo f1 ++ vX cI cZ cQ ta vs1) ++ (mX cI cZ ta tb zs ++ [])) := by rw [List.append_nil, List.append_assoc]; exact hD
  refine md_VI (C := mX cI cZ ta tb zs) (C' := mX cI cZ ta tb zs1) (Z := []) (As := [.int (xs (2 + 5 * n9 + 1))]) (rest := []) hM9 ⟨wc_M_need, wm_L_132, wi_M, by decide, by decide, show (parseMethodDescriptor y_M_need.desc).map (fun d => d.parameters.length) = some 1 by decide +kernel⟩ wo_M_need wz_M_need hx hb hml hown hts hl.1 ⟨by show rm9.frames + 1 ≤ room_1.frames; have e9 : room_1.frames = 11 := rfl; omega, by show 8 + (2 + 11) + rm9.locals ≤ room_1.locals; have e9 : room_1.locals = 398 := rfl; omega⟩ ⟨by show 100 + 16 * n9 + rl.cells + rm9.cells ≤ room_1.cells; have e9 : room_1.cells = 601024 := rfl; omega, by show 7000 + 120 * n9 + rl.slots + rm9.slots ≤ room_1.slots; have e9 : room_1.slots = 7293000 := rfl; omega⟩ (ty_J hK) hP hD hS hA (mX_adr _ _ _ _ _ _) (q0 := 0) rfl rfl rfl (Nat.le_of_ble_eq_true rfl) d_L_law_878 (fun H locs hP hD hS => ?_)
  rw [List.append_nil, List.append_assoc] at hP hD
  have hP : va_P D cls (oC cJ qo f1 ++ (vX cI cZ cQ ta vs1 ++ mX cI cZ ta tb zs1)) H := hP
  have hD : va_D A (oC cJ qo f1 ++ (vX cI cZ cQ ta vs1 ++ mX cI cZ ta tb zs1)) := hD
  refine lv_istore hx hb d_L_law_881 hl (Nat.le_of_ble_eq_true rfl) (lv' := [(6, .int (r9)), (5, .int (zs1.cd)), (0, .ref b), (1, .ref ta.qv), (2, .ref tb.qm), (3, .ref qo), (4, .int (nI (2 + 5 * n9)))]) rfl (fun ls hl => ?_)
  refine lv_aload_n hx hb d_L_law_883 rfl (lv_at hl 4 rfl) ?_
  have hM8 := (c_M_thrown l D cI cZ cQ (tb.qm) (tb.mp) (tb.mt) (tb.ml) (tb.mc) (tb.mf) (tb.me) (tb.mg) (tb.mh) (tb.mu) (ta.k) (ta.n) (zs1.pn) (zs1.nx) (zs1.cd) (zs1.ep) (zs1.M) (zs1.wi) (zs1.jb) (zs1.fp) (zs1.tf) (zs1.tt) (zs1.fi) (zs1.ln) (zs1.bx) (zs1.pr) (zs1.tk) (zs1.le) (zs1.co) (zs1.fr) (zs1.em) (zs1.nb) (zs1.su) (by have := ga.kn; have := ga.n9; omega) (ga.n9))
  have hP : va_P D cls ((oC cJ qo f1 ++ vX cI cZ cQ ta vs1) ++ (mX cI cZ ta tb zs1 ++ [])) H := by rw [List.append_nil, List.append_assoc]; exact hP
  have hD : va_D A ((oC cJ qo f1 ++ vX cI cZ cQ ta vs1) ++ (mX cI cZ ta tb zs1 ++ [])) := by rw [List.append_nil, List.append_assoc]; exact hD
  refine md_VI (C := mX cI cZ ta tb zs1) (C' := mX cI cZ ta tb zs1) (Z := []) (As := []) (rest := []) hM8 ⟨wc_M_thrown, wm_L_81, wi_M, by decide, by decide, show (parseMethodDescriptor y_M_thrown.desc).map (fun d => d.parameters.length) = some 0 by decide +kernel⟩ wo_M_thrown wz_M_thrown hx hb hml hown hts hl.1 ⟨by show 0 + 1 ≤ room_1.frames; decide, by decide⟩ ⟨by show 100 + 16 * n9 + rl.cells + rm9.cells + 0 ≤ room_1.cells; have e9 : room_1.cells = 601024 := rfl; omega, by show 7000 + 120 * n9 + rl.slots + rm9.slots + 0 ≤ room_1.slots; have e9 : room_1.slots = 7293000 := rfl; omega⟩ (ty_J hK) hP hD hS hA (mX_adr _ _ _ _ _ _) (q0 := 0) rfl rfl rfl (Nat.le_of_ble_eq_true rfl) d_L_law_884 (fun H locs hP hD hS => ?_)
  rw [List.append_nil, List.append_assoc] at hP hD
  have hP : va_P D cls (oC cJ qo f1 ++ (vX cI cZ cQ ta vs1 ++ mX cI cZ ta tb zs1)) H := hP
  have hD : va_D A (oC cJ qo f1 ++ (vX cI cZ cQ ta vs1 ++ mX cI cZ ta tb zs1)) := hD
  refine lv_iload hx hb d_L_law_887 (lv_at hl 1 rfl) ?_
  refine lv_icmp_eq (tgt := 894) hx hb d_L_law_889 rfl (fun hc889 => ?_) (fun hc889 => ?_)
  · skip
    refine lv_iload hx hb d_L_law_894 (lv_at hl 1 rfl) ?_
    refine lv_if_ne (tgt := 911) hx hb d_L_law_896 rfl (fun hc896 => ?_) (fun hc896 => ?_)
    · skip
      refine lv_goto (tgt := 1021) hx hb d_L_law_911 rfl ?_
      have hl := lv_sub hl (l' := [(0, .ref b), (1, .ref ta.qv), (2, .ref tb.qm), (3, .ref qo), (4, .int (nI (2 + 5 * n9)))]) [2, 3, 4, 5, 6] rfl
      refine W.widen (k := 100 + 16 * n9 + 12) (n := 7000 + 120 * n9 + 100) (by first | omega | (dsimp only; omega)) (by first | omega | (dsimp only; omega)) ?_
      exact kk _ _ _ _ ls H locs hi9 hl hP hD hS
    · skip
      have hcd9 : zs1.cd = 0 := hc896
      refine lv_aload_n hx hb d_L_law_899 rfl (lv_at hl 5 rfl) ?_
      refine lv_iconst (v := 0) hx hb d_L_law_900 (by decide) ?_
      refine va_lald hx hb hK hP 0 3 rfl rfl (by unfold vp_in; decide) d_L_law_901 ?_
      refine sd_topl (y := f1 0) rfl ?_
      refine lv_iload hx hb d_L_law_902 (lv_at hl 0 rfl) ?_
      refine lv_i2l hx hb d_L_law_904 rfl ?_
      refine W.lcmp hx hb d_L_law_905 ?_
      refine lv_if_eq (tgt := 911) hx hb d_L_law_906 rfl (fun hc906 => ?_) (fun hc906 => ?_)
      · skip
        refine lv_goto (tgt := 1021) hx hb d_L_law_911 rfl ?_
        have hl := lv_sub hl (l' := [(0, .ref b), (1, .ref ta.qv), (2, .ref tb.qm), (3, .ref qo), (4, .int (nI (2 + 5 * n9)))]) [2, 3, 4, 5, 6] rfl
        refine W.widen (k := 100 + 16 * n9 + 12) (n := 7000 + 120 * n9 + 100) (by first | omega | (dsimp only; omega)) (by first | omega | (dsimp only; omega)) ?_
        exact kk _ _ _ _ ls H locs hi9 hl hP hD hS
      · skip
        exact absurd (by rw [hout9 hcd9]; exact lg_self _) hc906
  · skip
    exact absurd rfl hc889
set_option maxHeartbeats 8000000 in
set_option maxRecDepth 100000 in
theorem lc_files {p : Program} {l : Launch} {e : Env} {s : State} {m : MethodId} {below : List Frame} {meth : Method} {c : Code} {b L : Nat} {xs : Nat → Int32} {D : va_G} {cI cZ cQ cJ : ClassId} {ta : VA} {tb : MA} {qo : Nat} {A : Nat → Prop} {Q : State → Prop} (hst : l.stackTraces = false) (hx : p.tables.exec = Jvm.exec) (hb : c.code = b_L_law) (hml : c.maxLocals = 8) (hown : s.vm.findClass R_L = some m.cls) (hts : ∀ w ∈ bw, w.before #[Value.ref b] s = true) (hXs : va_X b L xs s s.heap) (hbl : b < s.heap.size) (hbA : ¬ A b) (hL : L ≤ 2562) (hK : va_K D cls (tyJ cI cZ cQ cJ) s) (hA : ∀ q : Nat, s.heap.size ≤ q → A q) (hX : xf A s s.heap) (hN : xN s) (ga : geo ta.k ta.n ta.hh ta.ff) (hhL : ∀ i, i < ta.n + 1 → ta.hh i ∈ ta.L) (ffL : ∀ i, i < ta.n + 1 → ta.ff i ∈ ta.L) {n9 : Nat} {vs : VS} {zs : MS} {lz : Nat → Nat} {f : Nat → Int64} {ls : Array Slot} {H : Heap} {locs : List Loc} (hinv : inv ta.k ta.n ta.hh lz n9 vs zs) (hn9 : n9 ≤ 511) (hi5 : 2 + 5 * n9 + 5 ≤ L) (hl : lv_has ls 8 [(0, .ref b), (1, .ref ta.qv), (2, .ref tb.qm), (3, .ref qo), (4, .int (nI (2 + 5 * n9)))]) (hP : va_P D cls (oC cJ qo f ++ (vX cI cZ cQ ta vs ++ mX cI cZ ta tb zs)) H) (hD : va_D A (oC cJ qo f ++ (vX cI cZ cQ ta vs ++ mX cI cZ ta tb zs))) (hS : va_S A s.heap H locs) (kk : ∀ (vs1 : VS) (zs1 : MS) (lz1 : Nat → Nat) (f1 : Nat → Int64) (ls : Array Slot) (H : Heap) (locs : List Loc), inv ta.k ta.n ta.hh lz1 (n9 + 1) vs1 zs1 → lv_has ls 8 [(0, .ref b), (1, .ref ta.qv), (2, .ref tb.qm), (3, .ref qo), (4, .int (nI (2 + 5 * n9)))] → va_P D cls (oC cJ qo f1 ++ (vX cI cZ cQ ta vs1 ++ mX cI cZ ta tb zs1)) H → va_D A (oC cJ qo f1 ++ (vX cI cZ cQ ta vs1 ++ mX cI cZ ta tb zs1)) → va_S A s.heap H locs → W p l e room_1 s m #[Value.ref b] below meth c H locs (100 + 16 * n9 + 12) (7000 + 120 * n9 + 100) Q (F0 m 1021 ls [])) : W p l e room_1 s m #[Value.ref b] below meth c H locs (100 + 16 * n9) (7000 + 120 * n9) Q (F0 m 914 ls []) := by
  refine lv_aload_n hx hb d_L_law_914 rfl (lv_at hl 1 rfl) ?_
  obtain ⟨zs1, r9, vs1, lz1, hM9, hi9, rl, hrl, hV9⟩ := op_files (l := l) (D := D) (cI := cI) (cZ := cZ) (cQ := cQ) (b := tb) hst ga hhL ffL hinv (by omega)
  obtain ⟨hrl1, hrl2, hrl3, hrl4⟩ := hrl
  refine md_VI (X := oC cJ qo f) (C := vX cI cZ cQ ta vs) (C' := vX cI cZ cQ ta vs1) (Z := mX cI cZ ta tb zs) (As := []) (rest := []) hV9 ⟨wc_V_files, wm_L_133, wi_V, by decide, by decide, show (parseMethodDescriptor y_V_files.desc).map (fun d => d.parameters.length) = some 0 by decide +kernel⟩ wo_V_files wz_V_files hx hb hml hown hts hl.1 ⟨by show rl.frames + 1 ≤ room_1.frames; have e9 : room_1.frames = 11 := rfl; omega, by show 8 + (1 + 11) + rl.locals ≤ room_1.locals; have e9 : room_1.locals = 398 := rfl; omega⟩ ⟨by show 100 + 16 * n9 + rl.cells ≤ room_1.cells; have e9 : room_1.cells = 601024 := rfl; omega, by show 7000 + 120 * n9 + rl.slots ≤ room_1.slots; have e9 : room_1.slots = 7293000 := rfl; omega⟩ (ty_J hK) hP hD hS hA (vX_adr _ _ _ _ _ _) (q0 := 0) rfl rfl rfl (Nat.le_of_ble_eq_true rfl) d_L_law_915 (fun H locs hP hD hS => ?_)
  have hP : va_P D cls (oC cJ qo f ++ (vX cI cZ cQ ta vs1 ++ mX cI cZ ta tb zs)) H := hP
  have hD : va_D A (oC cJ qo f ++ (vX cI cZ cQ ta vs1 ++ mX cI cZ ta tb zs)) := hD
  refine lv_aload_n hx hb d_L_law_918 rfl (lv_at hl 2 rfl) ?_
  obtain ⟨rm9, hrm9, hM9⟩ := hM9
  obtain ⟨hrm91, hrm92, hrm93, hrm94⟩ := hrm9
  have hP : va_P D cls ((oC cJ qo f ++ vX cI cZ cQ ta vs1) ++ (mX cI cZ ta tb zs ++ [])) H := by rw [List.append_nil, List.append_assoc]; exact hP
  have hD : va_D A ((oC cJ qo f ++ vX cI cZ cQ ta vs1) ++ (mX cI cZ ta tb zs ++ [])) := by rw [List.append_nil, List.append_assoc]; exact hD
  refine md_VI (C := mX cI cZ ta tb zs) (C' := mX cI cZ ta tb zs1) (Z := []) (As := []) (rest := [.int (r9)]) hM9 ⟨wc_M_files, wm_L_136, wi_M, by decide, by decide, show (parseMethodDescriptor y_M_files.desc).map (fun d => d.parameters.length) = some 0 by decide +kernel⟩ wo_M_files wz_M_files hx hb hml hown hts hl.1 ⟨by show rm9.frames + 1 ≤ room_1.frames; have e9 : room_1.frames = 11 := rfl; omega, by show 8 + (1 + 11) + rm9.locals ≤ room_1.locals; have e9 : room_1.locals = 398 := rfl; omega⟩ ⟨by show 100 + 16 * n9 + rl.cells + rm9.cells ≤ room_1.cells; have e9 : room_1.cells = 601024 := rfl; omega, by show 7000 + 120 * n9 + rl.slots + rm9.slots ≤ room_1.slots; have e9 : room_1.slots = 7293000 := rfl; omega⟩ (ty_J hK) hP hD hS hA (mX_adr _ _ _ _ _ _) (q0 := 0) rfl rfl rfl (Nat.le_of_ble_eq_true rfl) d_L_law_919 (fun H locs hP hD hS => ?_)
  rw [List.append_nil, List.append_assoc] at hP hD
  have hP : va_P D cls (oC cJ qo f ++ (vX cI cZ cQ ta vs1 ++ mX cI cZ ta tb zs1)) H := hP
  have hD : va_D A (oC cJ qo f ++ (vX cI cZ cQ ta vs1 ++ mX cI cZ ta tb zs1)) := hD
  refine lv_icmp_eq (tgt := 1021) hx hb d_L_law_922 rfl (fun hc922 => ?_) (fun hc922 => ?_)
  · skip
    have hl := lv_sub hl (l' := [(0, .ref b), (1, .ref ta.qv), (2, .ref tb.qm), (3, .ref qo), (4, .int (nI (2 + 5 * n9)))]) [0, 1, 2, 3, 4] rfl
    refine W.widen (k := 100 + 16 * n9 + 12) (n := 7000 + 120 * n9 + 100) (by first | omega | (dsimp only; omega)) (by first | omega | (dsimp only; omega)) ?_
    exact kk _ _ _ _ ls H locs hi9 hl hP hD hS
  · skip
    exact absurd rfl hc922
set_option maxHeartbeats 8000000 in
set_option maxRecDepth 100000 in
theorem lc_epoch {p : Program} {l : Launch} {e : Env} {s : State} {m : MethodId} {below : List Frame} {meth : Method} {c : Code} {b L : Nat} {xs : Nat → Int32} {D : va_G} {cI cZ cQ cJ : ClassId} {ta : VA} {tb : MA} {qo : Nat} {A : Nat → Prop} {Q : State → Prop} (hst : l.stackTraces = false) (hx : p.tables.exec = Jvm.exec) (hb : c.code = b_L_law) (hml : c.maxLocals = 8) (hown : s.vm.findClass R_L = some m.cls) (hts : ∀ w ∈ bw, w.before #[Value.ref b] s = true) (hXs : va_X b L xs s s.heap) (hbl : b < s.heap.size) (hbA : ¬ A b) (hL : L ≤ 2562) (hK : va_K D cls (tyJ cI cZ cQ cJ) s) (hA : ∀ q : Nat, s.heap.size ≤ q → A q) (hX : xf A s s.heap) (hN : xN s) (ga : geo ta.k ta.n ta.hh ta.ff) (hhL : ∀ i, i < ta.n + 1 → ta.hh i ∈ ta.L) (ffL : ∀ i, i < ta.n + 1 → ta.ff i ∈ ta.L) {n9 : Nat} {vs : VS} {zs : MS} {lz : Nat → Nat} {f : Nat → Int64} {ls : Array Slot} {H : Heap} {locs : List Loc} (hinv : inv ta.k ta.n ta.hh lz n9 vs zs) (hn9 : n9 ≤ 511) (hi5 : 2 + 5 * n9 + 5 ≤ L) (hl : lv_has ls 8 [(0, .ref b), (1, .ref ta.qv), (2, .ref tb.qm), (3, .ref qo), (4, .int (nI (2 + 5 * n9)))]) (hP : va_P D cls (oC cJ qo f ++ (vX cI cZ cQ ta vs ++ mX cI cZ ta tb zs)) H) (hD : va_D A (oC cJ qo f ++ (vX cI cZ cQ ta vs ++ mX cI cZ ta tb zs))) (hS : va_S A s.heap H locs) (kk : ∀ (vs1 : VS) (zs1 : MS) (lz1 : Nat → Nat) (f1 : Nat → Int64) (ls : Array Slot) (H : Heap) (locs : List Loc), inv ta.k ta.n ta.hh lz1 (n9 + 1) vs1 zs1 → lv_has ls 8 [(0, .ref b), (1, .ref ta.qv), (2, .ref tb.qm), (3, .ref qo), (4, .int (nI (2 + 5 * n9)))] → va_P D cls (oC cJ qo f1 ++ (vX cI cZ cQ ta vs1 ++ mX cI cZ ta tb zs1)) H → va_D A (oC cJ qo f1 ++ (vX cI cZ cQ ta vs1 ++ mX cI cZ ta tb zs1)) → va_S A s.heap H locs → W p l e room_1 s m #[Value.ref b] below meth c H locs (100 + 16 * n9 + 12) (7000 + 120 * n9 + 100) Q (F0 m 1021 ls [])) : W p l e room_1 s m #[Value.ref b] below meth c H locs (100 + 16 * n9) (7000 + 120 * n9) Q (F0 m 927 ls []) := by
  refine lv_aload_n hx hb d_L_law_927 rfl (lv_at hl 1 rfl) ?_
  obtain ⟨zs1, r9, vs1, lz1, hM9, hi9, rl, hrl, hV9⟩ := op_epoch (l := l) (D := D) (cI := cI) (cZ := cZ) (cQ := cQ) (b := tb) hst ga hhL ffL hinv (by omega)
  obtain ⟨hrl1, hrl2, hrl3, hrl4⟩ := hrl
  refine md_VI (X := oC cJ qo f) (C := vX cI cZ cQ ta vs) (C' := vX cI cZ cQ ta vs1) (Z := mX cI cZ ta tb zs) (As := []) (rest := []) hV9 ⟨wc_V_epoch, wm_L_137, wi_V, by decide, by decide, show (parseMethodDescriptor y_V_epoch.desc).map (fun d => d.parameters.length) = some 0 by decide +kernel⟩ wo_V_epoch wz_V_epoch hx hb hml hown hts hl.1 ⟨by show rl.frames + 1 ≤ room_1.frames; have e9 : room_1.frames = 11 := rfl; omega, by show 8 + (1 + 11) + rl.locals ≤ room_1.locals; have e9 : room_1.locals = 398 := rfl; omega⟩ ⟨by show 100 + 16 * n9 + rl.cells ≤ room_1.cells; have e9 : room_1.cells = 601024 := rfl; omega, by show 7000 + 120 * n9 + rl.slots ≤ room_1.slots; have e9 : room_1.slots = 7293000 := rfl; omega⟩ (ty_J hK) hP hD hS hA (vX_adr _ _ _ _ _ _) (q0 := 0) rfl rfl rfl (Nat.le_of_ble_eq_true rfl) d_L_law_928 (fun H locs hP hD hS => ?_)
  have hP : va_P D cls (oC cJ qo f ++ (vX cI cZ cQ ta vs1 ++ mX cI cZ ta tb zs)) H := hP
  have hD : va_D A (oC cJ qo f ++ (vX cI cZ cQ ta vs1 ++ mX cI cZ ta tb zs)) := hD
  refine lv_aload_n hx hb d_L_law_931 rfl (lv_at hl 2 rfl) ?_
  obtain ⟨rm9, hrm9, hM9⟩ := hM9
  obtain ⟨hrm91, hrm92, hrm93, hrm94⟩ := hrm9
  have hP : va_P D cls ((oC cJ qo f ++ vX cI cZ cQ ta vs1) ++ (mX cI cZ ta tb zs ++ [])) H := by rw [List.append_nil, List.append_assoc]; exact hP
  have hD : va_D A ((oC cJ qo f ++ vX cI cZ cQ ta vs1) ++ (mX cI cZ ta tb zs ++ [])) := by rw [List.append_nil, List.append_assoc]; exact hD
  refine md_VI (C := mX cI cZ ta tb zs) (C' := mX cI cZ ta tb zs1) (Z := []) (As := []) (rest := [.int (r9)]) hM9 ⟨wc_M_epoch, wm_L_140, wi_M, by decide, by decide, show (parseMethodDescriptor y_M_epoch.desc).map (fun d => d.parameters.length) = some 0 by decide +kernel⟩ wo_M_epoch wz_M_epoch hx hb hml hown hts hl.1 ⟨by show rm9.frames + 1 ≤ room_1.frames; have e9 : room_1.frames = 11 := rfl; omega, by show 8 + (1 + 11) + rm9.locals ≤ room_1.locals; have e9 : room_1.locals = 398 := rfl; omega⟩ ⟨by show 100 + 16 * n9 + rl.cells + rm9.cells ≤ room_1.cells; have e9 : room_1.cells = 601024 := rfl; omega, by show 7000 + 120 * n9 + rl.slots + rm9.slots ≤ room_1.slots; have e9 : room_1.slots = 7293000 := rfl; omega⟩ (ty_J hK) hP hD hS hA (mX_adr _ _ _ _ _ _) (q0 := 0) rfl rfl rfl (Nat.le_of_ble_eq_true rfl) d_L_law_932 (fun H locs hP hD hS => ?_)
  rw [List.append_nil, List.append_assoc] at hP hD
  have hP : va_P D cls (oC cJ qo f ++ (vX cI cZ cQ ta vs1 ++ mX cI cZ ta tb zs1)) H := hP
  have hD : va_D A (oC cJ qo f ++ (vX cI cZ cQ ta vs1 ++ mX cI cZ ta tb zs1)) := hD
  refine lv_icmp_eq (tgt := 1021) hx hb d_L_law_935 rfl (fun hc935 => ?_) (fun hc935 => ?_)
  · skip
    have hl := lv_sub hl (l' := [(0, .ref b), (1, .ref ta.qv), (2, .ref tb.qm), (3, .ref qo), (4, .int (nI (2 + 5 * n9)))]) [0, 1, 2, 3, 4] rfl
    refine W.widen (k := 100 + 16 * n9 + 12) (n := 7000 + 120 * n9 + 100) (by first | omega | (dsimp only; omega)) (by first | omega | (dsimp only; omega)) ?_
    exact kk _ _ _ _ ls H locs hi9 hl hP hD hS
  · skip
    exact absurd rfl hc935
set_option maxHeartbeats 8000000 in
set_option maxRecDepth 100000 in
theorem lc_sent {p : Program} {l : Launch} {e : Env} {s : State} {m : MethodId} {below : List Frame} {meth : Method} {c : Code} {b L : Nat} {xs : Nat → Int32} {D : va_G} {cI cZ cQ cJ : ClassId} {ta : VA} {tb : MA} {qo : Nat} {A : Nat → Prop} {Q : State → Prop} (hst : l.stackTraces = false) (hx : p.tables.exec = Jvm.exec) (hb : c.code = b_L_law) (hml : c.maxLocals = 8) (hown : s.vm.findClass R_L = some m.cls) (hts : ∀ w ∈ bw, w.before #[Value.ref b] s = true) (hXs : va_X b L xs s s.heap) (hbl : b < s.heap.size) (hbA : ¬ A b) (hL : L ≤ 2562) (hK : va_K D cls (tyJ cI cZ cQ cJ) s) (hA : ∀ q : Nat, s.heap.size ≤ q → A q) (hX : xf A s s.heap) (hN : xN s) (ga : geo ta.k ta.n ta.hh ta.ff) (hhL : ∀ i, i < ta.n + 1 → ta.hh i ∈ ta.L) (ffL : ∀ i, i < ta.n + 1 → ta.ff i ∈ ta.L) {n9 : Nat} {vs : VS} {zs : MS} {lz : Nat → Nat} {f : Nat → Int64} {ls : Array Slot} {H : Heap} {locs : List Loc} (hinv : inv ta.k ta.n ta.hh lz n9 vs zs) (hn9 : n9 ≤ 511) (hi5 : 2 + 5 * n9 + 5 ≤ L) (hl : lv_has ls 8 [(0, .ref b), (1, .ref ta.qv), (2, .ref tb.qm), (3, .ref qo), (4, .int (nI (2 + 5 * n9)))]) (hP : va_P D cls (oC cJ qo f ++ (vX cI cZ cQ ta vs ++ mX cI cZ ta tb zs)) H) (hD : va_D A (oC cJ qo f ++ (vX cI cZ cQ ta vs ++ mX cI cZ ta tb zs))) (hS : va_S A s.heap H locs) (kk : ∀ (vs1 : VS) (zs1 : MS) (lz1 : Nat → Nat) (f1 : Nat → Int64) (ls : Array Slot) (H : Heap) (locs : List Loc), inv ta.k ta.n ta.hh lz1 (n9 + 1) vs1 zs1 → lv_has ls 8 [(0, .ref b), (1, .ref ta.qv), (2, .ref tb.qm), (3, .ref qo), (4, .int (nI (2 + 5 * n9)))] → va_P D cls (oC cJ qo f1 ++ (vX cI cZ cQ ta vs1 ++ mX cI cZ ta tb zs1)) H → va_D A (oC cJ qo f1 ++ (vX cI cZ cQ ta vs1 ++ mX cI cZ ta tb zs1)) → va_S A s.heap H locs → W p l e room_1 s m #[Value.ref b] below meth c H locs (100 + 16 * n9 + 12) (7000 + 120 * n9 + 100) Q (F0 m 1021 ls [])) : W p l e room_1 s m #[Value.ref b] below meth c H locs (100 + 16 * n9) (7000 + 120 * n9) Q (F0 m 940 ls []) := by
  refine lv_aload_n hx hb d_L_law_940 rfl (lv_at hl 1 rfl) ?_
  obtain ⟨zs1, r9, vs1, lz1, hM9, hi9, rl, hrl, hV9⟩ := op_sent (l := l) (D := D) (cI := cI) (cZ := cZ) (cQ := cQ) (b := tb) hst ga hhL ffL hinv (by omega)
  obtain ⟨hrl1, hrl2, hrl3, hrl4⟩ := hrl
  refine md_VI (X := oC cJ qo f) (C := vX cI cZ cQ ta vs) (C' := vX cI cZ cQ ta vs1) (Z := mX cI cZ ta tb zs) (As := []) (rest := []) hV9 ⟨wc_V_sent, wm_L_141, wi_V, by decide, by decide, show (parseMethodDescriptor y_V_sent.desc).map (fun d => d.parameters.length) = some 0 by decide +kernel⟩ wo_V_sent wz_V_sent hx hb hml hown hts hl.1 ⟨by show rl.frames + 1 ≤ room_1.frames; have e9 : room_1.frames = 11 := rfl; omega, by show 8 + (1 + 11) + rl.locals ≤ room_1.locals; have e9 : room_1.locals = 398 := rfl; omega⟩ ⟨by show 100 + 16 * n9 + rl.cells ≤ room_1.cells; have e9 : room_1.cells = 601024 := rfl; omega, by show 7000 + 120 * n9 + rl.slots ≤ room_1.slots; have e9 : room_1.slots = 7293000 := rfl; omega⟩ (ty_J hK) hP hD hS hA (vX_adr _ _ _ _ _ _) (q0 := 0) rfl rfl rfl (Nat.le_of_ble_eq_true rfl) d_L_law_941 (fun H locs hP hD hS => ?_)
  have hP : va_P D cls (oC cJ qo f ++ (vX cI cZ cQ ta vs1 ++ mX cI cZ ta tb zs)) H := hP
  have hD : va_D A (oC cJ qo f ++ (vX cI cZ cQ ta vs1 ++ mX cI cZ ta tb zs)) := hD
  refine lv_aload_n hx hb d_L_law_944 rfl (lv_at hl 2 rfl) ?_
  obtain ⟨rm9, hrm9, hM9⟩ := hM9
  obtain ⟨hrm91, hrm92, hrm93, hrm94⟩ := hrm9
  have hP : va_P D cls ((oC cJ qo f ++ vX cI cZ cQ ta vs1) ++ (mX cI cZ ta tb zs ++ [])) H := by rw [List.append_nil, List.append_assoc]; exact hP
  have hD : va_D A ((oC cJ qo f ++ vX cI cZ cQ ta vs1) ++ (mX cI cZ ta tb zs ++ [])) := by rw [List.append_nil, List.append_assoc]; exact hD
  refine md_VI (C := mX cI cZ ta tb zs) (C' := mX cI cZ ta tb zs1) (Z := []) (As := []) (rest := [.int (r9)]) hM9 ⟨wc_M_sent, wm_L_144, wi_M, by decide, by decide, show (parseMethodDescriptor y_M_sent.desc).map (fun d => d.parameters.length) = some 0 by decide +kernel⟩ wo_M_sent wz_M_sent hx hb hml hown hts hl.1 ⟨by show rm9.frames + 1 ≤ room_1.frames; have e9 : room_1.frames = 11 := rfl; omega, by show 8 + (1 + 11) + rm9.locals ≤ room_1.locals; have e9 : room_1.locals = 398 := rfl; omega⟩ ⟨by show 100 + 16 * n9 + rl.cells + rm9.cells ≤ room_1.cells; have e9 : room_1.cells = 601024 := rfl; omega, by show 7000 + 120 * n9 + rl.slots + rm9.slots ≤ room_1.slots; have e9 : room_1.slots = 7293000 := rfl; omega⟩ (ty_J hK) hP hD hS hA (mX_adr _ _ _ _ _ _) (q0 := 0) rfl rfl rfl (Nat.le_of_ble_eq_true rfl) d_L_law_945 (fun H locs hP hD hS => ?_)
  rw [List.append_nil, List.append_assoc] at hP hD
  have hP : va_P D cls (oC cJ qo f ++ (vX cI cZ cQ ta vs1 ++ mX cI cZ ta tb zs1)) H := hP
  have hD : va_D A (oC cJ qo f ++ (vX cI cZ cQ ta vs1 ++ mX cI cZ ta tb zs1)) := hD
  refine lv_icmp_eq (tgt := 1021) hx hb d_L_law_948 rfl (fun hc948 => ?_) (fun hc948 => ?_)
  · skip
    have hl := lv_sub hl (l' := [(0, .ref b), (1, .ref ta.qv), (2, .ref tb.qm), (3, .ref qo), (4, .int (nI (2 + 5 * n9)))]) [0, 1, 2, 3, 4] rfl
    refine W.widen (k := 100 + 16 * n9 + 12) (n := 7000 + 120 * n9 + 100) (by first | omega | (dsimp only; omega)) (by first | omega | (dsimp only; omega)) ?_
    exact kk _ _ _ _ ls H locs hi9 hl hP hD hS
  · skip
    exact absurd rfl hc948
set_option maxHeartbeats 8000000 in
set_option maxRecDepth 100000 in
theorem lc_message {p : Program} {l : Launch} {e : Env} {s : State} {m : MethodId} {below : List Frame} {meth : Method} {c : Code} {b L : Nat} {xs : Nat → Int32} {D : va_G} {cI cZ cQ cJ : ClassId} {ta : VA} {tb : MA} {qo : Nat} {A : Nat → Prop} {Q : State → Prop} (hst : l.stackTraces = false) (hx : p.tables.exec = Jvm.exec) (hb : c.code = b_L_law) (hml : c.maxLocals = 8) (hown : s.vm.findClass R_L = some m.cls) (hts : ∀ w ∈ bw, w.before #[Value.ref b] s = true) (hXs : va_X b L xs s s.heap) (hbl : b < s.heap.size) (hbA : ¬ A b) (hL : L ≤ 2562) (hK : va_K D cls (tyJ cI cZ cQ cJ) s) (hA : ∀ q : Nat, s.heap.size ≤ q → A q) (hX : xf A s s.heap) (hN : xN s) (ga : geo ta.k ta.n ta.hh ta.ff) (hhL : ∀ i, i < ta.n + 1 → ta.hh i ∈ ta.L) (ffL : ∀ i, i < ta.n + 1 → ta.ff i ∈ ta.L) {n9 : Nat} {vs : VS} {zs : MS} {lz : Nat → Nat} {f : Nat → Int64} {ls : Array Slot} {H : Heap} {locs : List Loc} (hinv : inv ta.k ta.n ta.hh lz n9 vs zs) (hn9 : n9 ≤ 511) (hi5 : 2 + 5 * n9 + 5 ≤ L) (hl : lv_has ls 8 [(0, .ref b), (1, .ref ta.qv), (2, .ref tb.qm), (3, .ref qo), (4, .int (nI (2 + 5 * n9)))]) (hP : va_P D cls (oC cJ qo f ++ (vX cI cZ cQ ta vs ++ mX cI cZ ta tb zs)) H) (hD : va_D A (oC cJ qo f ++ (vX cI cZ cQ ta vs ++ mX cI cZ ta tb zs))) (hS : va_S A s.heap H locs) (kk : ∀ (vs1 : VS) (zs1 : MS) (lz1 : Nat → Nat) (f1 : Nat → Int64) (ls : Array Slot) (H : Heap) (locs : List Loc), inv ta.k ta.n ta.hh lz1 (n9 + 1) vs1 zs1 → lv_has ls 8 [(0, .ref b), (1, .ref ta.qv), (2, .ref tb.qm), (3, .ref qo), (4, .int (nI (2 + 5 * n9)))] → va_P D cls (oC cJ qo f1 ++ (vX cI cZ cQ ta vs1 ++ mX cI cZ ta tb zs1)) H → va_D A (oC cJ qo f1 ++ (vX cI cZ cQ ta vs1 ++ mX cI cZ ta tb zs1)) → va_S A s.heap H locs → W p l e room_1 s m #[Value.ref b] below meth c H locs (100 + 16 * n9 + 12) (7000 + 120 * n9 + 100) Q (F0 m 1021 ls [])) : W p l e room_1 s m #[Value.ref b] below meth c H locs (100 + 16 * n9) (7000 + 120 * n9) Q (F0 m 953 ls []) := by
  refine lv_aload_n hx hb d_L_law_953 rfl (lv_at hl 1 rfl) ?_
  refine lv_aload_n hx hb d_L_law_954 rfl (lv_at hl 0 rfl) ?_
  refine lv_iload hx hb d_L_law_955 (lv_at hl 4 rfl) ?_
  refine lv_iconst (v := nI 1) hx hb d_L_law_957 (by decide) ?_
  refine lv_iadd hx hb d_L_law_958 ?_
  refine sd_top (y := nI (2 + 5 * n9 + 1)) (nI_add _ _) ?_
  refine sd_sld hx hb hXs hbl hbA hS (j := 2 + 5 * n9 + 1) (by omega) (by omega) d_L_law_959 ?_
  refine lv_aload_n hx hb d_L_law_960 rfl (lv_at hl 0 rfl) ?_
  refine lv_iload hx hb d_L_law_961 (lv_at hl 4 rfl) ?_
  refine lv_iconst (v := nI 2) hx hb d_L_law_963 (by decide) ?_
  refine lv_iadd hx hb d_L_law_964 ?_
  refine sd_top (y := nI (2 + 5 * n9 + 2)) (nI_add _ _) ?_
  refine sd_sld hx hb hXs hbl hbA hS (j := 2 + 5 * n9 + 2) (by omega) (by omega) d_L_law_965 ?_
  refine lv_aload_n hx hb d_L_law_966 rfl (lv_at hl 3 rfl) ?_
  obtain ⟨zs1, r9, vs1, lz1, hM9, hi9, hV9⟩ := op_message (l := l) (D := D) (cI := cI) (cZ := cZ) (cQ := cQ) (b := tb) hst ga hhL ffL hinv (by omega) (xs (2 + 5 * n9 + 1)) (xs (2 + 5 * n9 + 2))
  obtain ⟨f1, ⟨rl, hrl, hL9⟩, hout9⟩ := lo_message qo cJ f (xs (2 + 5 * n9 + 1)) (xs (2 + 5 * n9 + 2)) hV9
  obtain ⟨hrl1, hrl2, hrl3, hrl4⟩ := hrl
  refine md_SH (X := []) (C := oC cJ qo f ++ vX cI cZ cQ ta vs) (C' := oC cJ qo f1 ++ vX cI cZ cQ ta vs1) (Z := mX cI cZ ta tb zs) (As := [.ref ta.qv, .int (xs (2 + 5 * n9 + 1)), .int (xs (2 + 5 * n9 + 2)), .ref qo]) (rest := []) hL9 wc_L_message wm_L_145 wi_L ⟨by decide, by decide, show (parseMethodDescriptor y_L_message.desc).map (fun d => d.parameters.length) = some 4 by decide +kernel⟩ ws_L_message hx hb hml hown hts hl.1 ⟨by show rl.frames + 1 ≤ room_1.frames; have e9 : room_1.frames = 11 := rfl; omega, by show 8 + (5 + 11) + rl.locals ≤ room_1.locals; have e9 : room_1.locals = 398 := rfl; omega⟩ ⟨by show 100 + 16 * n9 + rl.cells ≤ room_1.cells; have e9 : room_1.cells = 601024 := rfl; omega, by show 7000 + 120 * n9 + rl.slots ≤ room_1.slots; have e9 : room_1.slots = 7293000 := rfl; omega⟩ hK hP hD hS hA hX hN (by rw [List.map_append, List.map_append, vX_adr _ _ _ _ vs vs1]; rfl) rfl (Nat.le_of_ble_eq_true rfl) d_L_law_967 (fun H locs hP hD hS => ?_)
  have hP : va_P D cls (oC cJ qo f1 ++ (vX cI cZ cQ ta vs1 ++ mX cI cZ ta tb zs)) H := hP
  have hD : va_D A (oC cJ qo f1 ++ (vX cI cZ cQ ta vs1 ++ mX cI cZ ta tb zs)) := hD
  refine lv_istore hx hb d_L_law_970 hl (Nat.le_of_ble_eq_true rfl) (lv' := [(5, .int (zs1.cd)), (0, .ref b), (1, .ref ta.qv), (2, .ref tb.qm), (3, .ref qo), (4, .int (nI (2 + 5 * n9)))]) rfl (fun ls hl => ?_)
  refine lv_aload_n hx hb d_L_law_972 rfl (lv_at hl 3 rfl) ?_
  refine lv_aload_n hx hb d_L_law_973 rfl (lv_at hl 1 rfl) ?_
  refine lv_iload hx hb d_L_law_974 (lv_at hl 5 rfl) ?_
  refine lv_iconst (v := nI 1) hx hb d_L_law_976 (by decide) ?_
  refine lv_iadd hx hb d_L_law_977 ?_
  refine sd_top (y := nI (2 + 5 * n9 + 1)) (nI_add _ _) ?_
  refine sd_sld hx hb hXs hbl hbA hS (j := 2 + 5 * n9 + 1) (by omega) (by omega) d_L_law_978 ?_
  refine lv_aload_n hx hb d_L_law_979 rfl (lv_at hl 1 rfl) ?_
  refine lv_iload hx hb d_L_law_980 (lv_at hl 5 rfl) ?_
  refine lv_iconst (v := nI 2) hx hb d_L_law_982 (by decide) ?_
  refine lv_iadd hx hb d_L_law_983 ?_
  refine sd_top (y := nI (2 + 5 * n9 + 2)) (nI_add _ _) ?_
  refine sd_sld hx hb hXs hbl hbA hS (j := 2 + 5 * n9 + 2) (by omega) (by omega) d_L_law_984 ?_
  obtain ⟨rm9, hrm9, hM9⟩ := hM9
  obtain ⟨hrm91, hrm92, hrm93, hrm94⟩ := hrm9
  have hP : va_P D cls ((oC cJ qo f1 ++ vX cI cZ cQ ta vs1) ++ (mX cI cZ ta tb zs ++ [])) H := by rw [List.append_nil, List.append_assoc]; exact hP
  have hD : va_D A ((oC cJ qo f1 ++ vX cI cZ cQ ta vs1) ++ (mX cI cZ ta tb zs ++ [])) := by rw [List.append_nil, List.append_assoc]; exact hD
  refine md_VI (C := mX cI cZ ta tb zs) (C' := mX cI cZ ta tb zs1) (Z := []) (As := [.int (xs (2 + 5 * n9 + 1)), .int (xs (2 + 5 * n9 + 2))]) (rest := []) hM9 ⟨wc_M_message, wm_L_147, wi_M, by decide, by decide, show (parseMethodDescriptor y_M_message.desc).map (fun d => d.parameters.length) = some 2 by decide +kernel⟩ wo_M_message wz_M_message hx hb hml hown hts hl.1 ⟨by show rm9.frames + 1 ≤ room_1.frames; have e9 : room_1.frames = 11 := rfl; omega, by show 8 + (3 + 11) + rm9.locals ≤ room_1.locals; have e9 : room_1.locals = 398 := rfl; omega⟩ ⟨by show 100 + 16 * n9 + rl.cells + rm9.cells ≤ room_1.cells; have e9 : room_1.cells = 601024 := rfl; omega, by show 7000 + 120 * n9 + rl.slots + rm9.slots ≤ room_1.slots; have e9 : room_1.slots = 7293000 := rfl; omega⟩ (ty_J hK) hP hD hS hA (mX_adr _ _ _ _ _ _) (q0 := 0) rfl rfl rfl (Nat.le_of_ble_eq_true rfl) d_L_law_985 (fun H locs hP hD hS => ?_)
  rw [List.append_nil, List.append_assoc] at hP hD
  have hP : va_P D cls (oC cJ qo f1 ++ (vX cI cZ cQ ta vs1 ++ mX cI cZ ta tb zs1)) H := hP
  have hD : va_D A (oC cJ qo f1 ++ (vX cI cZ cQ ta vs1 ++ mX cI cZ ta tb zs1)) := hD
  refine lv_istore hx hb d_L_law_988 hl (Nat.le_of_ble_eq_true rfl) (lv' := [(6, .int (r9)), (5, .int (zs1.cd)), (0, .ref b), (1, .ref ta.qv), (2, .ref tb.qm), (3, .ref qo), (4, .int (nI (2 + 5 * n9)))]) rfl (fun ls hl => ?_)
  refine lv_aload_n hx hb d_L_law_990 rfl (lv_at hl 4 rfl) ?_
  have hM8 := (c_M_thrown l D cI cZ cQ (tb.qm) (tb.mp) (tb.mt) (tb.ml) (tb.mc) (tb.mf) (tb.me) (tb.mg) (tb.mh) (tb.mu) (ta.k) (ta.n) (zs1.pn) (zs1.nx) (zs1.cd) (zs1.ep) (zs1.M) (zs1.wi) (zs1.jb) (zs1.fp) (zs1.tf) (zs1.tt) (zs1.fi) (zs1.ln) (zs1.bx) (zs1.pr) (zs1.tk) (zs1.le) (zs1.co) (zs1.fr) (zs1.em) (zs1.nb) (zs1.su) (by have := ga.kn; have := ga.n9; omega) (ga.n9))
  have hP : va_P D cls ((oC cJ qo f1 ++ vX cI cZ cQ ta vs1) ++ (mX cI cZ ta tb zs1 ++ [])) H := by rw [List.append_nil, List.append_assoc]; exact hP
  have hD : va_D A ((oC cJ qo f1 ++ vX cI cZ cQ ta vs1) ++ (mX cI cZ ta tb zs1 ++ [])) := by rw [List.append_nil, List.append_assoc]; exact hD
  refine md_VI (C := mX cI cZ ta tb zs1) (C' := mX cI cZ ta tb zs1) (Z := []) (As := []) (rest := []) hM8 ⟨wc_M_thrown, wm_L_81, wi_M, by decide, by decide, show (parseMethodDescriptor y_M_thrown.desc).map (fun d => d.parameters.length) = some 0 by decide +kernel⟩ wo_M_thrown wz_M_thrown hx hb hml hown hts hl.1 ⟨by show 0 + 1 ≤ room_1.frames; decide, by decide⟩ ⟨by show 100 + 16 * n9 + rl.cells + rm9.cells + 0 ≤ room_1.cells; have e9 : room_1.cells = 601024 := rfl; omega, by show 7000 + 120 * n9 + rl.slots + rm9.slots + 0 ≤ room_1.slots; have e9 : room_1.slots = 7293000 := rfl; omega⟩ (ty_J hK) hP hD hS hA (mX_adr _ _ _ _ _ _) (q0 := 0) rfl rfl rfl (Nat.le_of_ble_eq_true rfl) d_L_law_991 (fun H locs hP hD hS => ?_)
  rw [List.append_nil, List.append_assoc] at hP hD
  have hP : va_P D cls (oC cJ qo f1 ++ (vX cI cZ cQ ta vs1 ++ mX cI cZ ta tb zs1)) H := hP
  have hD : va_D A (oC cJ qo f1 ++ (vX cI cZ cQ ta vs1 ++ mX cI cZ ta tb zs1)) := hD
  refine lv_iload hx hb d_L_law_994 (lv_at hl 1 rfl) ?_
  refine lv_icmp_eq (tgt := 1001) hx hb d_L_law_996 rfl (fun hc996 => ?_) (fun hc996 => ?_)
  · skip
    refine lv_iload hx hb d_L_law_1001 (lv_at hl 1 rfl) ?_
    refine lv_if_ne (tgt := 1018) hx hb d_L_law_1003 rfl (fun hc1003 => ?_) (fun hc1003 => ?_)
    · skip
      refine lv_goto (tgt := 1021) hx hb d_L_law_1018 rfl ?_
      have hl := lv_sub hl (l' := [(0, .ref b), (1, .ref ta.qv), (2, .ref tb.qm), (3, .ref qo), (4, .int (nI (2 + 5 * n9)))]) [2, 3, 4, 5, 6] rfl
      refine W.widen (k := 100 + 16 * n9 + 12) (n := 7000 + 120 * n9 + 100) (by first | omega | (dsimp only; omega)) (by first | omega | (dsimp only; omega)) ?_
      exact kk _ _ _ _ ls H locs hi9 hl hP hD hS
    · skip
      have hcd9 : zs1.cd = 0 := hc1003
      refine lv_aload_n hx hb d_L_law_1006 rfl (lv_at hl 5 rfl) ?_
      refine lv_iconst (v := 0) hx hb d_L_law_1007 (by decide) ?_
      refine va_lald hx hb hK hP 0 3 rfl rfl (by unfold vp_in; decide) d_L_law_1008 ?_
      refine sd_topl (y := f1 0) rfl ?_
      refine lv_iload hx hb d_L_law_1009 (lv_at hl 0 rfl) ?_
      refine lv_i2l hx hb d_L_law_1011 rfl ?_
      refine W.lcmp hx hb d_L_law_1012 ?_
      refine lv_if_eq (tgt := 1018) hx hb d_L_law_1013 rfl (fun hc1013 => ?_) (fun hc1013 => ?_)
      · skip
        refine lv_goto (tgt := 1021) hx hb d_L_law_1018 rfl ?_
        have hl := lv_sub hl (l' := [(0, .ref b), (1, .ref ta.qv), (2, .ref tb.qm), (3, .ref qo), (4, .int (nI (2 + 5 * n9)))]) [2, 3, 4, 5, 6] rfl
        refine W.widen (k := 100 + 16 * n9 + 12) (n := 7000 + 120 * n9 + 100) (by first | omega | (dsimp only; omega)) (by first | omega | (dsimp only; omega)) ?_
        exact kk _ _ _ _ ls H locs hi9 hl hP hD hS
      · skip
        exact absurd (by rw [hout9 hcd9]; exact lg_self _) hc1013
  · skip
    exact absurd rfl hc996
