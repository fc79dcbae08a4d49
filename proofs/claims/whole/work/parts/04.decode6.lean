theorem d_LW_law_0 : decode code 0 = .ok (.new 7, 3) := by decide +kernel
theorem d_LW_law_3 : decode code 3 = .ok (.dup, 1) := by decide +kernel
theorem d_LW_law_4 : decode code 4 = .ok (.invokespecial 9, 3) := by decide +kernel
theorem d_LW_law_7 : decode code 7 = .ok (.astore_n 1, 1) := by decide +kernel
theorem d_LW_law_8 : decode code 8 = .ok (.new 10, 3) := by decide +kernel
theorem d_LW_law_11 : decode code 11 = .ok (.dup, 1) := by decide +kernel
theorem d_LW_law_12 : decode code 12 = .ok (.invokespecial 12, 3) := by decide +kernel
theorem d_LW_law_15 : decode code 15 = .ok (.astore_n 2, 1) := by decide +kernel
theorem d_LW_law_16 : decode code 16 = .ok (.iconst 0, 1) := by decide +kernel
theorem d_LW_law_17 : decode code 17 = .ok (.istore_n 3, 1) := by decide +kernel
theorem d_LW_law_18 : decode code 18 = .ok (.iload_n 3, 1) := by decide +kernel
theorem d_LW_law_19 : decode code 19 = .ok (.aload_n 0, 1) := by decide +kernel
theorem d_LW_law_20 : decode code 20 = .ok (.arraylength, 1) := by decide +kernel
theorem d_LW_law_21 : decode code 21 = .ok (.iconst 4, 1) := by decide +kernel
theorem d_LW_law_22 : decode code 22 = .ok (.isub, 1) := by decide +kernel
theorem d_LW_law_23 : decode code 23 = .ok (.if_icmp .gt 495, 3) := by decide +kernel
theorem d_LW_law_26 : decode code 26 = .ok (.aload_n 0, 1) := by decide +kernel
theorem d_LW_law_27 : decode code 27 = .ok (.iload_n 3, 1) := by decide +kernel
theorem d_LW_law_28 : decode code 28 = .ok (.iaload, 1) := by decide +kernel
theorem d_LW_law_29 : decode code 29 = .ok (.bipush 15, 2) := by decide +kernel
theorem d_LW_law_31 : decode code 31 = .ok (.iand, 1) := by decide +kernel
theorem d_LW_law_32 : decode code 32 = .ok (.tableswitch 480 0 15 #[80, 103, 116, 129, 178, 201, 260, 283, 296, 309, 322, 345, 368, 391, 424, 457], 80) := by decide +kernel
theorem d_LW_law_112 : decode code 112 = .ok (.aload_n 1, 1) := by decide +kernel
theorem d_LW_law_113 : decode code 113 = .ok (.aload_n 0, 1) := by decide +kernel
theorem d_LW_law_114 : decode code 114 = .ok (.iload_n 3, 1) := by decide +kernel
theorem d_LW_law_115 : decode code 115 = .ok (.iconst 1, 1) := by decide +kernel
theorem d_LW_law_116 : decode code 116 = .ok (.iadd, 1) := by decide +kernel
theorem d_LW_law_117 : decode code 117 = .ok (.iaload, 1) := by decide +kernel
theorem d_LW_law_118 : decode code 118 = .ok (.invokevirtual 13, 3) := by decide +kernel
theorem d_LW_law_121 : decode code 121 = .ok (.aload_n 2, 1) := by decide +kernel
theorem d_LW_law_122 : decode code 122 = .ok (.aload_n 0, 1) := by decide +kernel
theorem d_LW_law_123 : decode code 123 = .ok (.iload_n 3, 1) := by decide +kernel
theorem d_LW_law_124 : decode code 124 = .ok (.iconst 1, 1) := by decide +kernel
theorem d_LW_law_125 : decode code 125 = .ok (.iadd, 1) := by decide +kernel
theorem d_LW_law_126 : decode code 126 = .ok (.iaload, 1) := by decide +kernel
theorem d_LW_law_127 : decode code 127 = .ok (.invokevirtual 17, 3) := by decide +kernel
theorem d_LW_law_130 : decode code 130 = .ok (.if_icmp .eq 382, 3) := by decide +kernel
theorem d_LW_law_133 : decode code 133 = .ok (.iconst 0, 1) := by decide +kernel
theorem d_LW_law_134 : decode code 134 = .ok (.ireturn, 1) := by decide +kernel
theorem d_LW_law_135 : decode code 135 = .ok (.aload_n 1, 1) := by decide +kernel
theorem d_LW_law_136 : decode code 136 = .ok (.invokevirtual 18, 3) := by decide +kernel
theorem d_LW_law_139 : decode code 139 = .ok (.aload_n 2, 1) := by decide +kernel
theorem d_LW_law_140 : decode code 140 = .ok (.invokevirtual 22, 3) := by decide +kernel
theorem d_LW_law_143 : decode code 143 = .ok (.if_icmp .eq 369, 3) := by decide +kernel
theorem d_LW_law_146 : decode code 146 = .ok (.iconst 0, 1) := by decide +kernel
theorem d_LW_law_147 : decode code 147 = .ok (.ireturn, 1) := by decide +kernel
theorem d_LW_law_148 : decode code 148 = .ok (.aload_n 1, 1) := by decide +kernel
theorem d_LW_law_149 : decode code 149 = .ok (.invokevirtual 23, 3) := by decide +kernel
theorem d_LW_law_152 : decode code 152 = .ok (.aload_n 2, 1) := by decide +kernel
theorem d_LW_law_153 : decode code 153 = .ok (.invokevirtual 26, 3) := by decide +kernel
theorem d_LW_law_156 : decode code 156 = .ok (.if_icmp .eq 356, 3) := by decide +kernel
theorem d_LW_law_159 : decode code 159 = .ok (.iconst 0, 1) := by decide +kernel
theorem d_LW_law_160 : decode code 160 = .ok (.ireturn, 1) := by decide +kernel
theorem d_LW_law_161 : decode code 161 = .ok (.aload_n 1, 1) := by decide +kernel
theorem d_LW_law_162 : decode code 162 = .ok (.aload_n 0, 1) := by decide +kernel
theorem d_LW_law_163 : decode code 163 = .ok (.iload_n 3, 1) := by decide +kernel
theorem d_LW_law_164 : decode code 164 = .ok (.iconst 1, 1) := by decide +kernel
theorem d_LW_law_165 : decode code 165 = .ok (.iadd, 1) := by decide +kernel
theorem d_LW_law_166 : decode code 166 = .ok (.iaload, 1) := by decide +kernel
theorem d_LW_law_167 : decode code 167 = .ok (.aload_n 0, 1) := by decide +kernel
theorem d_LW_law_168 : decode code 168 = .ok (.iload_n 3, 1) := by decide +kernel
theorem d_LW_law_169 : decode code 169 = .ok (.iconst 2, 1) := by decide +kernel
theorem d_LW_law_170 : decode code 170 = .ok (.iadd, 1) := by decide +kernel
theorem d_LW_law_171 : decode code 171 = .ok (.iaload, 1) := by decide +kernel
theorem d_LW_law_172 : decode code 172 = .ok (.ifCond .eq 7, 3) := by decide +kernel
theorem d_LW_law_175 : decode code 175 = .ok (.iconst 1, 1) := by decide +kernel
theorem d_LW_law_176 : decode code 176 = .ok (.goto 4, 3) := by decide +kernel
theorem d_LW_law_179 : decode code 179 = .ok (.iconst 0, 1) := by decide +kernel
theorem d_LW_law_180 : decode code 180 = .ok (.invokevirtual 27, 3) := by decide +kernel
theorem d_LW_law_183 : decode code 183 = .ok (.aload_n 2, 1) := by decide +kernel
theorem d_LW_law_184 : decode code 184 = .ok (.aload_n 0, 1) := by decide +kernel
theorem d_LW_law_185 : decode code 185 = .ok (.iload_n 3, 1) := by decide +kernel
theorem d_LW_law_186 : decode code 186 = .ok (.iconst 1, 1) := by decide +kernel
theorem d_LW_law_187 : decode code 187 = .ok (.iadd, 1) := by decide +kernel
theorem d_LW_law_188 : decode code 188 = .ok (.iaload, 1) := by decide +kernel
theorem d_LW_law_189 : decode code 189 = .ok (.aload_n 0, 1) := by decide +kernel
theorem d_LW_law_190 : decode code 190 = .ok (.iload_n 3, 1) := by decide +kernel
theorem d_LW_law_191 : decode code 191 = .ok (.iconst 2, 1) := by decide +kernel
theorem d_LW_law_192 : decode code 192 = .ok (.iadd, 1) := by decide +kernel
theorem d_LW_law_193 : decode code 193 = .ok (.iaload, 1) := by decide +kernel
theorem d_LW_law_194 : decode code 194 = .ok (.ifCond .eq 7, 3) := by decide +kernel
theorem d_LW_law_197 : decode code 197 = .ok (.iconst 1, 1) := by decide +kernel
theorem d_LW_law_198 : decode code 198 = .ok (.goto 4, 3) := by decide +kernel
theorem d_LW_law_201 : decode code 201 = .ok (.iconst 0, 1) := by decide +kernel
theorem d_LW_law_202 : decode code 202 = .ok (.invokevirtual 31, 3) := by decide +kernel
theorem d_LW_law_205 : decode code 205 = .ok (.if_icmp .eq 307, 3) := by decide +kernel
theorem d_LW_law_208 : decode code 208 = .ok (.iconst 0, 1) := by decide +kernel
theorem d_LW_law_209 : decode code 209 = .ok (.ireturn, 1) := by decide +kernel
theorem d_LW_law_210 : decode code 210 = .ok (.aload_n 1, 1) := by decide +kernel
theorem d_LW_law_211 : decode code 211 = .ok (.aload_n 0, 1) := by decide +kernel
theorem d_LW_law_212 : decode code 212 = .ok (.iload_n 3, 1) := by decide +kernel
theorem d_LW_law_213 : decode code 213 = .ok (.iconst 1, 1) := by decide +kernel
theorem d_LW_law_214 : decode code 214 = .ok (.iadd, 1) := by decide +kernel
theorem d_LW_law_215 : decode code 215 = .ok (.iaload, 1) := by decide +kernel
theorem d_LW_law_216 : decode code 216 = .ok (.invokevirtual 32, 3) := by decide +kernel
theorem d_LW_law_219 : decode code 219 = .ok (.aload_n 2, 1) := by decide +kernel
theorem d_LW_law_220 : decode code 220 = .ok (.aload_n 0, 1) := by decide +kernel
theorem d_LW_law_221 : decode code 221 = .ok (.iload_n 3, 1) := by decide +kernel
theorem d_LW_law_222 : decode code 222 = .ok (.iconst 1, 1) := by decide +kernel
theorem d_LW_law_223 : decode code 223 = .ok (.iadd, 1) := by decide +kernel
theorem d_LW_law_224 : decode code 224 = .ok (.iaload, 1) := by decide +kernel
theorem d_LW_law_225 : decode code 225 = .ok (.invokevirtual 35, 3) := by decide +kernel
theorem d_LW_law_228 : decode code 228 = .ok (.if_icmp .eq 284, 3) := by decide +kernel
theorem d_LW_law_231 : decode code 231 = .ok (.iconst 0, 1) := by decide +kernel
theorem d_LW_law_232 : decode code 232 = .ok (.ireturn, 1) := by decide +kernel
theorem d_LW_law_233 : decode code 233 = .ok (.aload_n 1, 1) := by decide +kernel
theorem d_LW_law_234 : decode code 234 = .ok (.aload_n 0, 1) := by decide +kernel
theorem d_LW_law_235 : decode code 235 = .ok (.iload_n 3, 1) := by decide +kernel
theorem d_LW_law_236 : decode code 236 = .ok (.iconst 1, 1) := by decide +kernel
theorem d_LW_law_237 : decode code 237 = .ok (.iadd, 1) := by decide +kernel
theorem d_LW_law_238 : decode code 238 = .ok (.iaload, 1) := by decide +kernel
theorem d_LW_law_239 : decode code 239 = .ok (.aload_n 0, 1) := by decide +kernel
theorem d_LW_law_240 : decode code 240 = .ok (.iload_n 3, 1) := by decide +kernel
theorem d_LW_law_241 : decode code 241 = .ok (.iconst 2, 1) := by decide +kernel
theorem d_LW_law_242 : decode code 242 = .ok (.iadd, 1) := by decide +kernel
theorem d_LW_law_243 : decode code 243 = .ok (.iaload, 1) := by decide +kernel
theorem d_LW_law_244 : decode code 244 = .ok (.aload_n 0, 1) := by decide +kernel
theorem d_LW_law_245 : decode code 245 = .ok (.iload_n 3, 1) := by decide +kernel
theorem d_LW_law_246 : decode code 246 = .ok (.iconst 3, 1) := by decide +kernel
theorem d_LW_law_247 : decode code 247 = .ok (.iadd, 1) := by decide +kernel
theorem d_LW_law_248 : decode code 248 = .ok (.iaload, 1) := by decide +kernel
theorem d_LW_law_249 : decode code 249 = .ok (.ifCond .eq 7, 3) := by decide +kernel
theorem d_LW_law_252 : decode code 252 = .ok (.iconst 1, 1) := by decide +kernel
theorem d_LW_law_253 : decode code 253 = .ok (.goto 4, 3) := by decide +kernel
theorem d_LW_law_256 : decode code 256 = .ok (.iconst 0, 1) := by decide +kernel
theorem d_LW_law_257 : decode code 257 = .ok (.invokevirtual 36, 3) := by decide +kernel
theorem d_LW_law_260 : decode code 260 = .ok (.aload_n 2, 1) := by decide +kernel
theorem d_LW_law_261 : decode code 261 = .ok (.aload_n 0, 1) := by decide +kernel
theorem d_LW_law_262 : decode code 262 = .ok (.iload_n 3, 1) := by decide +kernel
theorem d_LW_law_263 : decode code 263 = .ok (.iconst 1, 1) := by decide +kernel
theorem d_LW_law_264 : decode code 264 = .ok (.iadd, 1) := by decide +kernel
theorem d_LW_law_265 : decode code 265 = .ok (.iaload, 1) := by decide +kernel
theorem d_LW_law_266 : decode code 266 = .ok (.aload_n 0, 1) := by decide +kernel
theorem d_LW_law_267 : decode code 267 = .ok (.iload_n 3, 1) := by decide +kernel
theorem d_LW_law_268 : decode code 268 = .ok (.iconst 2, 1) := by decide +kernel
theorem d_LW_law_269 : decode code 269 = .ok (.iadd, 1) := by decide +kernel
theorem d_LW_law_270 : decode code 270 = .ok (.iaload, 1) := by decide +kernel
theorem d_LW_law_271 : decode code 271 = .ok (.aload_n 0, 1) := by decide +kernel
theorem d_LW_law_272 : decode code 272 = .ok (.iload_n 3, 1) := by decide +kernel
theorem d_LW_law_273 : decode code 273 = .ok (.iconst 3, 1) := by decide +kernel
theorem d_LW_law_274 : decode code 274 = .ok (.iadd, 1) := by decide +kernel
theorem d_LW_law_275 : decode code 275 = .ok (.iaload, 1) := by decide +kernel
theorem d_LW_law_276 : decode code 276 = .ok (.ifCond .eq 7, 3) := by decide +kernel
theorem d_LW_law_279 : decode code 279 = .ok (.iconst 1, 1) := by decide +kernel
theorem d_LW_law_280 : decode code 280 = .ok (.goto 4, 3) := by decide +kernel
theorem d_LW_law_283 : decode code 283 = .ok (.iconst 0, 1) := by decide +kernel
theorem d_LW_law_284 : decode code 284 = .ok (.invokevirtual 40, 3) := by decide +kernel
theorem d_LW_law_287 : decode code 287 = .ok (.if_icmp .eq 225, 3) := by decide +kernel
theorem d_LW_law_290 : decode code 290 = .ok (.iconst 0, 1) := by decide +kernel
theorem d_LW_law_291 : decode code 291 = .ok (.ireturn, 1) := by decide +kernel
theorem d_LW_law_292 : decode code 292 = .ok (.aload_n 1, 1) := by decide +kernel
theorem d_LW_law_293 : decode code 293 = .ok (.aload_n 0, 1) := by decide +kernel
theorem d_LW_law_294 : decode code 294 = .ok (.iload_n 3, 1) := by decide +kernel
theorem d_LW_law_295 : decode code 295 = .ok (.iconst 1, 1) := by decide +kernel
theorem d_LW_law_296 : decode code 296 = .ok (.iadd, 1) := by decide +kernel
theorem d_LW_law_297 : decode code 297 = .ok (.iaload, 1) := by decide +kernel
theorem d_LW_law_298 : decode code 298 = .ok (.invokevirtual 41, 3) := by decide +kernel
theorem d_LW_law_301 : decode code 301 = .ok (.aload_n 2, 1) := by decide +kernel
theorem d_LW_law_302 : decode code 302 = .ok (.aload_n 0, 1) := by decide +kernel
theorem d_LW_law_303 : decode code 303 = .ok (.iload_n 3, 1) := by decide +kernel
theorem d_LW_law_304 : decode code 304 = .ok (.iconst 1, 1) := by decide +kernel
theorem d_LW_law_305 : decode code 305 = .ok (.iadd, 1) := by decide +kernel
theorem d_LW_law_306 : decode code 306 = .ok (.iaload, 1) := by decide +kernel
theorem d_LW_law_307 : decode code 307 = .ok (.invokevirtual 44, 3) := by decide +kernel
theorem d_LW_law_310 : decode code 310 = .ok (.if_icmp .eq 202, 3) := by decide +kernel
theorem d_LW_law_313 : decode code 313 = .ok (.iconst 0, 1) := by decide +kernel
theorem d_LW_law_314 : decode code 314 = .ok (.ireturn, 1) := by decide +kernel
theorem d_LW_law_315 : decode code 315 = .ok (.aload_n 1, 1) := by decide +kernel
theorem d_LW_law_316 : decode code 316 = .ok (.invokevirtual 45, 3) := by decide +kernel
theorem d_LW_law_319 : decode code 319 = .ok (.aload_n 2, 1) := by decide +kernel
theorem d_LW_law_320 : decode code 320 = .ok (.invokevirtual 48, 3) := by decide +kernel
theorem d_LW_law_323 : decode code 323 = .ok (.if_icmp .eq 189, 3) := by decide +kernel
theorem d_LW_law_326 : decode code 326 = .ok (.iconst 0, 1) := by decide +kernel
theorem d_LW_law_327 : decode code 327 = .ok (.ireturn, 1) := by decide +kernel
theorem d_LW_law_328 : decode code 328 = .ok (.aload_n 1, 1) := by decide +kernel
theorem d_LW_law_329 : decode code 329 = .ok (.invokevirtual 49, 3) := by decide +kernel
theorem d_LW_law_332 : decode code 332 = .ok (.aload_n 2, 1) := by decide +kernel
theorem d_LW_law_333 : decode code 333 = .ok (.invokevirtual 52, 3) := by decide +kernel
theorem d_LW_law_336 : decode code 336 = .ok (.if_icmp .eq 176, 3) := by decide +kernel
theorem d_LW_law_339 : decode code 339 = .ok (.iconst 0, 1) := by decide +kernel
theorem d_LW_law_340 : decode code 340 = .ok (.ireturn, 1) := by decide +kernel
theorem d_LW_law_341 : decode code 341 = .ok (.aload_n 1, 1) := by decide +kernel
theorem d_LW_law_342 : decode code 342 = .ok (.invokevirtual 53, 3) := by decide +kernel
theorem d_LW_law_345 : decode code 345 = .ok (.aload_n 2, 1) := by decide +kernel
theorem d_LW_law_346 : decode code 346 = .ok (.invokevirtual 56, 3) := by decide +kernel
theorem d_LW_law_349 : decode code 349 = .ok (.if_icmp .eq 163, 3) := by decide +kernel
theorem d_LW_law_352 : decode code 352 = .ok (.iconst 0, 1) := by decide +kernel
theorem d_LW_law_353 : decode code 353 = .ok (.ireturn, 1) := by decide +kernel
theorem d_LW_law_354 : decode code 354 = .ok (.aload_n 1, 1) := by decide +kernel
theorem d_LW_law_355 : decode code 355 = .ok (.aload_n 0, 1) := by decide +kernel
theorem d_LW_law_356 : decode code 356 = .ok (.iload_n 3, 1) := by decide +kernel
theorem d_LW_law_357 : decode code 357 = .ok (.iconst 1, 1) := by decide +kernel
theorem d_LW_law_358 : decode code 358 = .ok (.iadd, 1) := by decide +kernel
theorem d_LW_law_359 : decode code 359 = .ok (.iaload, 1) := by decide +kernel
theorem d_LW_law_360 : decode code 360 = .ok (.invokevirtual 57, 3) := by decide +kernel
theorem d_LW_law_363 : decode code 363 = .ok (.aload_n 2, 1) := by decide +kernel
theorem d_LW_law_364 : decode code 364 = .ok (.aload_n 0, 1) := by decide +kernel
theorem d_LW_law_365 : decode code 365 = .ok (.iload_n 3, 1) := by decide +kernel
theorem d_LW_law_366 : decode code 366 = .ok (.iconst 1, 1) := by decide +kernel
theorem d_LW_law_367 : decode code 367 = .ok (.iadd, 1) := by decide +kernel
theorem d_LW_law_368 : decode code 368 = .ok (.iaload, 1) := by decide +kernel
theorem d_LW_law_369 : decode code 369 = .ok (.invokevirtual 60, 3) := by decide +kernel
theorem d_LW_law_372 : decode code 372 = .ok (.if_icmp .eq 140, 3) := by decide +kernel
theorem d_LW_law_375 : decode code 375 = .ok (.iconst 0, 1) := by decide +kernel
theorem d_LW_law_376 : decode code 376 = .ok (.ireturn, 1) := by decide +kernel
theorem d_LW_law_377 : decode code 377 = .ok (.aload_n 1, 1) := by decide +kernel
theorem d_LW_law_378 : decode code 378 = .ok (.aload_n 0, 1) := by decide +kernel
theorem d_LW_law_379 : decode code 379 = .ok (.iload_n 3, 1) := by decide +kernel
theorem d_LW_law_380 : decode code 380 = .ok (.iconst 1, 1) := by decide +kernel
theorem d_LW_law_381 : decode code 381 = .ok (.iadd, 1) := by decide +kernel
theorem d_LW_law_382 : decode code 382 = .ok (.iaload, 1) := by decide +kernel
theorem d_LW_law_383 : decode code 383 = .ok (.invokevirtual 61, 3) := by decide +kernel
theorem d_LW_law_386 : decode code 386 = .ok (.aload_n 2, 1) := by decide +kernel
theorem d_LW_law_387 : decode code 387 = .ok (.aload_n 0, 1) := by decide +kernel
theorem d_LW_law_388 : decode code 388 = .ok (.iload_n 3, 1) := by decide +kernel
theorem d_LW_law_389 : decode code 389 = .ok (.iconst 1, 1) := by decide +kernel
theorem d_LW_law_390 : decode code 390 = .ok (.iadd, 1) := by decide +kernel
theorem d_LW_law_391 : decode code 391 = .ok (.iaload, 1) := by decide +kernel
theorem d_LW_law_392 : decode code 392 = .ok (.invokevirtual 64, 3) := by decide +kernel
theorem d_LW_law_395 : decode code 395 = .ok (.if_icmp .eq 117, 3) := by decide +kernel
theorem d_LW_law_398 : decode code 398 = .ok (.iconst 0, 1) := by decide +kernel
theorem d_LW_law_399 : decode code 399 = .ok (.ireturn, 1) := by decide +kernel
theorem d_LW_law_400 : decode code 400 = .ok (.aload_n 1, 1) := by decide +kernel
theorem d_LW_law_401 : decode code 401 = .ok (.aload_n 0, 1) := by decide +kernel
theorem d_LW_law_402 : decode code 402 = .ok (.iload_n 3, 1) := by decide +kernel
theorem d_LW_law_403 : decode code 403 = .ok (.iconst 1, 1) := by decide +kernel
theorem d_LW_law_404 : decode code 404 = .ok (.iadd, 1) := by decide +kernel
theorem d_LW_law_405 : decode code 405 = .ok (.iaload, 1) := by decide +kernel
theorem d_LW_law_406 : decode code 406 = .ok (.invokevirtual 65, 3) := by decide +kernel
theorem d_LW_law_409 : decode code 409 = .ok (.aload_n 2, 1) := by decide +kernel
theorem d_LW_law_410 : decode code 410 = .ok (.aload_n 0, 1) := by decide +kernel
theorem d_LW_law_411 : decode code 411 = .ok (.iload_n 3, 1) := by decide +kernel
theorem d_LW_law_412 : decode code 412 = .ok (.iconst 1, 1) := by decide +kernel
theorem d_LW_law_413 : decode code 413 = .ok (.iadd, 1) := by decide +kernel
theorem d_LW_law_414 : decode code 414 = .ok (.iaload, 1) := by decide +kernel
theorem d_LW_law_415 : decode code 415 = .ok (.invokevirtual 68, 3) := by decide +kernel
theorem d_LW_law_418 : decode code 418 = .ok (.if_icmp .eq 94, 3) := by decide +kernel
theorem d_LW_law_421 : decode code 421 = .ok (.iconst 0, 1) := by decide +kernel
theorem d_LW_law_422 : decode code 422 = .ok (.ireturn, 1) := by decide +kernel
theorem d_LW_law_423 : decode code 423 = .ok (.aload_n 1, 1) := by decide +kernel
theorem d_LW_law_424 : decode code 424 = .ok (.aload_n 0, 1) := by decide +kernel
theorem d_LW_law_425 : decode code 425 = .ok (.iload_n 3, 1) := by decide +kernel
theorem d_LW_law_426 : decode code 426 = .ok (.iconst 1, 1) := by decide +kernel
theorem d_LW_law_427 : decode code 427 = .ok (.iadd, 1) := by decide +kernel
theorem d_LW_law_428 : decode code 428 = .ok (.iaload, 1) := by decide +kernel
theorem d_LW_law_429 : decode code 429 = .ok (.aload_n 0, 1) := by decide +kernel
theorem d_LW_law_430 : decode code 430 = .ok (.iload_n 3, 1) := by decide +kernel
theorem d_LW_law_431 : decode code 431 = .ok (.iconst 2, 1) := by decide +kernel
theorem d_LW_law_432 : decode code 432 = .ok (.iadd, 1) := by decide +kernel
theorem d_LW_law_433 : decode code 433 = .ok (.iaload, 1) := by decide +kernel
theorem d_LW_law_434 : decode code 434 = .ok (.invokevirtual 69, 3) := by decide +kernel
theorem d_LW_law_437 : decode code 437 = .ok (.aload_n 2, 1) := by decide +kernel
theorem d_LW_law_438 : decode code 438 = .ok (.aload_n 0, 1) := by decide +kernel
theorem d_LW_law_439 : decode code 439 = .ok (.iload_n 3, 1) := by decide +kernel
theorem d_LW_law_440 : decode code 440 = .ok (.iconst 1, 1) := by decide +kernel
theorem d_LW_law_441 : decode code 441 = .ok (.iadd, 1) := by decide +kernel
theorem d_LW_law_442 : decode code 442 = .ok (.iaload, 1) := by decide +kernel
theorem d_LW_law_443 : decode code 443 = .ok (.aload_n 0, 1) := by decide +kernel
theorem d_LW_law_444 : decode code 444 = .ok (.iload_n 3, 1) := by decide +kernel
theorem d_LW_law_445 : decode code 445 = .ok (.iconst 2, 1) := by decide +kernel
theorem d_LW_law_446 : decode code 446 = .ok (.iadd, 1) := by decide +kernel
theorem d_LW_law_447 : decode code 447 = .ok (.iaload, 1) := by decide +kernel
theorem d_LW_law_448 : decode code 448 = .ok (.invokevirtual 73, 3) := by decide +kernel
theorem d_LW_law_451 : decode code 451 = .ok (.if_icmp .eq 61, 3) := by decide +kernel
theorem d_LW_law_454 : decode code 454 = .ok (.iconst 0, 1) := by decide +kernel
theorem d_LW_law_455 : decode code 455 = .ok (.ireturn, 1) := by decide +kernel
theorem d_LW_law_456 : decode code 456 = .ok (.aload_n 1, 1) := by decide +kernel
theorem d_LW_law_457 : decode code 457 = .ok (.aload_n 0, 1) := by decide +kernel
theorem d_LW_law_458 : decode code 458 = .ok (.iload_n 3, 1) := by decide +kernel
theorem d_LW_law_459 : decode code 459 = .ok (.iconst 1, 1) := by decide +kernel
theorem d_LW_law_460 : decode code 460 = .ok (.iadd, 1) := by decide +kernel
theorem d_LW_law_461 : decode code 461 = .ok (.iaload, 1) := by decide +kernel
theorem d_LW_law_462 : decode code 462 = .ok (.aload_n 0, 1) := by decide +kernel
theorem d_LW_law_463 : decode code 463 = .ok (.iload_n 3, 1) := by decide +kernel
theorem d_LW_law_464 : decode code 464 = .ok (.iconst 2, 1) := by decide +kernel
theorem d_LW_law_465 : decode code 465 = .ok (.iadd, 1) := by decide +kernel
theorem d_LW_law_466 : decode code 466 = .ok (.iaload, 1) := by decide +kernel
theorem d_LW_law_467 : decode code 467 = .ok (.invokevirtual 74, 3) := by decide +kernel
theorem d_LW_law_470 : decode code 470 = .ok (.aload_n 2, 1) := by decide +kernel
theorem d_LW_law_471 : decode code 471 = .ok (.aload_n 0, 1) := by decide +kernel
theorem d_LW_law_472 : decode code 472 = .ok (.iload_n 3, 1) := by decide +kernel
theorem d_LW_law_473 : decode code 473 = .ok (.iconst 1, 1) := by decide +kernel
theorem d_LW_law_474 : decode code 474 = .ok (.iadd, 1) := by decide +kernel
theorem d_LW_law_475 : decode code 475 = .ok (.iaload, 1) := by decide +kernel
theorem d_LW_law_476 : decode code 476 = .ok (.aload_n 0, 1) := by decide +kernel
theorem d_LW_law_477 : decode code 477 = .ok (.iload_n 3, 1) := by decide +kernel
theorem d_LW_law_478 : decode code 478 = .ok (.iconst 2, 1) := by decide +kernel
theorem d_LW_law_479 : decode code 479 = .ok (.iadd, 1) := by decide +kernel
theorem d_LW_law_480 : decode code 480 = .ok (.iaload, 1) := by decide +kernel
theorem d_LW_law_481 : decode code 481 = .ok (.invokevirtual 77, 3) := by decide +kernel
theorem d_LW_law_484 : decode code 484 = .ok (.if_icmp .eq 28, 3) := by decide +kernel
theorem d_LW_law_487 : decode code 487 = .ok (.iconst 0, 1) := by decide +kernel
theorem d_LW_law_488 : decode code 488 = .ok (.ireturn, 1) := by decide +kernel
theorem d_LW_law_489 : decode code 489 = .ok (.aload_n 1, 1) := by decide +kernel
theorem d_LW_law_490 : decode code 490 = .ok (.aload_n 0, 1) := by decide +kernel
theorem d_LW_law_491 : decode code 491 = .ok (.iload_n 3, 1) := by decide +kernel
theorem d_LW_law_492 : decode code 492 = .ok (.iconst 1, 1) := by decide +kernel
theorem d_LW_law_493 : decode code 493 = .ok (.iadd, 1) := by decide +kernel
theorem d_LW_law_494 : decode code 494 = .ok (.iaload, 1) := by decide +kernel
theorem d_LW_law_495 : decode code 495 = .ok (.invokevirtual 78, 3) := by decide +kernel
theorem d_LW_law_498 : decode code 498 = .ok (.aload_n 2, 1) := by decide +kernel
theorem d_LW_law_499 : decode code 499 = .ok (.aload_n 0, 1) := by decide +kernel
theorem d_LW_law_500 : decode code 500 = .ok (.iload_n 3, 1) := by decide +kernel
theorem d_LW_law_501 : decode code 501 = .ok (.iconst 1, 1) := by decide +kernel
theorem d_LW_law_502 : decode code 502 = .ok (.iadd, 1) := by decide +kernel
theorem d_LW_law_503 : decode code 503 = .ok (.iaload, 1) := by decide +kernel
theorem d_LW_law_504 : decode code 504 = .ok (.invokevirtual 81, 3) := by decide +kernel
theorem d_LW_law_507 : decode code 507 = .ok (.if_icmp .eq 5, 3) := by decide +kernel
theorem d_LW_law_510 : decode code 510 = .ok (.iconst 0, 1) := by decide +kernel
theorem d_LW_law_511 : decode code 511 = .ok (.ireturn, 1) := by decide +kernel
theorem d_LW_law_512 : decode code 512 = .ok (.iinc 3 4, 3) := by decide +kernel
theorem d_LW_law_515 : decode code 515 = .ok (.goto (-497), 3) := by decide +kernel
theorem d_LW_law_518 : decode code 518 = .ok (.iconst 1, 1) := by decide +kernel
theorem d_LW_law_519 : decode code 519 = .ok (.ireturn, 1) := by decide +kernel
