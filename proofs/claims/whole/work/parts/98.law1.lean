/-! ===== the law: what its loop does in a case ===== -/
theorem dL_law_0 : decode cL_law 0 = .ok (.new 7, 3) := by decide +kernel
theorem dL_law_3 : decode cL_law 3 = .ok (.dup, 1) := by decide +kernel
theorem dL_law_4 : decode cL_law 4 = .ok (.invokespecial 9, 3) := by decide +kernel
theorem dL_law_7 : decode cL_law 7 = .ok (.astore_n 1, 1) := by decide +kernel
theorem dL_law_8 : decode cL_law 8 = .ok (.new 10, 3) := by decide +kernel
theorem dL_law_11 : decode cL_law 11 = .ok (.dup, 1) := by decide +kernel
theorem dL_law_12 : decode cL_law 12 = .ok (.invokespecial 12, 3) := by decide +kernel
theorem dL_law_15 : decode cL_law 15 = .ok (.astore_n 2, 1) := by decide +kernel
theorem dL_law_16 : decode cL_law 16 = .ok (.iconst 0, 1) := by decide +kernel
theorem dL_law_17 : decode cL_law 17 = .ok (.istore_n 3, 1) := by decide +kernel
theorem dL_law_18 : decode cL_law 18 = .ok (.iload_n 3, 1) := by decide +kernel
theorem dL_law_19 : decode cL_law 19 = .ok (.aload_n 0, 1) := by decide +kernel
theorem dL_law_20 : decode cL_law 20 = .ok (.arraylength, 1) := by decide +kernel
theorem dL_law_21 : decode cL_law 21 = .ok (.iconst 4, 1) := by decide +kernel
theorem dL_law_22 : decode cL_law 22 = .ok (.isub, 1) := by decide +kernel
theorem dL_law_23 : decode cL_law 23 = .ok (.if_icmp .gt 670, 3) := by decide +kernel
theorem dL_law_26 : decode cL_law 26 = .ok (.aload_n 0, 1) := by decide +kernel
theorem dL_law_27 : decode cL_law 27 = .ok (.iload_n 3, 1) := by decide +kernel
theorem dL_law_28 : decode cL_law 28 = .ok (.iaload, 1) := by decide +kernel
theorem dL_law_29 : decode cL_law 29 = .ok (.bipush 31, 2) := by decide +kernel
theorem dL_law_31 : decode cL_law 31 = .ok (.iand, 1) := by decide +kernel
theorem dL_law_32 : decode cL_law 32 = .ok (.tableswitch 655 0 19 #[96, 119, 152, 201, 244, 267, 290, 303, 336, 359, 372, 385, 428, 461, 495, 519, 553, 576, 609, 642], 96) := by decide +kernel
theorem dL_law_128 : decode cL_law 128 = .ok (.aload_n 1, 1) := by decide +kernel
theorem dL_law_129 : decode cL_law 129 = .ok (.aload_n 0, 1) := by decide +kernel
theorem dL_law_130 : decode cL_law 130 = .ok (.iload_n 3, 1) := by decide +kernel
theorem dL_law_131 : decode cL_law 131 = .ok (.iconst 1, 1) := by decide +kernel
theorem dL_law_132 : decode cL_law 132 = .ok (.iadd, 1) := by decide +kernel
theorem dL_law_133 : decode cL_law 133 = .ok (.iaload, 1) := by decide +kernel
theorem dL_law_134 : decode cL_law 134 = .ok (.invokevirtual 13, 3) := by decide +kernel
theorem dL_law_137 : decode cL_law 137 = .ok (.aload_n 2, 1) := by decide +kernel
theorem dL_law_138 : decode cL_law 138 = .ok (.aload_n 0, 1) := by decide +kernel
theorem dL_law_139 : decode cL_law 139 = .ok (.iload_n 3, 1) := by decide +kernel
theorem dL_law_140 : decode cL_law 140 = .ok (.iconst 1, 1) := by decide +kernel
theorem dL_law_141 : decode cL_law 141 = .ok (.iadd, 1) := by decide +kernel
theorem dL_law_142 : decode cL_law 142 = .ok (.iaload, 1) := by decide +kernel
theorem dL_law_143 : decode cL_law 143 = .ok (.invokevirtual 17, 3) := by decide +kernel
theorem dL_law_146 : decode cL_law 146 = .ok (.if_icmp .eq 541, 3) := by decide +kernel
theorem dL_law_149 : decode cL_law 149 = .ok (.iconst 0, 1) := by decide +kernel
theorem dL_law_150 : decode cL_law 150 = .ok (.ireturn, 1) := by decide +kernel
theorem dL_law_151 : decode cL_law 151 = .ok (.aload_n 1, 1) := by decide +kernel
theorem dL_law_152 : decode cL_law 152 = .ok (.aload_n 0, 1) := by decide +kernel
theorem dL_law_153 : decode cL_law 153 = .ok (.iload_n 3, 1) := by decide +kernel
theorem dL_law_154 : decode cL_law 154 = .ok (.iconst 1, 1) := by decide +kernel
theorem dL_law_155 : decode cL_law 155 = .ok (.iadd, 1) := by decide +kernel
theorem dL_law_156 : decode cL_law 156 = .ok (.iaload, 1) := by decide +kernel
theorem dL_law_157 : decode cL_law 157 = .ok (.aload_n 0, 1) := by decide +kernel
theorem dL_law_158 : decode cL_law 158 = .ok (.iload_n 3, 1) := by decide +kernel
theorem dL_law_159 : decode cL_law 159 = .ok (.iconst 2, 1) := by decide +kernel
theorem dL_law_160 : decode cL_law 160 = .ok (.iadd, 1) := by decide +kernel
theorem dL_law_161 : decode cL_law 161 = .ok (.iaload, 1) := by decide +kernel
theorem dL_law_162 : decode cL_law 162 = .ok (.invokevirtual 18, 3) := by decide +kernel
theorem dL_law_165 : decode cL_law 165 = .ok (.aload_n 2, 1) := by decide +kernel
theorem dL_law_166 : decode cL_law 166 = .ok (.aload_n 0, 1) := by decide +kernel
theorem dL_law_167 : decode cL_law 167 = .ok (.iload_n 3, 1) := by decide +kernel
theorem dL_law_168 : decode cL_law 168 = .ok (.iconst 1, 1) := by decide +kernel
theorem dL_law_169 : decode cL_law 169 = .ok (.iadd, 1) := by decide +kernel
theorem dL_law_170 : decode cL_law 170 = .ok (.iaload, 1) := by decide +kernel
theorem dL_law_171 : decode cL_law 171 = .ok (.aload_n 0, 1) := by decide +kernel
theorem dL_law_172 : decode cL_law 172 = .ok (.iload_n 3, 1) := by decide +kernel
theorem dL_law_173 : decode cL_law 173 = .ok (.iconst 2, 1) := by decide +kernel
theorem dL_law_174 : decode cL_law 174 = .ok (.iadd, 1) := by decide +kernel
theorem dL_law_175 : decode cL_law 175 = .ok (.iaload, 1) := by decide +kernel
theorem dL_law_176 : decode cL_law 176 = .ok (.invokevirtual 22, 3) := by decide +kernel
theorem dL_law_179 : decode cL_law 179 = .ok (.if_icmp .eq 508, 3) := by decide +kernel
theorem dL_law_182 : decode cL_law 182 = .ok (.iconst 0, 1) := by decide +kernel
theorem dL_law_183 : decode cL_law 183 = .ok (.ireturn, 1) := by decide +kernel
theorem dL_law_184 : decode cL_law 184 = .ok (.aload_n 1, 1) := by decide +kernel
theorem dL_law_185 : decode cL_law 185 = .ok (.aload_n 0, 1) := by decide +kernel
theorem dL_law_186 : decode cL_law 186 = .ok (.iload_n 3, 1) := by decide +kernel
theorem dL_law_187 : decode cL_law 187 = .ok (.iconst 1, 1) := by decide +kernel
theorem dL_law_188 : decode cL_law 188 = .ok (.iadd, 1) := by decide +kernel
theorem dL_law_189 : decode cL_law 189 = .ok (.iaload, 1) := by decide +kernel
theorem dL_law_190 : decode cL_law 190 = .ok (.aload_n 0, 1) := by decide +kernel
theorem dL_law_191 : decode cL_law 191 = .ok (.iload_n 3, 1) := by decide +kernel
theorem dL_law_192 : decode cL_law 192 = .ok (.iconst 2, 1) := by decide +kernel
theorem dL_law_193 : decode cL_law 193 = .ok (.iadd, 1) := by decide +kernel
theorem dL_law_194 : decode cL_law 194 = .ok (.iaload, 1) := by decide +kernel
theorem dL_law_195 : decode cL_law 195 = .ok (.ifCond .eq 7, 3) := by decide +kernel
theorem dL_law_198 : decode cL_law 198 = .ok (.iconst 1, 1) := by decide +kernel
theorem dL_law_199 : decode cL_law 199 = .ok (.goto 4, 3) := by decide +kernel
theorem dL_law_202 : decode cL_law 202 = .ok (.iconst 0, 1) := by decide +kernel
theorem dL_law_203 : decode cL_law 203 = .ok (.invokevirtual 23, 3) := by decide +kernel
theorem dL_law_206 : decode cL_law 206 = .ok (.aload_n 2, 1) := by decide +kernel
theorem dL_law_207 : decode cL_law 207 = .ok (.aload_n 0, 1) := by decide +kernel
theorem dL_law_208 : decode cL_law 208 = .ok (.iload_n 3, 1) := by decide +kernel
theorem dL_law_209 : decode cL_law 209 = .ok (.iconst 1, 1) := by decide +kernel
theorem dL_law_210 : decode cL_law 210 = .ok (.iadd, 1) := by decide +kernel
theorem dL_law_211 : decode cL_law 211 = .ok (.iaload, 1) := by decide +kernel
theorem dL_law_212 : decode cL_law 212 = .ok (.aload_n 0, 1) := by decide +kernel
theorem dL_law_213 : decode cL_law 213 = .ok (.iload_n 3, 1) := by decide +kernel
theorem dL_law_214 : decode cL_law 214 = .ok (.iconst 2, 1) := by decide +kernel
theorem dL_law_215 : decode cL_law 215 = .ok (.iadd, 1) := by decide +kernel
theorem dL_law_216 : decode cL_law 216 = .ok (.iaload, 1) := by decide +kernel
theorem dL_law_217 : decode cL_law 217 = .ok (.ifCond .eq 7, 3) := by decide +kernel
theorem dL_law_220 : decode cL_law 220 = .ok (.iconst 1, 1) := by decide +kernel
theorem dL_law_221 : decode cL_law 221 = .ok (.goto 4, 3) := by decide +kernel
theorem dL_law_224 : decode cL_law 224 = .ok (.iconst 0, 1) := by decide +kernel
theorem dL_law_225 : decode cL_law 225 = .ok (.invokevirtual 27, 3) := by decide +kernel
theorem dL_law_228 : decode cL_law 228 = .ok (.if_icmp .eq 459, 3) := by decide +kernel
theorem dL_law_231 : decode cL_law 231 = .ok (.iconst 0, 1) := by decide +kernel
theorem dL_law_232 : decode cL_law 232 = .ok (.ireturn, 1) := by decide +kernel
theorem dL_law_233 : decode cL_law 233 = .ok (.aload_n 1, 1) := by decide +kernel
theorem dL_law_234 : decode cL_law 234 = .ok (.aload_n 0, 1) := by decide +kernel
theorem dL_law_235 : decode cL_law 235 = .ok (.iload_n 3, 1) := by decide +kernel
theorem dL_law_236 : decode cL_law 236 = .ok (.iconst 1, 1) := by decide +kernel
theorem dL_law_237 : decode cL_law 237 = .ok (.iadd, 1) := by decide +kernel
theorem dL_law_238 : decode cL_law 238 = .ok (.iaload, 1) := by decide +kernel
theorem dL_law_239 : decode cL_law 239 = .ok (.aload_n 0, 1) := by decide +kernel
theorem dL_law_240 : decode cL_law 240 = .ok (.iload_n 3, 1) := by decide +kernel
theorem dL_law_241 : decode cL_law 241 = .ok (.iconst 2, 1) := by decide +kernel
theorem dL_law_242 : decode cL_law 242 = .ok (.iadd, 1) := by decide +kernel
theorem dL_law_243 : decode cL_law 243 = .ok (.iaload, 1) := by decide +kernel
theorem dL_law_244 : decode cL_law 244 = .ok (.aload_n 0, 1) := by decide +kernel
theorem dL_law_245 : decode cL_law 245 = .ok (.iload_n 3, 1) := by decide +kernel
theorem dL_law_246 : decode cL_law 246 = .ok (.iconst 3, 1) := by decide +kernel
theorem dL_law_247 : decode cL_law 247 = .ok (.iadd, 1) := by decide +kernel
theorem dL_law_248 : decode cL_law 248 = .ok (.iaload, 1) := by decide +kernel
theorem dL_law_249 : decode cL_law 249 = .ok (.invokevirtual 28, 3) := by decide +kernel
theorem dL_law_252 : decode cL_law 252 = .ok (.aload_n 2, 1) := by decide +kernel
theorem dL_law_253 : decode cL_law 253 = .ok (.aload_n 0, 1) := by decide +kernel
theorem dL_law_254 : decode cL_law 254 = .ok (.iload_n 3, 1) := by decide +kernel
theorem dL_law_255 : decode cL_law 255 = .ok (.iconst 1, 1) := by decide +kernel
theorem dL_law_256 : decode cL_law 256 = .ok (.iadd, 1) := by decide +kernel
theorem dL_law_257 : decode cL_law 257 = .ok (.iaload, 1) := by decide +kernel
theorem dL_law_258 : decode cL_law 258 = .ok (.aload_n 0, 1) := by decide +kernel
theorem dL_law_259 : decode cL_law 259 = .ok (.iload_n 3, 1) := by decide +kernel
theorem dL_law_260 : decode cL_law 260 = .ok (.iconst 2, 1) := by decide +kernel
theorem dL_law_261 : decode cL_law 261 = .ok (.iadd, 1) := by decide +kernel
theorem dL_law_262 : decode cL_law 262 = .ok (.iaload, 1) := by decide +kernel
theorem dL_law_263 : decode cL_law 263 = .ok (.aload_n 0, 1) := by decide +kernel
theorem dL_law_264 : decode cL_law 264 = .ok (.iload_n 3, 1) := by decide +kernel
theorem dL_law_265 : decode cL_law 265 = .ok (.iconst 3, 1) := by decide +kernel
theorem dL_law_266 : decode cL_law 266 = .ok (.iadd, 1) := by decide +kernel
theorem dL_law_267 : decode cL_law 267 = .ok (.iaload, 1) := by decide +kernel
theorem dL_law_268 : decode cL_law 268 = .ok (.invokevirtual 32, 3) := by decide +kernel
theorem dL_law_271 : decode cL_law 271 = .ok (.if_icmp .eq 416, 3) := by decide +kernel
theorem dL_law_274 : decode cL_law 274 = .ok (.iconst 0, 1) := by decide +kernel
theorem dL_law_275 : decode cL_law 275 = .ok (.ireturn, 1) := by decide +kernel
theorem dL_law_276 : decode cL_law 276 = .ok (.aload_n 1, 1) := by decide +kernel
theorem dL_law_277 : decode cL_law 277 = .ok (.aload_n 0, 1) := by decide +kernel
theorem dL_law_278 : decode cL_law 278 = .ok (.iload_n 3, 1) := by decide +kernel
theorem dL_law_279 : decode cL_law 279 = .ok (.iconst 1, 1) := by decide +kernel
theorem dL_law_280 : decode cL_law 280 = .ok (.iadd, 1) := by decide +kernel
theorem dL_law_281 : decode cL_law 281 = .ok (.iaload, 1) := by decide +kernel
theorem dL_law_282 : decode cL_law 282 = .ok (.invokevirtual 33, 3) := by decide +kernel
theorem dL_law_285 : decode cL_law 285 = .ok (.aload_n 2, 1) := by decide +kernel
theorem dL_law_286 : decode cL_law 286 = .ok (.aload_n 0, 1) := by decide +kernel
theorem dL_law_287 : decode cL_law 287 = .ok (.iload_n 3, 1) := by decide +kernel
theorem dL_law_288 : decode cL_law 288 = .ok (.iconst 1, 1) := by decide +kernel
theorem dL_law_289 : decode cL_law 289 = .ok (.iadd, 1) := by decide +kernel
theorem dL_law_290 : decode cL_law 290 = .ok (.iaload, 1) := by decide +kernel
theorem dL_law_291 : decode cL_law 291 = .ok (.invokevirtual 36, 3) := by decide +kernel
theorem dL_law_294 : decode cL_law 294 = .ok (.if_icmp .eq 393, 3) := by decide +kernel
theorem dL_law_297 : decode cL_law 297 = .ok (.iconst 0, 1) := by decide +kernel
theorem dL_law_298 : decode cL_law 298 = .ok (.ireturn, 1) := by decide +kernel
theorem dL_law_299 : decode cL_law 299 = .ok (.aload_n 1, 1) := by decide +kernel
theorem dL_law_300 : decode cL_law 300 = .ok (.aload_n 0, 1) := by decide +kernel
theorem dL_law_301 : decode cL_law 301 = .ok (.iload_n 3, 1) := by decide +kernel
theorem dL_law_302 : decode cL_law 302 = .ok (.iconst 1, 1) := by decide +kernel
theorem dL_law_303 : decode cL_law 303 = .ok (.iadd, 1) := by decide +kernel
theorem dL_law_304 : decode cL_law 304 = .ok (.iaload, 1) := by decide +kernel
theorem dL_law_305 : decode cL_law 305 = .ok (.invokevirtual 37, 3) := by decide +kernel
theorem dL_law_308 : decode cL_law 308 = .ok (.aload_n 2, 1) := by decide +kernel
theorem dL_law_309 : decode cL_law 309 = .ok (.aload_n 0, 1) := by decide +kernel
theorem dL_law_310 : decode cL_law 310 = .ok (.iload_n 3, 1) := by decide +kernel
theorem dL_law_311 : decode cL_law 311 = .ok (.iconst 1, 1) := by decide +kernel
theorem dL_law_312 : decode cL_law 312 = .ok (.iadd, 1) := by decide +kernel
theorem dL_law_313 : decode cL_law 313 = .ok (.iaload, 1) := by decide +kernel
theorem dL_law_314 : decode cL_law 314 = .ok (.invokevirtual 40, 3) := by decide +kernel
theorem dL_law_317 : decode cL_law 317 = .ok (.if_icmp .eq 370, 3) := by decide +kernel
theorem dL_law_320 : decode cL_law 320 = .ok (.iconst 0, 1) := by decide +kernel
theorem dL_law_321 : decode cL_law 321 = .ok (.ireturn, 1) := by decide +kernel
theorem dL_law_322 : decode cL_law 322 = .ok (.aload_n 1, 1) := by decide +kernel
theorem dL_law_323 : decode cL_law 323 = .ok (.invokevirtual 41, 3) := by decide +kernel
theorem dL_law_326 : decode cL_law 326 = .ok (.aload_n 2, 1) := by decide +kernel
theorem dL_law_327 : decode cL_law 327 = .ok (.invokevirtual 45, 3) := by decide +kernel
theorem dL_law_330 : decode cL_law 330 = .ok (.if_icmp .eq 357, 3) := by decide +kernel
theorem dL_law_333 : decode cL_law 333 = .ok (.iconst 0, 1) := by decide +kernel
theorem dL_law_334 : decode cL_law 334 = .ok (.ireturn, 1) := by decide +kernel
theorem dL_law_335 : decode cL_law 335 = .ok (.aload_n 1, 1) := by decide +kernel
theorem dL_law_336 : decode cL_law 336 = .ok (.aload_n 0, 1) := by decide +kernel
theorem dL_law_337 : decode cL_law 337 = .ok (.iload_n 3, 1) := by decide +kernel
theorem dL_law_338 : decode cL_law 338 = .ok (.iconst 1, 1) := by decide +kernel
theorem dL_law_339 : decode cL_law 339 = .ok (.iadd, 1) := by decide +kernel
theorem dL_law_340 : decode cL_law 340 = .ok (.iaload, 1) := by decide +kernel
theorem dL_law_341 : decode cL_law 341 = .ok (.aload_n 0, 1) := by decide +kernel
theorem dL_law_342 : decode cL_law 342 = .ok (.iload_n 3, 1) := by decide +kernel
theorem dL_law_343 : decode cL_law 343 = .ok (.iconst 2, 1) := by decide +kernel
theorem dL_law_344 : decode cL_law 344 = .ok (.iadd, 1) := by decide +kernel
theorem dL_law_345 : decode cL_law 345 = .ok (.iaload, 1) := by decide +kernel
theorem dL_law_346 : decode cL_law 346 = .ok (.invokevirtual 46, 3) := by decide +kernel
theorem dL_law_349 : decode cL_law 349 = .ok (.aload_n 2, 1) := by decide +kernel
theorem dL_law_350 : decode cL_law 350 = .ok (.aload_n 0, 1) := by decide +kernel
theorem dL_law_351 : decode cL_law 351 = .ok (.iload_n 3, 1) := by decide +kernel
theorem dL_law_352 : decode cL_law 352 = .ok (.iconst 1, 1) := by decide +kernel
theorem dL_law_353 : decode cL_law 353 = .ok (.iadd, 1) := by decide +kernel
theorem dL_law_354 : decode cL_law 354 = .ok (.iaload, 1) := by decide +kernel
theorem dL_law_355 : decode cL_law 355 = .ok (.aload_n 0, 1) := by decide +kernel
theorem dL_law_356 : decode cL_law 356 = .ok (.iload_n 3, 1) := by decide +kernel
theorem dL_law_357 : decode cL_law 357 = .ok (.iconst 2, 1) := by decide +kernel
theorem dL_law_358 : decode cL_law 358 = .ok (.iadd, 1) := by decide +kernel
theorem dL_law_359 : decode cL_law 359 = .ok (.iaload, 1) := by decide +kernel
theorem dL_law_360 : decode cL_law 360 = .ok (.invokevirtual 49, 3) := by decide +kernel
theorem dL_law_363 : decode cL_law 363 = .ok (.if_icmp .eq 324, 3) := by decide +kernel
theorem dL_law_366 : decode cL_law 366 = .ok (.iconst 0, 1) := by decide +kernel
theorem dL_law_367 : decode cL_law 367 = .ok (.ireturn, 1) := by decide +kernel
theorem dL_law_368 : decode cL_law 368 = .ok (.aload_n 1, 1) := by decide +kernel
theorem dL_law_369 : decode cL_law 369 = .ok (.aload_n 0, 1) := by decide +kernel
theorem dL_law_370 : decode cL_law 370 = .ok (.iload_n 3, 1) := by decide +kernel
theorem dL_law_371 : decode cL_law 371 = .ok (.iconst 1, 1) := by decide +kernel
theorem dL_law_372 : decode cL_law 372 = .ok (.iadd, 1) := by decide +kernel
theorem dL_law_373 : decode cL_law 373 = .ok (.iaload, 1) := by decide +kernel
theorem dL_law_374 : decode cL_law 374 = .ok (.invokevirtual 50, 3) := by decide +kernel
theorem dL_law_377 : decode cL_law 377 = .ok (.aload_n 2, 1) := by decide +kernel
theorem dL_law_378 : decode cL_law 378 = .ok (.aload_n 0, 1) := by decide +kernel
theorem dL_law_379 : decode cL_law 379 = .ok (.iload_n 3, 1) := by decide +kernel
theorem dL_law_380 : decode cL_law 380 = .ok (.iconst 1, 1) := by decide +kernel
theorem dL_law_381 : decode cL_law 381 = .ok (.iadd, 1) := by decide +kernel
theorem dL_law_382 : decode cL_law 382 = .ok (.iaload, 1) := by decide +kernel
theorem dL_law_383 : decode cL_law 383 = .ok (.invokevirtual 53, 3) := by decide +kernel
theorem dL_law_386 : decode cL_law 386 = .ok (.if_icmp .eq 301, 3) := by decide +kernel
theorem dL_law_389 : decode cL_law 389 = .ok (.iconst 0, 1) := by decide +kernel
theorem dL_law_390 : decode cL_law 390 = .ok (.ireturn, 1) := by decide +kernel
theorem dL_law_391 : decode cL_law 391 = .ok (.aload_n 1, 1) := by decide +kernel
theorem dL_law_392 : decode cL_law 392 = .ok (.invokevirtual 54, 3) := by decide +kernel
theorem dL_law_395 : decode cL_law 395 = .ok (.aload_n 2, 1) := by decide +kernel
theorem dL_law_396 : decode cL_law 396 = .ok (.invokevirtual 57, 3) := by decide +kernel
theorem dL_law_399 : decode cL_law 399 = .ok (.if_icmp .eq 288, 3) := by decide +kernel
theorem dL_law_402 : decode cL_law 402 = .ok (.iconst 0, 1) := by decide +kernel
theorem dL_law_403 : decode cL_law 403 = .ok (.ireturn, 1) := by decide +kernel
theorem dL_law_404 : decode cL_law 404 = .ok (.aload_n 1, 1) := by decide +kernel
theorem dL_law_405 : decode cL_law 405 = .ok (.invokevirtual 58, 3) := by decide +kernel
theorem dL_law_408 : decode cL_law 408 = .ok (.aload_n 2, 1) := by decide +kernel
theorem dL_law_409 : decode cL_law 409 = .ok (.invokevirtual 61, 3) := by decide +kernel
theorem dL_law_412 : decode cL_law 412 = .ok (.if_icmp .eq 275, 3) := by decide +kernel
theorem dL_law_415 : decode cL_law 415 = .ok (.iconst 0, 1) := by decide +kernel
theorem dL_law_416 : decode cL_law 416 = .ok (.ireturn, 1) := by decide +kernel
theorem dL_law_417 : decode cL_law 417 = .ok (.aload_n 1, 1) := by decide +kernel
theorem dL_law_418 : decode cL_law 418 = .ok (.aload_n 0, 1) := by decide +kernel
theorem dL_law_419 : decode cL_law 419 = .ok (.iload_n 3, 1) := by decide +kernel
theorem dL_law_420 : decode cL_law 420 = .ok (.iconst 1, 1) := by decide +kernel
theorem dL_law_421 : decode cL_law 421 = .ok (.iadd, 1) := by decide +kernel
theorem dL_law_422 : decode cL_law 422 = .ok (.iaload, 1) := by decide +kernel
theorem dL_law_423 : decode cL_law 423 = .ok (.aload_n 0, 1) := by decide +kernel
theorem dL_law_424 : decode cL_law 424 = .ok (.iload_n 3, 1) := by decide +kernel
theorem dL_law_425 : decode cL_law 425 = .ok (.iconst 2, 1) := by decide +kernel
theorem dL_law_426 : decode cL_law 426 = .ok (.iadd, 1) := by decide +kernel
theorem dL_law_427 : decode cL_law 427 = .ok (.iaload, 1) := by decide +kernel
theorem dL_law_428 : decode cL_law 428 = .ok (.aload_n 0, 1) := by decide +kernel
theorem dL_law_429 : decode cL_law 429 = .ok (.iload_n 3, 1) := by decide +kernel
theorem dL_law_430 : decode cL_law 430 = .ok (.iconst 3, 1) := by decide +kernel
theorem dL_law_431 : decode cL_law 431 = .ok (.iadd, 1) := by decide +kernel
theorem dL_law_432 : decode cL_law 432 = .ok (.iaload, 1) := by decide +kernel
theorem dL_law_433 : decode cL_law 433 = .ok (.invokevirtual 62, 3) := by decide +kernel
theorem dL_law_436 : decode cL_law 436 = .ok (.aload_n 2, 1) := by decide +kernel
theorem dL_law_437 : decode cL_law 437 = .ok (.aload_n 0, 1) := by decide +kernel
theorem dL_law_438 : decode cL_law 438 = .ok (.iload_n 3, 1) := by decide +kernel
theorem dL_law_439 : decode cL_law 439 = .ok (.iconst 1, 1) := by decide +kernel
theorem dL_law_440 : decode cL_law 440 = .ok (.iadd, 1) := by decide +kernel
theorem dL_law_441 : decode cL_law 441 = .ok (.iaload, 1) := by decide +kernel
theorem dL_law_442 : decode cL_law 442 = .ok (.aload_n 0, 1) := by decide +kernel
theorem dL_law_443 : decode cL_law 443 = .ok (.iload_n 3, 1) := by decide +kernel
theorem dL_law_444 : decode cL_law 444 = .ok (.iconst 2, 1) := by decide +kernel
theorem dL_law_445 : decode cL_law 445 = .ok (.iadd, 1) := by decide +kernel
theorem dL_law_446 : decode cL_law 446 = .ok (.iaload, 1) := by decide +kernel
theorem dL_law_447 : decode cL_law 447 = .ok (.aload_n 0, 1) := by decide +kernel
theorem dL_law_448 : decode cL_law 448 = .ok (.iload_n 3, 1) := by decide +kernel
theorem dL_law_449 : decode cL_law 449 = .ok (.iconst 3, 1) := by decide +kernel
theorem dL_law_450 : decode cL_law 450 = .ok (.iadd, 1) := by decide +kernel
theorem dL_law_451 : decode cL_law 451 = .ok (.iaload, 1) := by decide +kernel
theorem dL_law_452 : decode cL_law 452 = .ok (.invokevirtual 65, 3) := by decide +kernel
theorem dL_law_455 : decode cL_law 455 = .ok (.if_icmp .eq 232, 3) := by decide +kernel
theorem dL_law_458 : decode cL_law 458 = .ok (.iconst 0, 1) := by decide +kernel
theorem dL_law_459 : decode cL_law 459 = .ok (.ireturn, 1) := by decide +kernel
theorem dL_law_460 : decode cL_law 460 = .ok (.aload_n 1, 1) := by decide +kernel
theorem dL_law_461 : decode cL_law 461 = .ok (.aload_n 0, 1) := by decide +kernel
theorem dL_law_462 : decode cL_law 462 = .ok (.iload_n 3, 1) := by decide +kernel
theorem dL_law_463 : decode cL_law 463 = .ok (.iconst 1, 1) := by decide +kernel
theorem dL_law_464 : decode cL_law 464 = .ok (.iadd, 1) := by decide +kernel
theorem dL_law_465 : decode cL_law 465 = .ok (.iaload, 1) := by decide +kernel
theorem dL_law_466 : decode cL_law 466 = .ok (.aload_n 0, 1) := by decide +kernel
theorem dL_law_467 : decode cL_law 467 = .ok (.iload_n 3, 1) := by decide +kernel
theorem dL_law_468 : decode cL_law 468 = .ok (.iconst 2, 1) := by decide +kernel
theorem dL_law_469 : decode cL_law 469 = .ok (.iadd, 1) := by decide +kernel
theorem dL_law_470 : decode cL_law 470 = .ok (.iaload, 1) := by decide +kernel
theorem dL_law_471 : decode cL_law 471 = .ok (.invokevirtual 66, 3) := by decide +kernel
theorem dL_law_474 : decode cL_law 474 = .ok (.aload_n 2, 1) := by decide +kernel
theorem dL_law_475 : decode cL_law 475 = .ok (.aload_n 0, 1) := by decide +kernel
theorem dL_law_476 : decode cL_law 476 = .ok (.iload_n 3, 1) := by decide +kernel
theorem dL_law_477 : decode cL_law 477 = .ok (.iconst 1, 1) := by decide +kernel
theorem dL_law_478 : decode cL_law 478 = .ok (.iadd, 1) := by decide +kernel
theorem dL_law_479 : decode cL_law 479 = .ok (.iaload, 1) := by decide +kernel
theorem dL_law_480 : decode cL_law 480 = .ok (.aload_n 0, 1) := by decide +kernel
theorem dL_law_481 : decode cL_law 481 = .ok (.iload_n 3, 1) := by decide +kernel
theorem dL_law_482 : decode cL_law 482 = .ok (.iconst 2, 1) := by decide +kernel
theorem dL_law_483 : decode cL_law 483 = .ok (.iadd, 1) := by decide +kernel
theorem dL_law_484 : decode cL_law 484 = .ok (.iaload, 1) := by decide +kernel
theorem dL_law_485 : decode cL_law 485 = .ok (.invokevirtual 69, 3) := by decide +kernel
theorem dL_law_488 : decode cL_law 488 = .ok (.if_icmp .eq 199, 3) := by decide +kernel
theorem dL_law_491 : decode cL_law 491 = .ok (.iconst 0, 1) := by decide +kernel
theorem dL_law_492 : decode cL_law 492 = .ok (.ireturn, 1) := by decide +kernel
theorem dL_law_493 : decode cL_law 493 = .ok (.aload_n 1, 1) := by decide +kernel
theorem dL_law_494 : decode cL_law 494 = .ok (.aload_n 0, 1) := by decide +kernel
theorem dL_law_495 : decode cL_law 495 = .ok (.iload_n 3, 1) := by decide +kernel
theorem dL_law_496 : decode cL_law 496 = .ok (.iconst 1, 1) := by decide +kernel
theorem dL_law_497 : decode cL_law 497 = .ok (.iadd, 1) := by decide +kernel
theorem dL_law_498 : decode cL_law 498 = .ok (.iaload, 1) := by decide +kernel
theorem dL_law_499 : decode cL_law 499 = .ok (.aload_n 0, 1) := by decide +kernel
theorem dL_law_500 : decode cL_law 500 = .ok (.iload_n 3, 1) := by decide +kernel
theorem dL_law_501 : decode cL_law 501 = .ok (.iconst 2, 1) := by decide +kernel
theorem dL_law_502 : decode cL_law 502 = .ok (.iadd, 1) := by decide +kernel
theorem dL_law_503 : decode cL_law 503 = .ok (.iaload, 1) := by decide +kernel
theorem dL_law_504 : decode cL_law 504 = .ok (.invokevirtual 70, 3) := by decide +kernel
theorem dL_law_507 : decode cL_law 507 = .ok (.aload_n 2, 1) := by decide +kernel
theorem dL_law_508 : decode cL_law 508 = .ok (.aload_n 0, 1) := by decide +kernel
theorem dL_law_509 : decode cL_law 509 = .ok (.iload_n 3, 1) := by decide +kernel
theorem dL_law_510 : decode cL_law 510 = .ok (.iconst 1, 1) := by decide +kernel
theorem dL_law_511 : decode cL_law 511 = .ok (.iadd, 1) := by decide +kernel
theorem dL_law_512 : decode cL_law 512 = .ok (.iaload, 1) := by decide +kernel
theorem dL_law_513 : decode cL_law 513 = .ok (.aload_n 0, 1) := by decide +kernel
theorem dL_law_514 : decode cL_law 514 = .ok (.iload_n 3, 1) := by decide +kernel
theorem dL_law_515 : decode cL_law 515 = .ok (.iconst 2, 1) := by decide +kernel
theorem dL_law_516 : decode cL_law 516 = .ok (.iadd, 1) := by decide +kernel
theorem dL_law_517 : decode cL_law 517 = .ok (.iaload, 1) := by decide +kernel
theorem dL_law_518 : decode cL_law 518 = .ok (.invokevirtual 74, 3) := by decide +kernel
theorem dL_law_521 : decode cL_law 521 = .ok (.lcmp, 1) := by decide +kernel
theorem dL_law_522 : decode cL_law 522 = .ok (.ifCond .eq 165, 3) := by decide +kernel
theorem dL_law_525 : decode cL_law 525 = .ok (.iconst 0, 1) := by decide +kernel
theorem dL_law_526 : decode cL_law 526 = .ok (.ireturn, 1) := by decide +kernel
theorem dL_law_527 : decode cL_law 527 = .ok (.aload_n 1, 1) := by decide +kernel
theorem dL_law_528 : decode cL_law 528 = .ok (.aload_n 0, 1) := by decide +kernel
theorem dL_law_529 : decode cL_law 529 = .ok (.iload_n 3, 1) := by decide +kernel
theorem dL_law_530 : decode cL_law 530 = .ok (.iconst 1, 1) := by decide +kernel
theorem dL_law_531 : decode cL_law 531 = .ok (.iadd, 1) := by decide +kernel
theorem dL_law_532 : decode cL_law 532 = .ok (.iaload, 1) := by decide +kernel
theorem dL_law_533 : decode cL_law 533 = .ok (.invokevirtual 75, 3) := by decide +kernel
theorem dL_law_536 : decode cL_law 536 = .ok (.aload_n 2, 1) := by decide +kernel
theorem dL_law_537 : decode cL_law 537 = .ok (.aload_n 0, 1) := by decide +kernel
theorem dL_law_538 : decode cL_law 538 = .ok (.iload_n 3, 1) := by decide +kernel
theorem dL_law_539 : decode cL_law 539 = .ok (.iconst 1, 1) := by decide +kernel
theorem dL_law_540 : decode cL_law 540 = .ok (.iadd, 1) := by decide +kernel
theorem dL_law_541 : decode cL_law 541 = .ok (.iaload, 1) := by decide +kernel
theorem dL_law_542 : decode cL_law 542 = .ok (.invokevirtual 79, 3) := by decide +kernel
theorem dL_law_545 : decode cL_law 545 = .ok (.lcmp, 1) := by decide +kernel
theorem dL_law_546 : decode cL_law 546 = .ok (.ifCond .eq 141, 3) := by decide +kernel
theorem dL_law_549 : decode cL_law 549 = .ok (.iconst 0, 1) := by decide +kernel
theorem dL_law_550 : decode cL_law 550 = .ok (.ireturn, 1) := by decide +kernel
theorem dL_law_551 : decode cL_law 551 = .ok (.aload_n 1, 1) := by decide +kernel
theorem dL_law_552 : decode cL_law 552 = .ok (.aload_n 0, 1) := by decide +kernel
theorem dL_law_553 : decode cL_law 553 = .ok (.iload_n 3, 1) := by decide +kernel
theorem dL_law_554 : decode cL_law 554 = .ok (.iconst 1, 1) := by decide +kernel
theorem dL_law_555 : decode cL_law 555 = .ok (.iadd, 1) := by decide +kernel
theorem dL_law_556 : decode cL_law 556 = .ok (.iaload, 1) := by decide +kernel
theorem dL_law_557 : decode cL_law 557 = .ok (.aload_n 0, 1) := by decide +kernel
theorem dL_law_558 : decode cL_law 558 = .ok (.iload_n 3, 1) := by decide +kernel
theorem dL_law_559 : decode cL_law 559 = .ok (.iconst 2, 1) := by decide +kernel
theorem dL_law_560 : decode cL_law 560 = .ok (.iadd, 1) := by decide +kernel
theorem dL_law_561 : decode cL_law 561 = .ok (.iaload, 1) := by decide +kernel
theorem dL_law_562 : decode cL_law 562 = .ok (.invokevirtual 80, 3) := by decide +kernel
theorem dL_law_565 : decode cL_law 565 = .ok (.aload_n 2, 1) := by decide +kernel
theorem dL_law_566 : decode cL_law 566 = .ok (.aload_n 0, 1) := by decide +kernel
theorem dL_law_567 : decode cL_law 567 = .ok (.iload_n 3, 1) := by decide +kernel
theorem dL_law_568 : decode cL_law 568 = .ok (.iconst 1, 1) := by decide +kernel
theorem dL_law_569 : decode cL_law 569 = .ok (.iadd, 1) := by decide +kernel
theorem dL_law_570 : decode cL_law 570 = .ok (.iaload, 1) := by decide +kernel
theorem dL_law_571 : decode cL_law 571 = .ok (.aload_n 0, 1) := by decide +kernel
theorem dL_law_572 : decode cL_law 572 = .ok (.iload_n 3, 1) := by decide +kernel
theorem dL_law_573 : decode cL_law 573 = .ok (.iconst 2, 1) := by decide +kernel
theorem dL_law_574 : decode cL_law 574 = .ok (.iadd, 1) := by decide +kernel
theorem dL_law_575 : decode cL_law 575 = .ok (.iaload, 1) := by decide +kernel
theorem dL_law_576 : decode cL_law 576 = .ok (.invokevirtual 83, 3) := by decide +kernel
theorem dL_law_579 : decode cL_law 579 = .ok (.lcmp, 1) := by decide +kernel
theorem dL_law_580 : decode cL_law 580 = .ok (.ifCond .eq 107, 3) := by decide +kernel
theorem dL_law_583 : decode cL_law 583 = .ok (.iconst 0, 1) := by decide +kernel
theorem dL_law_584 : decode cL_law 584 = .ok (.ireturn, 1) := by decide +kernel
theorem dL_law_585 : decode cL_law 585 = .ok (.aload_n 1, 1) := by decide +kernel
theorem dL_law_586 : decode cL_law 586 = .ok (.aload_n 0, 1) := by decide +kernel
theorem dL_law_587 : decode cL_law 587 = .ok (.iload_n 3, 1) := by decide +kernel
theorem dL_law_588 : decode cL_law 588 = .ok (.iconst 1, 1) := by decide +kernel
theorem dL_law_589 : decode cL_law 589 = .ok (.iadd, 1) := by decide +kernel
theorem dL_law_590 : decode cL_law 590 = .ok (.iaload, 1) := by decide +kernel
theorem dL_law_591 : decode cL_law 591 = .ok (.invokevirtual 84, 3) := by decide +kernel
theorem dL_law_594 : decode cL_law 594 = .ok (.aload_n 2, 1) := by decide +kernel
theorem dL_law_595 : decode cL_law 595 = .ok (.aload_n 0, 1) := by decide +kernel
theorem dL_law_596 : decode cL_law 596 = .ok (.iload_n 3, 1) := by decide +kernel
theorem dL_law_597 : decode cL_law 597 = .ok (.iconst 1, 1) := by decide +kernel
theorem dL_law_598 : decode cL_law 598 = .ok (.iadd, 1) := by decide +kernel
theorem dL_law_599 : decode cL_law 599 = .ok (.iaload, 1) := by decide +kernel
theorem dL_law_600 : decode cL_law 600 = .ok (.invokevirtual 87, 3) := by decide +kernel
theorem dL_law_603 : decode cL_law 603 = .ok (.if_icmp .eq 84, 3) := by decide +kernel
theorem dL_law_606 : decode cL_law 606 = .ok (.iconst 0, 1) := by decide +kernel
theorem dL_law_607 : decode cL_law 607 = .ok (.ireturn, 1) := by decide +kernel
theorem dL_law_608 : decode cL_law 608 = .ok (.aload_n 1, 1) := by decide +kernel
theorem dL_law_609 : decode cL_law 609 = .ok (.aload_n 0, 1) := by decide +kernel
theorem dL_law_610 : decode cL_law 610 = .ok (.iload_n 3, 1) := by decide +kernel
theorem dL_law_611 : decode cL_law 611 = .ok (.iconst 1, 1) := by decide +kernel
theorem dL_law_612 : decode cL_law 612 = .ok (.iadd, 1) := by decide +kernel
theorem dL_law_613 : decode cL_law 613 = .ok (.iaload, 1) := by decide +kernel
theorem dL_law_614 : decode cL_law 614 = .ok (.aload_n 0, 1) := by decide +kernel
theorem dL_law_615 : decode cL_law 615 = .ok (.iload_n 3, 1) := by decide +kernel
theorem dL_law_616 : decode cL_law 616 = .ok (.iconst 2, 1) := by decide +kernel
theorem dL_law_617 : decode cL_law 617 = .ok (.iadd, 1) := by decide +kernel
theorem dL_law_618 : decode cL_law 618 = .ok (.iaload, 1) := by decide +kernel
theorem dL_law_619 : decode cL_law 619 = .ok (.invokevirtual 88, 3) := by decide +kernel
theorem dL_law_622 : decode cL_law 622 = .ok (.aload_n 2, 1) := by decide +kernel
theorem dL_law_623 : decode cL_law 623 = .ok (.aload_n 0, 1) := by decide +kernel
theorem dL_law_624 : decode cL_law 624 = .ok (.iload_n 3, 1) := by decide +kernel
theorem dL_law_625 : decode cL_law 625 = .ok (.iconst 1, 1) := by decide +kernel
theorem dL_law_626 : decode cL_law 626 = .ok (.iadd, 1) := by decide +kernel
theorem dL_law_627 : decode cL_law 627 = .ok (.iaload, 1) := by decide +kernel
theorem dL_law_628 : decode cL_law 628 = .ok (.aload_n 0, 1) := by decide +kernel
theorem dL_law_629 : decode cL_law 629 = .ok (.iload_n 3, 1) := by decide +kernel
theorem dL_law_630 : decode cL_law 630 = .ok (.iconst 2, 1) := by decide +kernel
theorem dL_law_631 : decode cL_law 631 = .ok (.iadd, 1) := by decide +kernel
theorem dL_law_632 : decode cL_law 632 = .ok (.iaload, 1) := by decide +kernel
theorem dL_law_633 : decode cL_law 633 = .ok (.invokevirtual 91, 3) := by decide +kernel
theorem dL_law_636 : decode cL_law 636 = .ok (.if_icmp .eq 51, 3) := by decide +kernel
theorem dL_law_639 : decode cL_law 639 = .ok (.iconst 0, 1) := by decide +kernel
theorem dL_law_640 : decode cL_law 640 = .ok (.ireturn, 1) := by decide +kernel
theorem dL_law_641 : decode cL_law 641 = .ok (.aload_n 1, 1) := by decide +kernel
theorem dL_law_642 : decode cL_law 642 = .ok (.aload_n 0, 1) := by decide +kernel
theorem dL_law_643 : decode cL_law 643 = .ok (.iload_n 3, 1) := by decide +kernel
theorem dL_law_644 : decode cL_law 644 = .ok (.iconst 1, 1) := by decide +kernel
theorem dL_law_645 : decode cL_law 645 = .ok (.iadd, 1) := by decide +kernel
theorem dL_law_646 : decode cL_law 646 = .ok (.iaload, 1) := by decide +kernel
theorem dL_law_647 : decode cL_law 647 = .ok (.aload_n 0, 1) := by decide +kernel
theorem dL_law_648 : decode cL_law 648 = .ok (.iload_n 3, 1) := by decide +kernel
theorem dL_law_649 : decode cL_law 649 = .ok (.iconst 2, 1) := by decide +kernel
theorem dL_law_650 : decode cL_law 650 = .ok (.iadd, 1) := by decide +kernel
theorem dL_law_651 : decode cL_law 651 = .ok (.iaload, 1) := by decide +kernel
theorem dL_law_652 : decode cL_law 652 = .ok (.invokevirtual 92, 3) := by decide +kernel
theorem dL_law_655 : decode cL_law 655 = .ok (.aload_n 2, 1) := by decide +kernel
theorem dL_law_656 : decode cL_law 656 = .ok (.aload_n 0, 1) := by decide +kernel
theorem dL_law_657 : decode cL_law 657 = .ok (.iload_n 3, 1) := by decide +kernel
theorem dL_law_658 : decode cL_law 658 = .ok (.iconst 1, 1) := by decide +kernel
theorem dL_law_659 : decode cL_law 659 = .ok (.iadd, 1) := by decide +kernel
theorem dL_law_660 : decode cL_law 660 = .ok (.iaload, 1) := by decide +kernel
theorem dL_law_661 : decode cL_law 661 = .ok (.aload_n 0, 1) := by decide +kernel
theorem dL_law_662 : decode cL_law 662 = .ok (.iload_n 3, 1) := by decide +kernel
theorem dL_law_663 : decode cL_law 663 = .ok (.iconst 2, 1) := by decide +kernel
theorem dL_law_664 : decode cL_law 664 = .ok (.iadd, 1) := by decide +kernel
theorem dL_law_665 : decode cL_law 665 = .ok (.iaload, 1) := by decide +kernel
theorem dL_law_666 : decode cL_law 666 = .ok (.invokevirtual 95, 3) := by decide +kernel
theorem dL_law_669 : decode cL_law 669 = .ok (.if_icmp .eq 18, 3) := by decide +kernel
theorem dL_law_672 : decode cL_law 672 = .ok (.iconst 0, 1) := by decide +kernel
theorem dL_law_673 : decode cL_law 673 = .ok (.ireturn, 1) := by decide +kernel
theorem dL_law_674 : decode cL_law 674 = .ok (.aload_n 1, 1) := by decide +kernel
theorem dL_law_675 : decode cL_law 675 = .ok (.invokevirtual 96, 3) := by decide +kernel
theorem dL_law_678 : decode cL_law 678 = .ok (.aload_n 2, 1) := by decide +kernel
theorem dL_law_679 : decode cL_law 679 = .ok (.invokevirtual 99, 3) := by decide +kernel
theorem dL_law_682 : decode cL_law 682 = .ok (.if_icmp .eq 5, 3) := by decide +kernel
theorem dL_law_685 : decode cL_law 685 = .ok (.iconst 0, 1) := by decide +kernel
theorem dL_law_686 : decode cL_law 686 = .ok (.ireturn, 1) := by decide +kernel
theorem dL_law_687 : decode cL_law 687 = .ok (.iinc 3 4, 3) := by decide +kernel
theorem dL_law_690 : decode cL_law 690 = .ok (.goto (-672), 3) := by decide +kernel
theorem dL_law_693 : decode cL_law 693 = .ok (.iconst 1, 1) := by decide +kernel
theorem dL_law_694 : decode cL_law 694 = .ok (.ireturn, 1) := by decide +kernel
/-- the law's frame, behind both constructors -/
def lw_Cx (p : Program) (s : State) (m : MethodId) (c : Code) (b L : Nat) (xs : Nat → Int32) (E : mn_E) : Prop := p.tables.exec = Jvm.exec ∧ c.code = cL_law ∧ c.maxLocals = 4 ∧ s.vm.findClass RL = some m.cls ∧ (∀ w ∈ lw_tbl, w.before #[Value.ref b] s = true) ∧ va_X b L xs s s.heap ∧ b < s.heap.size ∧ mn_EK E s ∧ (∀ q, mn_A E q → s.heap.size ≤ q)
def lw_lv (E : mn_E) (b : Nat) (i : Int32) : List (Nat × Value) := [(3, .int i), (2, .ref (E.1 29)), (1, .ref (E.1 0)), (0, .ref b)]
section LWC
variable {p : Program} {l : Launch} {e : Env} {s : State} {m : MethodId} {below : List Frame} {meth : Method} {c : Code} {H : Heap} {locs : List Loc} {cells slots : Nat} {Q : State → Prop}
variable {pc : Nat} {ls : Array Slot} {rest : List Value} {E : mn_E} {b L : Nat} {xs : Nat → Int32} {i : Int32} {S : mn_S} {n : Nat}
theorem lw_arg (C : lw_Cx p s m c b L xs E) (hl : lv_has ls 4 (lw_lv E b i)) (hS : va_S (fun q => s.heap.size ≤ q) s.heap H locs) {k : Int} {kv : Int32} (hk : Int32.ofInt k = kv) (hin : vp_in (i + kv) L) (d0 : decode cL_law pc = .ok (.aload_n 0, 1)) (d1 : decode cL_law (pc + 1) = .ok (.iload_n 3, 1)) (d2 : decode cL_law (pc + 2) = .ok (.iconst k, 1)) (d3 : decode cL_law (pc + 3) = .ok (.iadd, 1)) (d4 : decode cL_law (pc + 4) = .ok (.iaload, 1))
    (kk : W p l e room_1 s m #[Value.ref b] below meth c H locs cells slots Q (F0 m (pc + 5) ls (.int (xs (i + kv).toNatClampNeg) :: rest))) : W p l e room_1 s m #[Value.ref b] below meth c H locs cells slots Q (F0 m pc ls rest) := by
  obtain ⟨hx, hb, hml, hown, hts, hX, hbl, hEK, hAE⟩ := C
  refine lv_aload_n hx hb d0 rfl (lv_at hl 3 rfl) ?_
  refine lv_iload_n hx hb d1 rfl (lv_at hl 0 rfl) ?_
  refine lv_iconst (v := kv) hx hb d2 hk ?_
  refine lv_iadd hx hb d3 ?_
  exact va_sld hx hb hX hbl (fun h => absurd hbl (Nat.not_lt.mpr h)) hS hin d4 kk
set_option maxHeartbeats 2000000 in
theorem lw_k0 (C : lw_Cx p s m c b L xs E) (h1 : vp_in (i + 1) L) (h2 : vp_in (i + 2) L) (h3 : vp_in (i + 3) L) (hf : cells + 0 ≤ room_1.cells ∧ slots + 0 ≤ room_1.slots) (hl : lv_has ls 4 (lw_lv E b i)) (hR : lw_R S n) (hP : va_P E.2.1 vwCl (mn_wl E S) H) (hS : va_S (fun q => s.heap.size ≤ q) s.heap H locs)
    (hB : ∀ (S : mn_S) (n : Nat) (H : Heap) (locs : List Loc), lw_R S n → va_P E.2.1 vwCl (mn_wl E S) H → va_S (fun q => s.heap.size ≤ q) s.heap H locs → W p l e room_1 s m #[Value.ref b] below meth c H locs cells slots Q (F0 m 687 ls [])) : W p l e room_1 s m #[Value.ref b] below meth c H locs cells slots Q (F0 m 128 ls []) := by
  obtain ⟨hx, hb, hml, hown, hts, hX, hbl, hEK, hAE⟩ := id C
  refine lv_aload_n hx hb dL_law_128 rfl (lv_at hl 2 rfl) ?_
  refine lw_arg C hl hS (kv := 1) (rest := [.ref (E.1 0)]) (by decide) h1 dL_law_129 dL_law_130 dL_law_131 dL_law_132 dL_law_133 ?_
  refine lw_call (E := E) (as := [.int (xs (i + 1).toNatClampNeg)]) (a := 0) (rest := []) hx hb hml hts hown hEK hAE (ct_X8_one l) rv_X8_one (cwV 1 hts (lw_good gL_law_X8_one) rfl rfl rfl (by decide +kernel) ⟨Nat.le_of_ble_eq_true rfl, Nat.le_of_ble_eq_true rfl⟩) ((lc_one (xs (i + 1).toNatClampNeg)) S n hR) hP hS hl.1 (Nat.le_of_ble_eq_true rfl) dL_law_134 hf (fun r S1 H locs hK hP hS => ?_)
  obtain ⟨x, rfl, hK⟩ := hK
  refine W.eq (g2 := F0 m 137 ls [.int x]) rfl ?_
  refine lv_aload_n hx hb dL_law_137 rfl (lv_at hl 1 rfl) ?_
  refine lw_arg C hl hS (kv := 1) (rest := [.ref (E.1 29), .int x]) (by decide) h1 dL_law_138 dL_law_139 dL_law_140 dL_law_141 dL_law_142 ?_
  refine lw_call (E := E) (as := [.int (xs (i + 1).toNatClampNeg)]) (a := 29) (rest := [.int x]) hx hb hml hts hown hEK hAE (ct_X9_one l) rv_X9_one (cwV 1 hts (lw_good gL_law_X9_one) rfl rfl rfl (by decide +kernel) ⟨Nat.le_of_ble_eq_true rfl, Nat.le_of_ble_eq_true rfl⟩) (hK) hP hS hl.1 (Nat.le_of_ble_eq_true rfl) dL_law_143 hf (fun r S1 H locs hK hP hS => ?_)
  obtain ⟨rfl, n2, hR2⟩ := hK
  refine W.eq (g2 := F0 m 146 ls [.int x, .int x]) rfl ?_
  exact lv_icmp_eq (tgt := 687) hx hb dL_law_146 (by decide) (fun _ => hB S1 n2 H locs hR2 hP hS) (fun g9 => absurd rfl g9)
set_option maxHeartbeats 2000000 in
theorem lw_k1 (C : lw_Cx p s m c b L xs E) (h1 : vp_in (i + 1) L) (h2 : vp_in (i + 2) L) (h3 : vp_in (i + 3) L) (hf : cells + 0 ≤ room_1.cells ∧ slots + 0 ≤ room_1.slots) (hl : lv_has ls 4 (lw_lv E b i)) (hR : lw_R S n) (hP : va_P E.2.1 vwCl (mn_wl E S) H) (hS : va_S (fun q => s.heap.size ≤ q) s.heap H locs)
    (hB : ∀ (S : mn_S) (n : Nat) (H : Heap) (locs : List Loc), lw_R S n → va_P E.2.1 vwCl (mn_wl E S) H → va_S (fun q => s.heap.size ≤ q) s.heap H locs → W p l e room_1 s m #[Value.ref b] below meth c H locs cells slots Q (F0 m 687 ls [])) : W p l e room_1 s m #[Value.ref b] below meth c H locs cells slots Q (F0 m 151 ls []) := by
  obtain ⟨hx, hb, hml, hown, hts, hX, hbl, hEK, hAE⟩ := id C
  refine lv_aload_n hx hb dL_law_151 rfl (lv_at hl 2 rfl) ?_
  refine lw_arg C hl hS (kv := 1) (rest := [.ref (E.1 0)]) (by decide) h1 dL_law_152 dL_law_153 dL_law_154 dL_law_155 dL_law_156 ?_
  refine lw_arg C hl hS (kv := 2) (rest := [.int (xs (i + 1).toNatClampNeg), .ref (E.1 0)]) (by decide) h2 dL_law_157 dL_law_158 dL_law_159 dL_law_160 dL_law_161 ?_
  refine lw_call (E := E) (as := [.int (xs (i + 1).toNatClampNeg), .int (xs (i + 2).toNatClampNeg)]) (a := 0) (rest := []) hx hb hml hts hown hEK hAE (ct_X8_think l) rv_X8_think (cwV 2 hts (lw_good gL_law_X8_think) rfl rfl rfl (by decide +kernel) ⟨Nat.le_of_ble_eq_true rfl, Nat.le_of_ble_eq_true rfl⟩) ((lc_think (xs (i + 1).toNatClampNeg) (xs (i + 2).toNatClampNeg)) S n hR) hP hS hl.1 (Nat.le_of_ble_eq_true rfl) dL_law_162 hf (fun r S1 H locs hK hP hS => ?_)
  obtain ⟨x, rfl, hK⟩ := hK
  refine W.eq (g2 := F0 m 165 ls [.int x]) rfl ?_
  refine lv_aload_n hx hb dL_law_165 rfl (lv_at hl 1 rfl) ?_
  refine lw_arg C hl hS (kv := 1) (rest := [.ref (E.1 29), .int x]) (by decide) h1 dL_law_166 dL_law_167 dL_law_168 dL_law_169 dL_law_170 ?_
  refine lw_arg C hl hS (kv := 2) (rest := [.int (xs (i + 1).toNatClampNeg), .ref (E.1 29), .int x]) (by decide) h2 dL_law_171 dL_law_172 dL_law_173 dL_law_174 dL_law_175 ?_
  refine lw_call (E := E) (as := [.int (xs (i + 1).toNatClampNeg), .int (xs (i + 2).toNatClampNeg)]) (a := 29) (rest := [.int x]) hx hb hml hts hown hEK hAE (ct_X9_think l) rv_X9_think (cwV 2 hts (lw_good gL_law_X9_think) rfl rfl rfl (by decide +kernel) ⟨Nat.le_of_ble_eq_true rfl, Nat.le_of_ble_eq_true rfl⟩) (hK) hP hS hl.1 (Nat.le_of_ble_eq_true rfl) dL_law_176 hf (fun r S1 H locs hK hP hS => ?_)
  obtain ⟨rfl, n2, hR2⟩ := hK
  refine W.eq (g2 := F0 m 179 ls [.int x, .int x]) rfl ?_
  exact lv_icmp_eq (tgt := 687) hx hb dL_law_179 (by decide) (fun _ => hB S1 n2 H locs hR2 hP hS) (fun g9 => absurd rfl g9)
set_option maxHeartbeats 2000000 in
theorem lw_k2 (C : lw_Cx p s m c b L xs E) (h1 : vp_in (i + 1) L) (h2 : vp_in (i + 2) L) (h3 : vp_in (i + 3) L) (hf : cells + 0 ≤ room_1.cells ∧ slots + 0 ≤ room_1.slots) (hl : lv_has ls 4 (lw_lv E b i)) (hR : lw_R S n) (hP : va_P E.2.1 vwCl (mn_wl E S) H) (hS : va_S (fun q => s.heap.size ≤ q) s.heap H locs)
    (hB : ∀ (S : mn_S) (n : Nat) (H : Heap) (locs : List Loc), lw_R S n → va_P E.2.1 vwCl (mn_wl E S) H → va_S (fun q => s.heap.size ≤ q) s.heap H locs → W p l e room_1 s m #[Value.ref b] below meth c H locs cells slots Q (F0 m 687 ls [])) : W p l e room_1 s m #[Value.ref b] below meth c H locs cells slots Q (F0 m 184 ls []) := by
  obtain ⟨hx, hb, hml, hown, hts, hX, hbl, hEK, hAE⟩ := id C
  refine lv_aload_n hx hb dL_law_184 rfl (lv_at hl 2 rfl) ?_
  refine lw_arg C hl hS (kv := 1) (rest := [.ref (E.1 0)]) (by decide) h1 dL_law_185 dL_law_186 dL_law_187 dL_law_188 dL_law_189 ?_
  refine lw_arg C hl hS (kv := 2) (rest := [.int (xs (i + 1).toNatClampNeg), .ref (E.1 0)]) (by decide) h2 dL_law_190 dL_law_191 dL_law_192 dL_law_193 dL_law_194 ?_
  refine lv_if_eq (tgt := 202) hx hb dL_law_195 (by decide) (fun g => ?_) (fun g => ?_)
  · refine lv_iconst (v := 0) hx hb dL_law_202 (by decide) ?_
    refine lw_call (E := E) (as := [.int (xs (i + 1).toNatClampNeg), .int (0)]) (a := 0) (rest := []) hx hb hml hts hown hEK hAE (ct_X8_stubborn l) rv_X8_stubborn (cwV 2 hts (lw_good gL_law_X8_stubborn) rfl rfl rfl (by decide +kernel) ⟨Nat.le_of_ble_eq_true rfl, Nat.le_of_ble_eq_true rfl⟩) ((lc_stubborn (xs (i + 1).toNatClampNeg) (0)) S n hR) hP hS hl.1 (Nat.le_of_ble_eq_true rfl) dL_law_203 hf (fun r S1 H locs hK hP hS => ?_)
    obtain ⟨x, rfl, hK⟩ := hK
    refine W.eq (g2 := F0 m 206 ls [.int x]) rfl ?_
    refine lv_aload_n hx hb dL_law_206 rfl (lv_at hl 1 rfl) ?_
    refine lw_arg C hl hS (kv := 1) (rest := [.ref (E.1 29), .int x]) (by decide) h1 dL_law_207 dL_law_208 dL_law_209 dL_law_210 dL_law_211 ?_
    refine lw_arg C hl hS (kv := 2) (rest := [.int (xs (i + 1).toNatClampNeg), .ref (E.1 29), .int x]) (by decide) h2 dL_law_212 dL_law_213 dL_law_214 dL_law_215 dL_law_216 ?_
    refine lv_if_eq (tgt := 224) hx hb dL_law_217 (by decide) (fun _ => ?_) (fun g9 => absurd g g9)
    refine lv_iconst (v := 0) hx hb dL_law_224 (by decide) ?_
    refine lw_call (E := E) (as := [.int (xs (i + 1).toNatClampNeg), .int (0)]) (a := 29) (rest := [.int x]) hx hb hml hts hown hEK hAE (ct_X9_stubborn l) rv_X9_stubborn (cwV 2 hts (lw_good gL_law_X9_stubborn) rfl rfl rfl (by decide +kernel) ⟨Nat.le_of_ble_eq_true rfl, Nat.le_of_ble_eq_true rfl⟩) (hK) hP hS hl.1 (Nat.le_of_ble_eq_true rfl) dL_law_225 hf (fun r S1 H locs hK hP hS => ?_)
    obtain ⟨rfl, n2, hR2⟩ := hK
    refine W.eq (g2 := F0 m 228 ls [.int x, .int x]) rfl ?_
    exact lv_icmp_eq (tgt := 687) hx hb dL_law_228 (by decide) (fun _ => hB S1 n2 H locs hR2 hP hS) (fun g9 => absurd rfl g9)
  · refine lv_iconst (v := 1) hx hb dL_law_198 (by decide) ?_
    refine lv_goto (tgt := 203) hx hb dL_law_199 (by decide) ?_
    refine lw_call (E := E) (as := [.int (xs (i + 1).toNatClampNeg), .int (1)]) (a := 0) (rest := []) hx hb hml hts hown hEK hAE (ct_X8_stubborn l) rv_X8_stubborn (cwV 2 hts (lw_good gL_law_X8_stubborn) rfl rfl rfl (by decide +kernel) ⟨Nat.le_of_ble_eq_true rfl, Nat.le_of_ble_eq_true rfl⟩) ((lc_stubborn (xs (i + 1).toNatClampNeg) (1)) S n hR) hP hS hl.1 (Nat.le_of_ble_eq_true rfl) dL_law_203 hf (fun r S1 H locs hK hP hS => ?_)
    obtain ⟨x, rfl, hK⟩ := hK
    refine W.eq (g2 := F0 m 206 ls [.int x]) rfl ?_
    refine lv_aload_n hx hb dL_law_206 rfl (lv_at hl 1 rfl) ?_
    refine lw_arg C hl hS (kv := 1) (rest := [.ref (E.1 29), .int x]) (by decide) h1 dL_law_207 dL_law_208 dL_law_209 dL_law_210 dL_law_211 ?_
    refine lw_arg C hl hS (kv := 2) (rest := [.int (xs (i + 1).toNatClampNeg), .ref (E.1 29), .int x]) (by decide) h2 dL_law_212 dL_law_213 dL_law_214 dL_law_215 dL_law_216 ?_
    refine lv_if_eq (tgt := 224) hx hb dL_law_217 (by decide) (fun g9 => absurd g9 g) (fun _ => ?_)
    refine lv_iconst (v := 1) hx hb dL_law_220 (by decide) ?_
    refine lv_goto (tgt := 225) hx hb dL_law_221 (by decide) ?_
    refine lw_call (E := E) (as := [.int (xs (i + 1).toNatClampNeg), .int (1)]) (a := 29) (rest := [.int x]) hx hb hml hts hown hEK hAE (ct_X9_stubborn l) rv_X9_stubborn (cwV 2 hts (lw_good gL_law_X9_stubborn) rfl rfl rfl (by decide +kernel) ⟨Nat.le_of_ble_eq_true rfl, Nat.le_of_ble_eq_true rfl⟩) (hK) hP hS hl.1 (Nat.le_of_ble_eq_true rfl) dL_law_225 hf (fun r S1 H locs hK hP hS => ?_)
    obtain ⟨rfl, n2, hR2⟩ := hK
    refine W.eq (g2 := F0 m 228 ls [.int x, .int x]) rfl ?_
    exact lv_icmp_eq (tgt := 687) hx hb dL_law_228 (by decide) (fun _ => hB S1 n2 H locs hR2 hP hS) (fun g9 => absurd rfl g9)
set_option maxHeartbeats 2000000 in
theorem lw_k3 (C : lw_Cx p s m c b L xs E) (h1 : vp_in (i + 1) L) (h2 : vp_in (i + 2) L) (h3 : vp_in (i + 3) L) (hf : cells + 0 ≤ room_1.cells ∧ slots + 0 ≤ room_1.slots) (hl : lv_has ls 4 (lw_lv E b i)) (hR : lw_R S n) (hP : va_P E.2.1 vwCl (mn_wl E S) H) (hS : va_S (fun q => s.heap.size ≤ q) s.heap H locs)
    (hB : ∀ (S : mn_S) (n : Nat) (H : Heap) (locs : List Loc), lw_R S n → va_P E.2.1 vwCl (mn_wl E S) H → va_S (fun q => s.heap.size ≤ q) s.heap H locs → W p l e room_1 s m #[Value.ref b] below meth c H locs cells slots Q (F0 m 687 ls [])) : W p l e room_1 s m #[Value.ref b] below meth c H locs cells slots Q (F0 m 233 ls []) := by
  obtain ⟨hx, hb, hml, hown, hts, hX, hbl, hEK, hAE⟩ := id C
  refine lv_aload_n hx hb dL_law_233 rfl (lv_at hl 2 rfl) ?_
  refine lw_arg C hl hS (kv := 1) (rest := [.ref (E.1 0)]) (by decide) h1 dL_law_234 dL_law_235 dL_law_236 dL_law_237 dL_law_238 ?_
  refine lw_arg C hl hS (kv := 2) (rest := [.int (xs (i + 1).toNatClampNeg), .ref (E.1 0)]) (by decide) h2 dL_law_239 dL_law_240 dL_law_241 dL_law_242 dL_law_243 ?_
  refine lw_arg C hl hS (kv := 3) (rest := [.int (xs (i + 2).toNatClampNeg), .int (xs (i + 1).toNatClampNeg), .ref (E.1 0)]) (by decide) h3 dL_law_244 dL_law_245 dL_law_246 dL_law_247 dL_law_248 ?_
  refine lw_call (E := E) (as := [.int (xs (i + 1).toNatClampNeg), .int (xs (i + 2).toNatClampNeg), .int (xs (i + 3).toNatClampNeg)]) (a := 0) (rest := []) hx hb hml hts hown hEK hAE (ct_X8_weight l) rv_X8_weight (cwV 3 hts (lw_good gL_law_X8_weight) rfl rfl rfl (by decide +kernel) ⟨Nat.le_of_ble_eq_true rfl, Nat.le_of_ble_eq_true rfl⟩) ((lc_weight (xs (i + 1).toNatClampNeg) (xs (i + 2).toNatClampNeg) (xs (i + 3).toNatClampNeg)) S n hR) hP hS hl.1 (Nat.le_of_ble_eq_true rfl) dL_law_249 hf (fun r S1 H locs hK hP hS => ?_)
  obtain ⟨x, rfl, hK⟩ := hK
  refine W.eq (g2 := F0 m 252 ls [.int x]) rfl ?_
  refine lv_aload_n hx hb dL_law_252 rfl (lv_at hl 1 rfl) ?_
  refine lw_arg C hl hS (kv := 1) (rest := [.ref (E.1 29), .int x]) (by decide) h1 dL_law_253 dL_law_254 dL_law_255 dL_law_256 dL_law_257 ?_
  refine lw_arg C hl hS (kv := 2) (rest := [.int (xs (i + 1).toNatClampNeg), .ref (E.1 29), .int x]) (by decide) h2 dL_law_258 dL_law_259 dL_law_260 dL_law_261 dL_law_262 ?_
  refine lw_arg C hl hS (kv := 3) (rest := [.int (xs (i + 2).toNatClampNeg), .int (xs (i + 1).toNatClampNeg), .ref (E.1 29), .int x]) (by decide) h3 dL_law_263 dL_law_264 dL_law_265 dL_law_266 dL_law_267 ?_
  refine lw_call (E := E) (as := [.int (xs (i + 1).toNatClampNeg), .int (xs (i + 2).toNatClampNeg), .int (xs (i + 3).toNatClampNeg)]) (a := 29) (rest := [.int x]) hx hb hml hts hown hEK hAE (ct_X9_weight l) rv_X9_weight (cwV 3 hts (lw_good gL_law_X9_weight) rfl rfl rfl (by decide +kernel) ⟨Nat.le_of_ble_eq_true rfl, Nat.le_of_ble_eq_true rfl⟩) (hK) hP hS hl.1 (Nat.le_of_ble_eq_true rfl) dL_law_268 hf (fun r S1 H locs hK hP hS => ?_)
  obtain ⟨rfl, n2, hR2⟩ := hK
  refine W.eq (g2 := F0 m 271 ls [.int x, .int x]) rfl ?_
  exact lv_icmp_eq (tgt := 687) hx hb dL_law_271 (by decide) (fun _ => hB S1 n2 H locs hR2 hP hS) (fun g9 => absurd rfl g9)
set_option maxHeartbeats 2000000 in
theorem lw_k4 (C : lw_Cx p s m c b L xs E) (h1 : vp_in (i + 1) L) (h2 : vp_in (i + 2) L) (h3 : vp_in (i + 3) L) (hf : cells + 0 ≤ room_1.cells ∧ slots + 0 ≤ room_1.slots) (hl : lv_has ls 4 (lw_lv E b i)) (hR : lw_R S n) (hP : va_P E.2.1 vwCl (mn_wl E S) H) (hS : va_S (fun q => s.heap.size ≤ q) s.heap H locs)
    (hB : ∀ (S : mn_S) (n : Nat) (H : Heap) (locs : List Loc), lw_R S n → va_P E.2.1 vwCl (mn_wl E S) H → va_S (fun q => s.heap.size ≤ q) s.heap H locs → W p l e room_1 s m #[Value.ref b] below meth c H locs cells slots Q (F0 m 687 ls [])) : W p l e room_1 s m #[Value.ref b] below meth c H locs cells slots Q (F0 m 276 ls []) := by
  obtain ⟨hx, hb, hml, hown, hts, hX, hbl, hEK, hAE⟩ := id C
  refine lv_aload_n hx hb dL_law_276 rfl (lv_at hl 2 rfl) ?_
  refine lw_arg C hl hS (kv := 1) (rest := [.ref (E.1 0)]) (by decide) h1 dL_law_277 dL_law_278 dL_law_279 dL_law_280 dL_law_281 ?_
  refine lw_call (E := E) (as := [.int (xs (i + 1).toNatClampNeg)]) (a := 0) (rest := []) hx hb hml hts hown hEK hAE (ct_X8_ear l) rv_X8_ear (cwV 1 hts (lw_good gL_law_X8_ear) rfl rfl rfl (by decide +kernel) ⟨Nat.le_of_ble_eq_true rfl, Nat.le_of_ble_eq_true rfl⟩) ((lc_ear (xs (i + 1).toNatClampNeg)) S n hR) hP hS hl.1 (Nat.le_of_ble_eq_true rfl) dL_law_282 hf (fun r S1 H locs hK hP hS => ?_)
  obtain ⟨x, rfl, hK⟩ := hK
  refine W.eq (g2 := F0 m 285 ls [.int x]) rfl ?_
  refine lv_aload_n hx hb dL_law_285 rfl (lv_at hl 1 rfl) ?_
  refine lw_arg C hl hS (kv := 1) (rest := [.ref (E.1 29), .int x]) (by decide) h1 dL_law_286 dL_law_287 dL_law_288 dL_law_289 dL_law_290 ?_
  refine lw_call (E := E) (as := [.int (xs (i + 1).toNatClampNeg)]) (a := 29) (rest := [.int x]) hx hb hml hts hown hEK hAE (ct_X9_ear l) rv_X9_ear (cwV 1 hts (lw_good gL_law_X9_ear) rfl rfl rfl (by decide +kernel) ⟨Nat.le_of_ble_eq_true rfl, Nat.le_of_ble_eq_true rfl⟩) (hK) hP hS hl.1 (Nat.le_of_ble_eq_true rfl) dL_law_291 hf (fun r S1 H locs hK hP hS => ?_)
  obtain ⟨rfl, n2, hR2⟩ := hK
  refine W.eq (g2 := F0 m 294 ls [.int x, .int x]) rfl ?_
  exact lv_icmp_eq (tgt := 687) hx hb dL_law_294 (by decide) (fun _ => hB S1 n2 H locs hR2 hP hS) (fun g9 => absurd rfl g9)
set_option maxHeartbeats 2000000 in
theorem lw_k5 (C : lw_Cx p s m c b L xs E) (h1 : vp_in (i + 1) L) (h2 : vp_in (i + 2) L) (h3 : vp_in (i + 3) L) (hf : cells + 0 ≤ room_1.cells ∧ slots + 0 ≤ room_1.slots) (hl : lv_has ls 4 (lw_lv E b i)) (hR : lw_R S n) (hP : va_P E.2.1 vwCl (mn_wl E S) H) (hS : va_S (fun q => s.heap.size ≤ q) s.heap H locs)
    (hB : ∀ (S : mn_S) (n : Nat) (H : Heap) (locs : List Loc), lw_R S n → va_P E.2.1 vwCl (mn_wl E S) H → va_S (fun q => s.heap.size ≤ q) s.heap H locs → W p l e room_1 s m #[Value.ref b] below meth c H locs cells slots Q (F0 m 687 ls [])) : W p l e room_1 s m #[Value.ref b] below meth c H locs cells slots Q (F0 m 299 ls []) := by
  obtain ⟨hx, hb, hml, hown, hts, hX, hbl, hEK, hAE⟩ := id C
  refine lv_aload_n hx hb dL_law_299 rfl (lv_at hl 2 rfl) ?_
  refine lw_arg C hl hS (kv := 1) (rest := [.ref (E.1 0)]) (by decide) h1 dL_law_300 dL_law_301 dL_law_302 dL_law_303 dL_law_304 ?_
  refine lw_call (E := E) (as := [.int (xs (i + 1).toNatClampNeg)]) (a := 0) (rest := []) hx hb hml hts hown hEK hAE (ct_X8_rounds l) rv_X8_rounds (cwV 1 hts (lw_good gL_law_X8_rounds) rfl rfl rfl (by decide +kernel) ⟨Nat.le_of_ble_eq_true rfl, Nat.le_of_ble_eq_true rfl⟩) ((lc_rounds (xs (i + 1).toNatClampNeg)) S n hR) hP hS hl.1 (Nat.le_of_ble_eq_true rfl) dL_law_305 hf (fun r S1 H locs hK hP hS => ?_)
  obtain ⟨x, rfl, hK⟩ := hK
  refine W.eq (g2 := F0 m 308 ls [.int x]) rfl ?_
  refine lv_aload_n hx hb dL_law_308 rfl (lv_at hl 1 rfl) ?_
  refine lw_arg C hl hS (kv := 1) (rest := [.ref (E.1 29), .int x]) (by decide) h1 dL_law_309 dL_law_310 dL_law_311 dL_law_312 dL_law_313 ?_
  refine lw_call (E := E) (as := [.int (xs (i + 1).toNatClampNeg)]) (a := 29) (rest := [.int x]) hx hb hml hts hown hEK hAE (ct_X9_rounds l) rv_X9_rounds (cwV 1 hts (lw_good gL_law_X9_rounds) rfl rfl rfl (by decide +kernel) ⟨Nat.le_of_ble_eq_true rfl, Nat.le_of_ble_eq_true rfl⟩) (hK) hP hS hl.1 (Nat.le_of_ble_eq_true rfl) dL_law_314 hf (fun r S1 H locs hK hP hS => ?_)
  obtain ⟨rfl, n2, hR2⟩ := hK
  refine W.eq (g2 := F0 m 317 ls [.int x, .int x]) rfl ?_
  exact lv_icmp_eq (tgt := 687) hx hb dL_law_317 (by decide) (fun _ => hB S1 n2 H locs hR2 hP hS) (fun g9 => absurd rfl g9)
set_option maxHeartbeats 2000000 in
theorem lw_k6 (C : lw_Cx p s m c b L xs E) (h1 : vp_in (i + 1) L) (h2 : vp_in (i + 2) L) (h3 : vp_in (i + 3) L) (hf : cells + 0 ≤ room_1.cells ∧ slots + 0 ≤ room_1.slots) (hl : lv_has ls 4 (lw_lv E b i)) (hR : lw_R S n) (hP : va_P E.2.1 vwCl (mn_wl E S) H) (hS : va_S (fun q => s.heap.size ≤ q) s.heap H locs)
    (hB : ∀ (S : mn_S) (n : Nat) (H : Heap) (locs : List Loc), lw_R S n → va_P E.2.1 vwCl (mn_wl E S) H → va_S (fun q => s.heap.size ≤ q) s.heap H locs → W p l e room_1 s m #[Value.ref b] below meth c H locs cells slots Q (F0 m 687 ls [])) : W p l e room_1 s m #[Value.ref b] below meth c H locs cells slots Q (F0 m 322 ls []) := by
  obtain ⟨hx, hb, hml, hown, hts, hX, hbl, hEK, hAE⟩ := id C
  refine lv_aload_n hx hb dL_law_322 rfl (lv_at hl 2 rfl) ?_
  refine lw_call (E := E) (as := []) (a := 0) (rest := []) hx hb hml hts hown hEK hAE (ct_X8_settle l) rv_X8_settle (cwV 0 hts (lw_good gL_law_X8_settle) rfl rfl rfl (by decide +kernel) ⟨Nat.le_of_ble_eq_true rfl, Nat.le_of_ble_eq_true rfl⟩) (lc_settle S n hR) hP hS hl.1 (Nat.le_of_ble_eq_true rfl) dL_law_323 hf (fun r S1 H locs hK hP hS => ?_)
  obtain ⟨x, rfl, hK⟩ := hK
  refine W.eq (g2 := F0 m 326 ls [.int x]) rfl ?_
  refine lv_aload_n hx hb dL_law_326 rfl (lv_at hl 1 rfl) ?_
  refine lw_call (E := E) (as := []) (a := 29) (rest := [.int x]) hx hb hml hts hown hEK hAE (ct_X9_settle l) rv_X9_settle (cwV 0 hts (lw_good gL_law_X9_settle) rfl rfl rfl (by decide +kernel) ⟨Nat.le_of_ble_eq_true rfl, Nat.le_of_ble_eq_true rfl⟩) (hK) hP hS hl.1 (Nat.le_of_ble_eq_true rfl) dL_law_327 hf (fun r S1 H locs hK hP hS => ?_)
  obtain ⟨rfl, n2, hR2⟩ := hK
  refine W.eq (g2 := F0 m 330 ls [.int x, .int x]) rfl ?_
  exact lv_icmp_eq (tgt := 687) hx hb dL_law_330 (by decide) (fun _ => hB S1 n2 H locs hR2 hP hS) (fun g9 => absurd rfl g9)
set_option maxHeartbeats 2000000 in
theorem lw_k7 (C : lw_Cx p s m c b L xs E) (h1 : vp_in (i + 1) L) (h2 : vp_in (i + 2) L) (h3 : vp_in (i + 3) L) (hf : cells + 0 ≤ room_1.cells ∧ slots + 0 ≤ room_1.slots) (hl : lv_has ls 4 (lw_lv E b i)) (hR : lw_R S n) (hP : va_P E.2.1 vwCl (mn_wl E S) H) (hS : va_S (fun q => s.heap.size ≤ q) s.heap H locs)
    (hB : ∀ (S : mn_S) (n : Nat) (H : Heap) (locs : List Loc), lw_R S n → va_P E.2.1 vwCl (mn_wl E S) H → va_S (fun q => s.heap.size ≤ q) s.heap H locs → W p l e room_1 s m #[Value.ref b] below meth c H locs cells slots Q (F0 m 687 ls [])) : W p l e room_1 s m #[Value.ref b] below meth c H locs cells slots Q (F0 m 335 ls []) := by
  obtain ⟨hx, hb, hml, hown, hts, hX, hbl, hEK, hAE⟩ := id C
  refine lv_aload_n hx hb dL_law_335 rfl (lv_at hl 2 rfl) ?_
  refine lw_arg C hl hS (kv := 1) (rest := [.ref (E.1 0)]) (by decide) h1 dL_law_336 dL_law_337 dL_law_338 dL_law_339 dL_law_340 ?_
  refine lw_arg C hl hS (kv := 2) (rest := [.int (xs (i + 1).toNatClampNeg), .ref (E.1 0)]) (by decide) h2 dL_law_341 dL_law_342 dL_law_343 dL_law_344 dL_law_345 ?_
  refine lw_call (E := E) (as := [.int (xs (i + 1).toNatClampNeg), .int (xs (i + 2).toNatClampNeg)]) (a := 0) (rest := []) hx hb hml hts hown hEK hAE (ct_X8_about l) rv_X8_about (cwV 2 hts (lw_good gL_law_X8_about) rfl rfl rfl (by decide +kernel) ⟨Nat.le_of_ble_eq_true rfl, Nat.le_of_ble_eq_true rfl⟩) ((lc_about (xs (i + 1).toNatClampNeg) (xs (i + 2).toNatClampNeg)) S n hR) hP hS hl.1 (Nat.le_of_ble_eq_true rfl) dL_law_346 hf (fun r S1 H locs hK hP hS => ?_)
  obtain ⟨x, rfl, hK⟩ := hK
  refine W.eq (g2 := F0 m 349 ls [.int x]) rfl ?_
  refine lv_aload_n hx hb dL_law_349 rfl (lv_at hl 1 rfl) ?_
  refine lw_arg C hl hS (kv := 1) (rest := [.ref (E.1 29), .int x]) (by decide) h1 dL_law_350 dL_law_351 dL_law_352 dL_law_353 dL_law_354 ?_
  refine lw_arg C hl hS (kv := 2) (rest := [.int (xs (i + 1).toNatClampNeg), .ref (E.1 29), .int x]) (by decide) h2 dL_law_355 dL_law_356 dL_law_357 dL_law_358 dL_law_359 ?_
  refine lw_call (E := E) (as := [.int (xs (i + 1).toNatClampNeg), .int (xs (i + 2).toNatClampNeg)]) (a := 29) (rest := [.int x]) hx hb hml hts hown hEK hAE (ct_X9_about l) rv_X9_about (cwV 2 hts (lw_good gL_law_X9_about) rfl rfl rfl (by decide +kernel) ⟨Nat.le_of_ble_eq_true rfl, Nat.le_of_ble_eq_true rfl⟩) (hK) hP hS hl.1 (Nat.le_of_ble_eq_true rfl) dL_law_360 hf (fun r S1 H locs hK hP hS => ?_)
  obtain ⟨rfl, n2, hR2⟩ := hK
  refine W.eq (g2 := F0 m 363 ls [.int x, .int x]) rfl ?_
  exact lv_icmp_eq (tgt := 687) hx hb dL_law_363 (by decide) (fun _ => hB S1 n2 H locs hR2 hP hS) (fun g9 => absurd rfl g9)
set_option maxHeartbeats 2000000 in
theorem lw_k8 (C : lw_Cx p s m c b L xs E) (h1 : vp_in (i + 1) L) (h2 : vp_in (i + 2) L) (h3 : vp_in (i + 3) L) (hf : cells + 0 ≤ room_1.cells ∧ slots + 0 ≤ room_1.slots) (hl : lv_has ls 4 (lw_lv E b i)) (hR : lw_R S n) (hP : va_P E.2.1 vwCl (mn_wl E S) H) (hS : va_S (fun q => s.heap.size ≤ q) s.heap H locs)
    (hB : ∀ (S : mn_S) (n : Nat) (H : Heap) (locs : List Loc), lw_R S n → va_P E.2.1 vwCl (mn_wl E S) H → va_S (fun q => s.heap.size ≤ q) s.heap H locs → W p l e room_1 s m #[Value.ref b] below meth c H locs cells slots Q (F0 m 687 ls [])) : W p l e room_1 s m #[Value.ref b] below meth c H locs cells slots Q (F0 m 368 ls []) := by
  obtain ⟨hx, hb, hml, hown, hts, hX, hbl, hEK, hAE⟩ := id C
  refine lv_aload_n hx hb dL_law_368 rfl (lv_at hl 2 rfl) ?_
  refine lw_arg C hl hS (kv := 1) (rest := [.ref (E.1 0)]) (by decide) h1 dL_law_369 dL_law_370 dL_law_371 dL_law_372 dL_law_373 ?_
  refine lw_call (E := E) (as := [.int (xs (i + 1).toNatClampNeg)]) (a := 0) (rest := []) hx hb hml hts hown hEK hAE (ct_X8_told l) rv_X8_told (cwV 1 hts (lw_good gL_law_X8_told) rfl rfl rfl (by decide +kernel) ⟨Nat.le_of_ble_eq_true rfl, Nat.le_of_ble_eq_true rfl⟩) ((lc_told (xs (i + 1).toNatClampNeg)) S n hR) hP hS hl.1 (Nat.le_of_ble_eq_true rfl) dL_law_374 hf (fun r S1 H locs hK hP hS => ?_)
  obtain ⟨x, rfl, hK⟩ := hK
  refine W.eq (g2 := F0 m 377 ls [.int x]) rfl ?_
  refine lv_aload_n hx hb dL_law_377 rfl (lv_at hl 1 rfl) ?_
  refine lw_arg C hl hS (kv := 1) (rest := [.ref (E.1 29), .int x]) (by decide) h1 dL_law_378 dL_law_379 dL_law_380 dL_law_381 dL_law_382 ?_
  refine lw_call (E := E) (as := [.int (xs (i + 1).toNatClampNeg)]) (a := 29) (rest := [.int x]) hx hb hml hts hown hEK hAE (ct_X9_told l) rv_X9_told (cwV 1 hts (lw_good gL_law_X9_told) rfl rfl rfl (by decide +kernel) ⟨Nat.le_of_ble_eq_true rfl, Nat.le_of_ble_eq_true rfl⟩) (hK) hP hS hl.1 (Nat.le_of_ble_eq_true rfl) dL_law_383 hf (fun r S1 H locs hK hP hS => ?_)
  obtain ⟨rfl, n2, hR2⟩ := hK
  refine W.eq (g2 := F0 m 386 ls [.int x, .int x]) rfl ?_
  exact lv_icmp_eq (tgt := 687) hx hb dL_law_386 (by decide) (fun _ => hB S1 n2 H locs hR2 hP hS) (fun g9 => absurd rfl g9)
set_option maxHeartbeats 2000000 in
theorem lw_k9 (C : lw_Cx p s m c b L xs E) (h1 : vp_in (i + 1) L) (h2 : vp_in (i + 2) L) (h3 : vp_in (i + 3) L) (hf : cells + 0 ≤ room_1.cells ∧ slots + 0 ≤ room_1.slots) (hl : lv_has ls 4 (lw_lv E b i)) (hR : lw_R S n) (hP : va_P E.2.1 vwCl (mn_wl E S) H) (hS : va_S (fun q => s.heap.size ≤ q) s.heap H locs)
    (hB : ∀ (S : mn_S) (n : Nat) (H : Heap) (locs : List Loc), lw_R S n → va_P E.2.1 vwCl (mn_wl E S) H → va_S (fun q => s.heap.size ≤ q) s.heap H locs → W p l e room_1 s m #[Value.ref b] below meth c H locs cells slots Q (F0 m 687 ls [])) : W p l e room_1 s m #[Value.ref b] below meth c H locs cells slots Q (F0 m 391 ls []) := by
  obtain ⟨hx, hb, hml, hown, hts, hX, hbl, hEK, hAE⟩ := id C
  refine lv_aload_n hx hb dL_law_391 rfl (lv_at hl 2 rfl) ?_
  refine lw_call (E := E) (as := []) (a := 0) (rest := []) hx hb hml hts hown hEK hAE (ct_X8_keep l) rv_X8_keep (cwV 0 hts (lw_good gL_law_X8_keep) rfl rfl rfl (by decide +kernel) ⟨Nat.le_of_ble_eq_true rfl, Nat.le_of_ble_eq_true rfl⟩) (lc_keep S n hR) hP hS hl.1 (Nat.le_of_ble_eq_true rfl) dL_law_392 hf (fun r S1 H locs hK hP hS => ?_)
  obtain ⟨x, rfl, hK⟩ := hK
  refine W.eq (g2 := F0 m 395 ls [.int x]) rfl ?_
  refine lv_aload_n hx hb dL_law_395 rfl (lv_at hl 1 rfl) ?_
  refine lw_call (E := E) (as := []) (a := 29) (rest := [.int x]) hx hb hml hts hown hEK hAE (ct_X9_keep l) rv_X9_keep (cwV 0 hts (lw_good gL_law_X9_keep) rfl rfl rfl (by decide +kernel) ⟨Nat.le_of_ble_eq_true rfl, Nat.le_of_ble_eq_true rfl⟩) (hK) hP hS hl.1 (Nat.le_of_ble_eq_true rfl) dL_law_396 hf (fun r S1 H locs hK hP hS => ?_)
  obtain ⟨rfl, n2, hR2⟩ := hK
  refine W.eq (g2 := F0 m 399 ls [.int x, .int x]) rfl ?_
  exact lv_icmp_eq (tgt := 687) hx hb dL_law_399 (by decide) (fun _ => hB S1 n2 H locs hR2 hP hS) (fun g9 => absurd rfl g9)
set_option maxHeartbeats 2000000 in
theorem lw_k10 (C : lw_Cx p s m c b L xs E) (h1 : vp_in (i + 1) L) (h2 : vp_in (i + 2) L) (h3 : vp_in (i + 3) L) (hf : cells + 0 ≤ room_1.cells ∧ slots + 0 ≤ room_1.slots) (hl : lv_has ls 4 (lw_lv E b i)) (hR : lw_R S n) (hP : va_P E.2.1 vwCl (mn_wl E S) H) (hS : va_S (fun q => s.heap.size ≤ q) s.heap H locs)
    (hB : ∀ (S : mn_S) (n : Nat) (H : Heap) (locs : List Loc), lw_R S n → va_P E.2.1 vwCl (mn_wl E S) H → va_S (fun q => s.heap.size ≤ q) s.heap H locs → W p l e room_1 s m #[Value.ref b] below meth c H locs cells slots Q (F0 m 687 ls [])) : W p l e room_1 s m #[Value.ref b] below meth c H locs cells slots Q (F0 m 404 ls []) := by
  obtain ⟨hx, hb, hml, hown, hts, hX, hbl, hEK, hAE⟩ := id C
  refine lv_aload_n hx hb dL_law_404 rfl (lv_at hl 2 rfl) ?_
  refine lw_call (E := E) (as := []) (a := 0) (rest := []) hx hb hml hts hown hEK hAE (ct_X8_back l) rv_X8_back (cwV 0 hts (lw_good gL_law_X8_back) rfl rfl rfl (by decide +kernel) ⟨Nat.le_of_ble_eq_true rfl, Nat.le_of_ble_eq_true rfl⟩) (lc_back S n hR) hP hS hl.1 (Nat.le_of_ble_eq_true rfl) dL_law_405 hf (fun r S1 H locs hK hP hS => ?_)
  obtain ⟨x, rfl, hK⟩ := hK
  refine W.eq (g2 := F0 m 408 ls [.int x]) rfl ?_
  refine lv_aload_n hx hb dL_law_408 rfl (lv_at hl 1 rfl) ?_
  refine lw_call (E := E) (as := []) (a := 29) (rest := [.int x]) hx hb hml hts hown hEK hAE (ct_X9_back l) rv_X9_back (cwV 0 hts (lw_good gL_law_X9_back) rfl rfl rfl (by decide +kernel) ⟨Nat.le_of_ble_eq_true rfl, Nat.le_of_ble_eq_true rfl⟩) (hK) hP hS hl.1 (Nat.le_of_ble_eq_true rfl) dL_law_409 hf (fun r S1 H locs hK hP hS => ?_)
  obtain ⟨rfl, n2, hR2⟩ := hK
  refine W.eq (g2 := F0 m 412 ls [.int x, .int x]) rfl ?_
  exact lv_icmp_eq (tgt := 687) hx hb dL_law_412 (by decide) (fun _ => hB S1 n2 H locs hR2 hP hS) (fun g9 => absurd rfl g9)
set_option maxHeartbeats 2000000 in
theorem lw_k11 (C : lw_Cx p s m c b L xs E) (h1 : vp_in (i + 1) L) (h2 : vp_in (i + 2) L) (h3 : vp_in (i + 3) L) (hf : cells + 0 ≤ room_1.cells ∧ slots + 0 ≤ room_1.slots) (hl : lv_has ls 4 (lw_lv E b i)) (hR : lw_R S n) (hP : va_P E.2.1 vwCl (mn_wl E S) H) (hS : va_S (fun q => s.heap.size ≤ q) s.heap H locs)
    (hB : ∀ (S : mn_S) (n : Nat) (H : Heap) (locs : List Loc), lw_R S n → va_P E.2.1 vwCl (mn_wl E S) H → va_S (fun q => s.heap.size ≤ q) s.heap H locs → W p l e room_1 s m #[Value.ref b] below meth c H locs cells slots Q (F0 m 687 ls [])) : W p l e room_1 s m #[Value.ref b] below meth c H locs cells slots Q (F0 m 417 ls []) := by
  obtain ⟨hx, hb, hml, hown, hts, hX, hbl, hEK, hAE⟩ := id C
  refine lv_aload_n hx hb dL_law_417 rfl (lv_at hl 2 rfl) ?_
  refine lw_arg C hl hS (kv := 1) (rest := [.ref (E.1 0)]) (by decide) h1 dL_law_418 dL_law_419 dL_law_420 dL_law_421 dL_law_422 ?_
  refine lw_arg C hl hS (kv := 2) (rest := [.int (xs (i + 1).toNatClampNeg), .ref (E.1 0)]) (by decide) h2 dL_law_423 dL_law_424 dL_law_425 dL_law_426 dL_law_427 ?_
  refine lw_arg C hl hS (kv := 3) (rest := [.int (xs (i + 2).toNatClampNeg), .int (xs (i + 1).toNatClampNeg), .ref (E.1 0)]) (by decide) h3 dL_law_428 dL_law_429 dL_law_430 dL_law_431 dL_law_432 ?_
  refine lw_call (E := E) (as := [.int (xs (i + 1).toNatClampNeg), .int (xs (i + 2).toNatClampNeg), .int (xs (i + 3).toNatClampNeg)]) (a := 0) (rest := []) hx hb hml hts hown hEK hAE (ct_X8_width l) rv_X8_width (cwV 3 hts (lw_good gL_law_X8_width) rfl rfl rfl (by decide +kernel) ⟨Nat.le_of_ble_eq_true rfl, Nat.le_of_ble_eq_true rfl⟩) ((lc_width (xs (i + 1).toNatClampNeg) (xs (i + 2).toNatClampNeg) (xs (i + 3).toNatClampNeg)) S n hR) hP hS hl.1 (Nat.le_of_ble_eq_true rfl) dL_law_433 hf (fun r S1 H locs hK hP hS => ?_)
  obtain ⟨x, rfl, hK⟩ := hK
  refine W.eq (g2 := F0 m 436 ls [.int x]) rfl ?_
  refine lv_aload_n hx hb dL_law_436 rfl (lv_at hl 1 rfl) ?_
  refine lw_arg C hl hS (kv := 1) (rest := [.ref (E.1 29), .int x]) (by decide) h1 dL_law_437 dL_law_438 dL_law_439 dL_law_440 dL_law_441 ?_
  refine lw_arg C hl hS (kv := 2) (rest := [.int (xs (i + 1).toNatClampNeg), .ref (E.1 29), .int x]) (by decide) h2 dL_law_442 dL_law_443 dL_law_444 dL_law_445 dL_law_446 ?_
  refine lw_arg C hl hS (kv := 3) (rest := [.int (xs (i + 2).toNatClampNeg), .int (xs (i + 1).toNatClampNeg), .ref (E.1 29), .int x]) (by decide) h3 dL_law_447 dL_law_448 dL_law_449 dL_law_450 dL_law_451 ?_
  refine lw_call (E := E) (as := [.int (xs (i + 1).toNatClampNeg), .int (xs (i + 2).toNatClampNeg), .int (xs (i + 3).toNatClampNeg)]) (a := 29) (rest := [.int x]) hx hb hml hts hown hEK hAE (ct_X9_width l) rv_X9_width (cwV 3 hts (lw_good gL_law_X9_width) rfl rfl rfl (by decide +kernel) ⟨Nat.le_of_ble_eq_true rfl, Nat.le_of_ble_eq_true rfl⟩) (hK) hP hS hl.1 (Nat.le_of_ble_eq_true rfl) dL_law_452 hf (fun r S1 H locs hK hP hS => ?_)
  obtain ⟨rfl, n2, hR2⟩ := hK
  refine W.eq (g2 := F0 m 455 ls [.int x, .int x]) rfl ?_
  exact lv_icmp_eq (tgt := 687) hx hb dL_law_455 (by decide) (fun _ => hB S1 n2 H locs hR2 hP hS) (fun g9 => absurd rfl g9)
set_option maxHeartbeats 2000000 in
theorem lw_k12 (C : lw_Cx p s m c b L xs E) (h1 : vp_in (i + 1) L) (h2 : vp_in (i + 2) L) (h3 : vp_in (i + 3) L) (hf : cells + 0 ≤ room_1.cells ∧ slots + 0 ≤ room_1.slots) (hl : lv_has ls 4 (lw_lv E b i)) (hR : lw_R S n) (hP : va_P E.2.1 vwCl (mn_wl E S) H) (hS : va_S (fun q => s.heap.size ≤ q) s.heap H locs)
    (hB : ∀ (S : mn_S) (n : Nat) (H : Heap) (locs : List Loc), lw_R S n → va_P E.2.1 vwCl (mn_wl E S) H → va_S (fun q => s.heap.size ≤ q) s.heap H locs → W p l e room_1 s m #[Value.ref b] below meth c H locs cells slots Q (F0 m 687 ls [])) : W p l e room_1 s m #[Value.ref b] below meth c H locs cells slots Q (F0 m 460 ls []) := by
  obtain ⟨hx, hb, hml, hown, hts, hX, hbl, hEK, hAE⟩ := id C
  refine lv_aload_n hx hb dL_law_460 rfl (lv_at hl 2 rfl) ?_
  refine lw_arg C hl hS (kv := 1) (rest := [.ref (E.1 0)]) (by decide) h1 dL_law_461 dL_law_462 dL_law_463 dL_law_464 dL_law_465 ?_
  refine lw_arg C hl hS (kv := 2) (rest := [.int (xs (i + 1).toNatClampNeg), .ref (E.1 0)]) (by decide) h2 dL_law_466 dL_law_467 dL_law_468 dL_law_469 dL_law_470 ?_
  refine lw_call (E := E) (as := [.int (xs (i + 1).toNatClampNeg), .int (xs (i + 2).toNatClampNeg)]) (a := 0) (rest := []) hx hb hml hts hown hEK hAE (ct_X8_leads l) rv_X8_leads (cwV 2 hts (lw_good gL_law_X8_leads) rfl rfl rfl (by decide +kernel) ⟨Nat.le_of_ble_eq_true rfl, Nat.le_of_ble_eq_true rfl⟩) ((lc_leads (xs (i + 1).toNatClampNeg) (xs (i + 2).toNatClampNeg)) S n hR) hP hS hl.1 (Nat.le_of_ble_eq_true rfl) dL_law_471 hf (fun r S1 H locs hK hP hS => ?_)
  obtain ⟨x, rfl, hK⟩ := hK
  refine W.eq (g2 := F0 m 474 ls [.int x]) rfl ?_
  refine lv_aload_n hx hb dL_law_474 rfl (lv_at hl 1 rfl) ?_
  refine lw_arg C hl hS (kv := 1) (rest := [.ref (E.1 29), .int x]) (by decide) h1 dL_law_475 dL_law_476 dL_law_477 dL_law_478 dL_law_479 ?_
  refine lw_arg C hl hS (kv := 2) (rest := [.int (xs (i + 1).toNatClampNeg), .ref (E.1 29), .int x]) (by decide) h2 dL_law_480 dL_law_481 dL_law_482 dL_law_483 dL_law_484 ?_
  refine lw_call (E := E) (as := [.int (xs (i + 1).toNatClampNeg), .int (xs (i + 2).toNatClampNeg)]) (a := 29) (rest := [.int x]) hx hb hml hts hown hEK hAE (ct_X9_leads l) rv_X9_leads (cwV 2 hts (lw_good gL_law_X9_leads) rfl rfl rfl (by decide +kernel) ⟨Nat.le_of_ble_eq_true rfl, Nat.le_of_ble_eq_true rfl⟩) (hK) hP hS hl.1 (Nat.le_of_ble_eq_true rfl) dL_law_485 hf (fun r S1 H locs hK hP hS => ?_)
  obtain ⟨rfl, n2, hR2⟩ := hK
  refine W.eq (g2 := F0 m 488 ls [.int x, .int x]) rfl ?_
  exact lv_icmp_eq (tgt := 687) hx hb dL_law_488 (by decide) (fun _ => hB S1 n2 H locs hR2 hP hS) (fun g9 => absurd rfl g9)
set_option maxHeartbeats 2000000 in
theorem lw_k13 (C : lw_Cx p s m c b L xs E) (h1 : vp_in (i + 1) L) (h2 : vp_in (i + 2) L) (h3 : vp_in (i + 3) L) (hf : cells + 0 ≤ room_1.cells ∧ slots + 0 ≤ room_1.slots) (hl : lv_has ls 4 (lw_lv E b i)) (hR : lw_R S n) (hP : va_P E.2.1 vwCl (mn_wl E S) H) (hS : va_S (fun q => s.heap.size ≤ q) s.heap H locs)
    (hB : ∀ (S : mn_S) (n : Nat) (H : Heap) (locs : List Loc), lw_R S n → va_P E.2.1 vwCl (mn_wl E S) H → va_S (fun q => s.heap.size ≤ q) s.heap H locs → W p l e room_1 s m #[Value.ref b] below meth c H locs cells slots Q (F0 m 687 ls [])) : W p l e room_1 s m #[Value.ref b] below meth c H locs cells slots Q (F0 m 493 ls []) := by
  obtain ⟨hx, hb, hml, hown, hts, hX, hbl, hEK, hAE⟩ := id C
  refine lv_aload_n hx hb dL_law_493 rfl (lv_at hl 2 rfl) ?_
  refine lw_arg C hl hS (kv := 1) (rest := [.ref (E.1 0)]) (by decide) h1 dL_law_494 dL_law_495 dL_law_496 dL_law_497 dL_law_498 ?_
  refine lw_arg C hl hS (kv := 2) (rest := [.int (xs (i + 1).toNatClampNeg), .ref (E.1 0)]) (by decide) h2 dL_law_499 dL_law_500 dL_law_501 dL_law_502 dL_law_503 ?_
  refine lw_call (E := E) (as := [.int (xs (i + 1).toNatClampNeg), .int (xs (i + 2).toNatClampNeg)]) (a := 0) (rest := []) hx hb hml hts hown hEK hAE (ct_X8_share l) rv_X8_share (cwV 2 hts (lw_good gL_law_X8_share) rfl rfl rfl (by decide +kernel) ⟨Nat.le_of_ble_eq_true rfl, Nat.le_of_ble_eq_true rfl⟩) ((lc_share (xs (i + 1).toNatClampNeg) (xs (i + 2).toNatClampNeg)) S n hR) hP hS hl.1 (Nat.le_of_ble_eq_true rfl) dL_law_504 hf (fun r S1 H locs hK hP hS => ?_)
  obtain ⟨x, rfl, hK⟩ := hK
  refine W.eq (g2 := F0 m 507 ls [.long x]) rfl ?_
  refine lv_aload_n hx hb dL_law_507 rfl (lv_at hl 1 rfl) ?_
  refine lw_arg C hl hS (kv := 1) (rest := [.ref (E.1 29), .long x]) (by decide) h1 dL_law_508 dL_law_509 dL_law_510 dL_law_511 dL_law_512 ?_
  refine lw_arg C hl hS (kv := 2) (rest := [.int (xs (i + 1).toNatClampNeg), .ref (E.1 29), .long x]) (by decide) h2 dL_law_513 dL_law_514 dL_law_515 dL_law_516 dL_law_517 ?_
  refine lw_call (E := E) (as := [.int (xs (i + 1).toNatClampNeg), .int (xs (i + 2).toNatClampNeg)]) (a := 29) (rest := [.long x]) hx hb hml hts hown hEK hAE (ct_X9_share l) rv_X9_share (cwV 2 hts (lw_good gL_law_X9_share) rfl rfl rfl (by decide +kernel) ⟨Nat.le_of_ble_eq_true rfl, Nat.le_of_ble_eq_true rfl⟩) (hK) hP hS hl.1 (Nat.le_of_ble_eq_true rfl) dL_law_518 hf (fun r S1 H locs hK hP hS => ?_)
  obtain ⟨rfl, n2, hR2⟩ := hK
  refine W.eq (g2 := F0 m 521 ls [.long x, .long x]) rfl ?_
  refine W.lcmp hx hb dL_law_521 ?_
  exact lv_if_eq (tgt := 687) hx hb dL_law_522 (by decide) (fun _ => hB S1 n2 H locs hR2 hP hS) (fun g9 => absurd ((lg_cmp_eq x x).mpr rfl) g9)
set_option maxHeartbeats 2000000 in
theorem lw_k14 (C : lw_Cx p s m c b L xs E) (h1 : vp_in (i + 1) L) (h2 : vp_in (i + 2) L) (h3 : vp_in (i + 3) L) (hf : cells + 0 ≤ room_1.cells ∧ slots + 0 ≤ room_1.slots) (hl : lv_has ls 4 (lw_lv E b i)) (hR : lw_R S n) (hP : va_P E.2.1 vwCl (mn_wl E S) H) (hS : va_S (fun q => s.heap.size ≤ q) s.heap H locs)
    (hB : ∀ (S : mn_S) (n : Nat) (H : Heap) (locs : List Loc), lw_R S n → va_P E.2.1 vwCl (mn_wl E S) H → va_S (fun q => s.heap.size ≤ q) s.heap H locs → W p l e room_1 s m #[Value.ref b] below meth c H locs cells slots Q (F0 m 687 ls [])) : W p l e room_1 s m #[Value.ref b] below meth c H locs cells slots Q (F0 m 527 ls []) := by
  obtain ⟨hx, hb, hml, hown, hts, hX, hbl, hEK, hAE⟩ := id C
  refine lv_aload_n hx hb dL_law_527 rfl (lv_at hl 2 rfl) ?_
  refine lw_arg C hl hS (kv := 1) (rest := [.ref (E.1 0)]) (by decide) h1 dL_law_528 dL_law_529 dL_law_530 dL_law_531 dL_law_532 ?_
  refine lw_call (E := E) (as := [.int (xs (i + 1).toNatClampNeg)]) (a := 0) (rest := []) hx hb hml hts hown hEK hAE (ct_X8_end l) rv_X8_end (cwV 1 hts (lw_good gL_law_X8_end) rfl rfl rfl (by decide +kernel) ⟨Nat.le_of_ble_eq_true rfl, Nat.le_of_ble_eq_true rfl⟩) ((lc_end (xs (i + 1).toNatClampNeg)) S n hR) hP hS hl.1 (Nat.le_of_ble_eq_true rfl) dL_law_533 hf (fun r S1 H locs hK hP hS => ?_)
  obtain ⟨x, rfl, hK⟩ := hK
  refine W.eq (g2 := F0 m 536 ls [.long x]) rfl ?_
  refine lv_aload_n hx hb dL_law_536 rfl (lv_at hl 1 rfl) ?_
  refine lw_arg C hl hS (kv := 1) (rest := [.ref (E.1 29), .long x]) (by decide) h1 dL_law_537 dL_law_538 dL_law_539 dL_law_540 dL_law_541 ?_
  refine lw_call (E := E) (as := [.int (xs (i + 1).toNatClampNeg)]) (a := 29) (rest := [.long x]) hx hb hml hts hown hEK hAE (ct_X9_end l) rv_X9_end (cwV 1 hts (lw_good gL_law_X9_end) rfl rfl rfl (by decide +kernel) ⟨Nat.le_of_ble_eq_true rfl, Nat.le_of_ble_eq_true rfl⟩) (hK) hP hS hl.1 (Nat.le_of_ble_eq_true rfl) dL_law_542 hf (fun r S1 H locs hK hP hS => ?_)
  obtain ⟨rfl, n2, hR2⟩ := hK
  refine W.eq (g2 := F0 m 545 ls [.long x, .long x]) rfl ?_
  refine W.lcmp hx hb dL_law_545 ?_
  exact lv_if_eq (tgt := 687) hx hb dL_law_546 (by decide) (fun _ => hB S1 n2 H locs hR2 hP hS) (fun g9 => absurd ((lg_cmp_eq x x).mpr rfl) g9)
set_option maxHeartbeats 2000000 in
theorem lw_k15 (C : lw_Cx p s m c b L xs E) (h1 : vp_in (i + 1) L) (h2 : vp_in (i + 2) L) (h3 : vp_in (i + 3) L) (hf : cells + 0 ≤ room_1.cells ∧ slots + 0 ≤ room_1.slots) (hl : lv_has ls 4 (lw_lv E b i)) (hR : lw_R S n) (hP : va_P E.2.1 vwCl (mn_wl E S) H) (hS : va_S (fun q => s.heap.size ≤ q) s.heap H locs)
    (hB : ∀ (S : mn_S) (n : Nat) (H : Heap) (locs : List Loc), lw_R S n → va_P E.2.1 vwCl (mn_wl E S) H → va_S (fun q => s.heap.size ≤ q) s.heap H locs → W p l e room_1 s m #[Value.ref b] below meth c H locs cells slots Q (F0 m 687 ls [])) : W p l e room_1 s m #[Value.ref b] below meth c H locs cells slots Q (F0 m 551 ls []) := by
  obtain ⟨hx, hb, hml, hown, hts, hX, hbl, hEK, hAE⟩ := id C
  refine lv_aload_n hx hb dL_law_551 rfl (lv_at hl 2 rfl) ?_
  refine lw_arg C hl hS (kv := 1) (rest := [.ref (E.1 0)]) (by decide) h1 dL_law_552 dL_law_553 dL_law_554 dL_law_555 dL_law_556 ?_
  refine lw_arg C hl hS (kv := 2) (rest := [.int (xs (i + 1).toNatClampNeg), .ref (E.1 0)]) (by decide) h2 dL_law_557 dL_law_558 dL_law_559 dL_law_560 dL_law_561 ?_
  refine lw_call (E := E) (as := [.int (xs (i + 1).toNatClampNeg), .int (xs (i + 2).toNatClampNeg)]) (a := 0) (rest := []) hx hb hml hts hown hEK hAE (ct_X8_rest l) rv_X8_rest (cwV 2 hts (lw_good gL_law_X8_rest) rfl rfl rfl (by decide +kernel) ⟨Nat.le_of_ble_eq_true rfl, Nat.le_of_ble_eq_true rfl⟩) ((lc_rest (xs (i + 1).toNatClampNeg) (xs (i + 2).toNatClampNeg)) S n hR) hP hS hl.1 (Nat.le_of_ble_eq_true rfl) dL_law_562 hf (fun r S1 H locs hK hP hS => ?_)
  obtain ⟨x, rfl, hK⟩ := hK
  refine W.eq (g2 := F0 m 565 ls [.long x]) rfl ?_
  refine lv_aload_n hx hb dL_law_565 rfl (lv_at hl 1 rfl) ?_
  refine lw_arg C hl hS (kv := 1) (rest := [.ref (E.1 29), .long x]) (by decide) h1 dL_law_566 dL_law_567 dL_law_568 dL_law_569 dL_law_570 ?_
  refine lw_arg C hl hS (kv := 2) (rest := [.int (xs (i + 1).toNatClampNeg), .ref (E.1 29), .long x]) (by decide) h2 dL_law_571 dL_law_572 dL_law_573 dL_law_574 dL_law_575 ?_
  refine lw_call (E := E) (as := [.int (xs (i + 1).toNatClampNeg), .int (xs (i + 2).toNatClampNeg)]) (a := 29) (rest := [.long x]) hx hb hml hts hown hEK hAE (ct_X9_rest l) rv_X9_rest (cwV 2 hts (lw_good gL_law_X9_rest) rfl rfl rfl (by decide +kernel) ⟨Nat.le_of_ble_eq_true rfl, Nat.le_of_ble_eq_true rfl⟩) (hK) hP hS hl.1 (Nat.le_of_ble_eq_true rfl) dL_law_576 hf (fun r S1 H locs hK hP hS => ?_)
  obtain ⟨rfl, n2, hR2⟩ := hK
  refine W.eq (g2 := F0 m 579 ls [.long x, .long x]) rfl ?_
  refine W.lcmp hx hb dL_law_579 ?_
  exact lv_if_eq (tgt := 687) hx hb dL_law_580 (by decide) (fun _ => hB S1 n2 H locs hR2 hP hS) (fun g9 => absurd ((lg_cmp_eq x x).mpr rfl) g9)
set_option maxHeartbeats 2000000 in
theorem lw_k16 (C : lw_Cx p s m c b L xs E) (h1 : vp_in (i + 1) L) (h2 : vp_in (i + 2) L) (h3 : vp_in (i + 3) L) (hf : cells + 0 ≤ room_1.cells ∧ slots + 0 ≤ room_1.slots) (hl : lv_has ls 4 (lw_lv E b i)) (hR : lw_R S n) (hP : va_P E.2.1 vwCl (mn_wl E S) H) (hS : va_S (fun q => s.heap.size ≤ q) s.heap H locs)
    (hB : ∀ (S : mn_S) (n : Nat) (H : Heap) (locs : List Loc), lw_R S n → va_P E.2.1 vwCl (mn_wl E S) H → va_S (fun q => s.heap.size ≤ q) s.heap H locs → W p l e room_1 s m #[Value.ref b] below meth c H locs cells slots Q (F0 m 687 ls [])) : W p l e room_1 s m #[Value.ref b] below meth c H locs cells slots Q (F0 m 585 ls []) := by
  obtain ⟨hx, hb, hml, hown, hts, hX, hbl, hEK, hAE⟩ := id C
  refine lv_aload_n hx hb dL_law_585 rfl (lv_at hl 2 rfl) ?_
  refine lw_arg C hl hS (kv := 1) (rest := [.ref (E.1 0)]) (by decide) h1 dL_law_586 dL_law_587 dL_law_588 dL_law_589 dL_law_590 ?_
  refine lw_call (E := E) (as := [.int (xs (i + 1).toNatClampNeg)]) (a := 0) (rest := []) hx hb hml hts hown hEK hAE (ct_X8_pull l) rv_X8_pull (cwV 1 hts (lw_good gL_law_X8_pull) rfl rfl rfl (by decide +kernel) ⟨Nat.le_of_ble_eq_true rfl, Nat.le_of_ble_eq_true rfl⟩) ((lc_pull (xs (i + 1).toNatClampNeg)) S n hR) hP hS hl.1 (Nat.le_of_ble_eq_true rfl) dL_law_591 hf (fun r S1 H locs hK hP hS => ?_)
  obtain ⟨x, rfl, hK⟩ := hK
  refine W.eq (g2 := F0 m 594 ls [.int x]) rfl ?_
  refine lv_aload_n hx hb dL_law_594 rfl (lv_at hl 1 rfl) ?_
  refine lw_arg C hl hS (kv := 1) (rest := [.ref (E.1 29), .int x]) (by decide) h1 dL_law_595 dL_law_596 dL_law_597 dL_law_598 dL_law_599 ?_
  refine lw_call (E := E) (as := [.int (xs (i + 1).toNatClampNeg)]) (a := 29) (rest := [.int x]) hx hb hml hts hown hEK hAE (ct_X9_pull l) rv_X9_pull (cwV 1 hts (lw_good gL_law_X9_pull) rfl rfl rfl (by decide +kernel) ⟨Nat.le_of_ble_eq_true rfl, Nat.le_of_ble_eq_true rfl⟩) (hK) hP hS hl.1 (Nat.le_of_ble_eq_true rfl) dL_law_600 hf (fun r S1 H locs hK hP hS => ?_)
  obtain ⟨rfl, n2, hR2⟩ := hK
  refine W.eq (g2 := F0 m 603 ls [.int x, .int x]) rfl ?_
  exact lv_icmp_eq (tgt := 687) hx hb dL_law_603 (by decide) (fun _ => hB S1 n2 H locs hR2 hP hS) (fun g9 => absurd rfl g9)
set_option maxHeartbeats 2000000 in
theorem lw_k17 (C : lw_Cx p s m c b L xs E) (h1 : vp_in (i + 1) L) (h2 : vp_in (i + 2) L) (h3 : vp_in (i + 3) L) (hf : cells + 0 ≤ room_1.cells ∧ slots + 0 ≤ room_1.slots) (hl : lv_has ls 4 (lw_lv E b i)) (hR : lw_R S n) (hP : va_P E.2.1 vwCl (mn_wl E S) H) (hS : va_S (fun q => s.heap.size ≤ q) s.heap H locs)
    (hB : ∀ (S : mn_S) (n : Nat) (H : Heap) (locs : List Loc), lw_R S n → va_P E.2.1 vwCl (mn_wl E S) H → va_S (fun q => s.heap.size ≤ q) s.heap H locs → W p l e room_1 s m #[Value.ref b] below meth c H locs cells slots Q (F0 m 687 ls [])) : W p l e room_1 s m #[Value.ref b] below meth c H locs cells slots Q (F0 m 608 ls []) := by
  obtain ⟨hx, hb, hml, hown, hts, hX, hbl, hEK, hAE⟩ := id C
  refine lv_aload_n hx hb dL_law_608 rfl (lv_at hl 2 rfl) ?_
  refine lw_arg C hl hS (kv := 1) (rest := [.ref (E.1 0)]) (by decide) h1 dL_law_609 dL_law_610 dL_law_611 dL_law_612 dL_law_613 ?_
  refine lw_arg C hl hS (kv := 2) (rest := [.int (xs (i + 1).toNatClampNeg), .ref (E.1 0)]) (by decide) h2 dL_law_614 dL_law_615 dL_law_616 dL_law_617 dL_law_618 ?_
  refine lw_call (E := E) (as := [.int (xs (i + 1).toNatClampNeg), .int (xs (i + 2).toNatClampNeg)]) (a := 0) (rest := []) hx hb hml hts hown hEK hAE (ct_X8_talk l) rv_X8_talk (cwV 2 hts (lw_good gL_law_X8_talk) rfl rfl rfl (by decide +kernel) ⟨Nat.le_of_ble_eq_true rfl, Nat.le_of_ble_eq_true rfl⟩) ((lc_talk (xs (i + 1).toNatClampNeg) (xs (i + 2).toNatClampNeg)) S n hR) hP hS hl.1 (Nat.le_of_ble_eq_true rfl) dL_law_619 hf (fun r S1 H locs hK hP hS => ?_)
  obtain ⟨x, rfl, hK⟩ := hK
  refine W.eq (g2 := F0 m 622 ls [.int x]) rfl ?_
  refine lv_aload_n hx hb dL_law_622 rfl (lv_at hl 1 rfl) ?_
  refine lw_arg C hl hS (kv := 1) (rest := [.ref (E.1 29), .int x]) (by decide) h1 dL_law_623 dL_law_624 dL_law_625 dL_law_626 dL_law_627 ?_
  refine lw_arg C hl hS (kv := 2) (rest := [.int (xs (i + 1).toNatClampNeg), .ref (E.1 29), .int x]) (by decide) h2 dL_law_628 dL_law_629 dL_law_630 dL_law_631 dL_law_632 ?_
  refine lw_call (E := E) (as := [.int (xs (i + 1).toNatClampNeg), .int (xs (i + 2).toNatClampNeg)]) (a := 29) (rest := [.int x]) hx hb hml hts hown hEK hAE (ct_X9_talk l) rv_X9_talk (cwV 2 hts (lw_good gL_law_X9_talk) rfl rfl rfl (by decide +kernel) ⟨Nat.le_of_ble_eq_true rfl, Nat.le_of_ble_eq_true rfl⟩) (hK) hP hS hl.1 (Nat.le_of_ble_eq_true rfl) dL_law_633 hf (fun r S1 H locs hK hP hS => ?_)
  obtain ⟨rfl, n2, hR2⟩ := hK
  refine W.eq (g2 := F0 m 636 ls [.int x, .int x]) rfl ?_
  exact lv_icmp_eq (tgt := 687) hx hb dL_law_636 (by decide) (fun _ => hB S1 n2 H locs hR2 hP hS) (fun g9 => absurd rfl g9)
set_option maxHeartbeats 2000000 in
theorem lw_k18 (C : lw_Cx p s m c b L xs E) (h1 : vp_in (i + 1) L) (h2 : vp_in (i + 2) L) (h3 : vp_in (i + 3) L) (hf : cells + 0 ≤ room_1.cells ∧ slots + 0 ≤ room_1.slots) (hl : lv_has ls 4 (lw_lv E b i)) (hR : lw_R S n) (hP : va_P E.2.1 vwCl (mn_wl E S) H) (hS : va_S (fun q => s.heap.size ≤ q) s.heap H locs)
    (hB : ∀ (S : mn_S) (n : Nat) (H : Heap) (locs : List Loc), lw_R S n → va_P E.2.1 vwCl (mn_wl E S) H → va_S (fun q => s.heap.size ≤ q) s.heap H locs → W p l e room_1 s m #[Value.ref b] below meth c H locs cells slots Q (F0 m 687 ls [])) : W p l e room_1 s m #[Value.ref b] below meth c H locs cells slots Q (F0 m 641 ls []) := by
  obtain ⟨hx, hb, hml, hown, hts, hX, hbl, hEK, hAE⟩ := id C
  refine lv_aload_n hx hb dL_law_641 rfl (lv_at hl 2 rfl) ?_
  refine lw_arg C hl hS (kv := 1) (rest := [.ref (E.1 0)]) (by decide) h1 dL_law_642 dL_law_643 dL_law_644 dL_law_645 dL_law_646 ?_
  refine lw_arg C hl hS (kv := 2) (rest := [.int (xs (i + 1).toNatClampNeg), .ref (E.1 0)]) (by decide) h2 dL_law_647 dL_law_648 dL_law_649 dL_law_650 dL_law_651 ?_
  refine lw_call (E := E) (as := [.int (xs (i + 1).toNatClampNeg), .int (xs (i + 2).toNatClampNeg)]) (a := 0) (rest := []) hx hb hml hts hown hEK hAE (ct_X8_fewest l) rv_X8_fewest (cwV 2 hts (lw_good gL_law_X8_fewest) rfl rfl rfl (by decide +kernel) ⟨Nat.le_of_ble_eq_true rfl, Nat.le_of_ble_eq_true rfl⟩) ((lc_fewest (xs (i + 1).toNatClampNeg) (xs (i + 2).toNatClampNeg)) S n hR) hP hS hl.1 (Nat.le_of_ble_eq_true rfl) dL_law_652 hf (fun r S1 H locs hK hP hS => ?_)
  obtain ⟨x, rfl, hK⟩ := hK
  refine W.eq (g2 := F0 m 655 ls [.int x]) rfl ?_
  refine lv_aload_n hx hb dL_law_655 rfl (lv_at hl 1 rfl) ?_
  refine lw_arg C hl hS (kv := 1) (rest := [.ref (E.1 29), .int x]) (by decide) h1 dL_law_656 dL_law_657 dL_law_658 dL_law_659 dL_law_660 ?_
  refine lw_arg C hl hS (kv := 2) (rest := [.int (xs (i + 1).toNatClampNeg), .ref (E.1 29), .int x]) (by decide) h2 dL_law_661 dL_law_662 dL_law_663 dL_law_664 dL_law_665 ?_
  refine lw_call (E := E) (as := [.int (xs (i + 1).toNatClampNeg), .int (xs (i + 2).toNatClampNeg)]) (a := 29) (rest := [.int x]) hx hb hml hts hown hEK hAE (ct_X9_fewest l) rv_X9_fewest (cwV 2 hts (lw_good gL_law_X9_fewest) rfl rfl rfl (by decide +kernel) ⟨Nat.le_of_ble_eq_true rfl, Nat.le_of_ble_eq_true rfl⟩) (hK) hP hS hl.1 (Nat.le_of_ble_eq_true rfl) dL_law_666 hf (fun r S1 H locs hK hP hS => ?_)
  obtain ⟨rfl, n2, hR2⟩ := hK
  refine W.eq (g2 := F0 m 669 ls [.int x, .int x]) rfl ?_
  exact lv_icmp_eq (tgt := 687) hx hb dL_law_669 (by decide) (fun _ => hB S1 n2 H locs hR2 hP hS) (fun g9 => absurd rfl g9)
set_option maxHeartbeats 2000000 in
theorem lw_k19 (C : lw_Cx p s m c b L xs E) (h1 : vp_in (i + 1) L) (h2 : vp_in (i + 2) L) (h3 : vp_in (i + 3) L) (hf : cells + 0 ≤ room_1.cells ∧ slots + 0 ≤ room_1.slots) (hl : lv_has ls 4 (lw_lv E b i)) (hR : lw_R S n) (hP : va_P E.2.1 vwCl (mn_wl E S) H) (hS : va_S (fun q => s.heap.size ≤ q) s.heap H locs)
    (hB : ∀ (S : mn_S) (n : Nat) (H : Heap) (locs : List Loc), lw_R S n → va_P E.2.1 vwCl (mn_wl E S) H → va_S (fun q => s.heap.size ≤ q) s.heap H locs → W p l e room_1 s m #[Value.ref b] below meth c H locs cells slots Q (F0 m 687 ls [])) : W p l e room_1 s m #[Value.ref b] below meth c H locs cells slots Q (F0 m 674 ls []) := by
  obtain ⟨hx, hb, hml, hown, hts, hX, hbl, hEK, hAE⟩ := id C
  refine lv_aload_n hx hb dL_law_674 rfl (lv_at hl 2 rfl) ?_
  refine lw_call (E := E) (as := []) (a := 0) (rest := []) hx hb hml hts hown hEK hAE (ct_X8_found l) rv_X8_found (cwV 0 hts (lw_good gL_law_X8_found) rfl rfl rfl (by decide +kernel) ⟨Nat.le_of_ble_eq_true rfl, Nat.le_of_ble_eq_true rfl⟩) (lc_found S n hR) hP hS hl.1 (Nat.le_of_ble_eq_true rfl) dL_law_675 hf (fun r S1 H locs hK hP hS => ?_)
  obtain ⟨x, rfl, hK⟩ := hK
  refine W.eq (g2 := F0 m 678 ls [.int x]) rfl ?_
  refine lv_aload_n hx hb dL_law_678 rfl (lv_at hl 1 rfl) ?_
  refine lw_call (E := E) (as := []) (a := 29) (rest := [.int x]) hx hb hml hts hown hEK hAE (ct_X9_found l) rv_X9_found (cwV 0 hts (lw_good gL_law_X9_found) rfl rfl rfl (by decide +kernel) ⟨Nat.le_of_ble_eq_true rfl, Nat.le_of_ble_eq_true rfl⟩) (hK) hP hS hl.1 (Nat.le_of_ble_eq_true rfl) dL_law_679 hf (fun r S1 H locs hK hP hS => ?_)
  obtain ⟨rfl, n2, hR2⟩ := hK
  refine W.eq (g2 := F0 m 682 ls [.int x, .int x]) rfl ?_
  exact lv_icmp_eq (tgt := 687) hx hb dL_law_682 (by decide) (fun _ => hB S1 n2 H locs hR2 hP hS) (fun g9 => absurd rfl g9)
end LWC
