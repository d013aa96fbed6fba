/-! ===== the law: its instructions, its words, a call out of it ===== -/
theorem dL_0 : decode code 0 = .ok (.new 7, 3) := by decide +kernel
theorem dL_3 : decode code 3 = .ok (.dup, 1) := by decide +kernel
theorem dL_4 : decode code 4 = .ok (.invokespecial 9, 3) := by decide +kernel
theorem dL_7 : decode code 7 = .ok (.astore_n 1, 1) := by decide +kernel
theorem dL_8 : decode code 8 = .ok (.new 10, 3) := by decide +kernel
theorem dL_11 : decode code 11 = .ok (.dup, 1) := by decide +kernel
theorem dL_12 : decode code 12 = .ok (.invokespecial 12, 3) := by decide +kernel
theorem dL_15 : decode code 15 = .ok (.astore_n 2, 1) := by decide +kernel
theorem dL_16 : decode code 16 = .ok (.iconst 0, 1) := by decide +kernel
theorem dL_17 : decode code 17 = .ok (.istore_n 3, 1) := by decide +kernel
theorem dL_18 : decode code 18 = .ok (.iload_n 3, 1) := by decide +kernel
theorem dL_19 : decode code 19 = .ok (.aload_n 0, 1) := by decide +kernel
theorem dL_20 : decode code 20 = .ok (.arraylength, 1) := by decide +kernel
theorem dL_21 : decode code 21 = .ok (.iconst 4, 1) := by decide +kernel
theorem dL_22 : decode code 22 = .ok (.isub, 1) := by decide +kernel
theorem dL_23 : decode code 23 = .ok (.if_icmp .gt 516, 3) := by decide +kernel
theorem dL_26 : decode code 26 = .ok (.aload_n 0, 1) := by decide +kernel
theorem dL_27 : decode code 27 = .ok (.iload_n 3, 1) := by decide +kernel
theorem dL_28 : decode code 28 = .ok (.iaload, 1) := by decide +kernel
theorem dL_29 : decode code 29 = .ok (.bipush 15, 2) := by decide +kernel
theorem dL_31 : decode code 31 = .ok (.iand, 1) := by decide +kernel
theorem dL_32 : decode code 32 = .ok (.tableswitch 501 0 14 #[76, 139, 162, 185, 218, 251, 284, 317, 340, 373, 396, 429, 452, 465, 488], 76) := by decide +kernel
theorem dL_108 : decode code 108 = .ok (.aload_n 1, 1) := by decide +kernel
theorem dL_109 : decode code 109 = .ok (.aload_n 0, 1) := by decide +kernel
theorem dL_110 : decode code 110 = .ok (.iload_n 3, 1) := by decide +kernel
theorem dL_111 : decode code 111 = .ok (.iconst 1, 1) := by decide +kernel
theorem dL_112 : decode code 112 = .ok (.iadd, 1) := by decide +kernel
theorem dL_113 : decode code 113 = .ok (.iaload, 1) := by decide +kernel
theorem dL_114 : decode code 114 = .ok (.i2l, 1) := by decide +kernel
theorem dL_115 : decode code 115 = .ok (.bipush 32, 2) := by decide +kernel
theorem dL_117 : decode code 117 = .ok (.lshl, 1) := by decide +kernel
theorem dL_118 : decode code 118 = .ok (.aload_n 0, 1) := by decide +kernel
theorem dL_119 : decode code 119 = .ok (.iload_n 3, 1) := by decide +kernel
theorem dL_120 : decode code 120 = .ok (.iconst 2, 1) := by decide +kernel
theorem dL_121 : decode code 121 = .ok (.iadd, 1) := by decide +kernel
theorem dL_122 : decode code 122 = .ok (.iaload, 1) := by decide +kernel
theorem dL_123 : decode code 123 = .ok (.i2l, 1) := by decide +kernel
theorem dL_124 : decode code 124 = .ok (.ldc2_w 13, 3) := by decide +kernel
theorem dL_127 : decode code 127 = .ok (.land, 1) := by decide +kernel
theorem dL_128 : decode code 128 = .ok (.lor, 1) := by decide +kernel
theorem dL_129 : decode code 129 = .ok (.aload_n 0, 1) := by decide +kernel
theorem dL_130 : decode code 130 = .ok (.iload_n 3, 1) := by decide +kernel
theorem dL_131 : decode code 131 = .ok (.iconst 3, 1) := by decide +kernel
theorem dL_132 : decode code 132 = .ok (.iadd, 1) := by decide +kernel
theorem dL_133 : decode code 133 = .ok (.iaload, 1) := by decide +kernel
theorem dL_134 : decode code 134 = .ok (.invokevirtual 15, 3) := by decide +kernel
theorem dL_137 : decode code 137 = .ok (.aload_n 2, 1) := by decide +kernel
theorem dL_138 : decode code 138 = .ok (.aload_n 0, 1) := by decide +kernel
theorem dL_139 : decode code 139 = .ok (.iload_n 3, 1) := by decide +kernel
theorem dL_140 : decode code 140 = .ok (.iconst 1, 1) := by decide +kernel
theorem dL_141 : decode code 141 = .ok (.iadd, 1) := by decide +kernel
theorem dL_142 : decode code 142 = .ok (.iaload, 1) := by decide +kernel
theorem dL_143 : decode code 143 = .ok (.i2l, 1) := by decide +kernel
theorem dL_144 : decode code 144 = .ok (.bipush 32, 2) := by decide +kernel
theorem dL_146 : decode code 146 = .ok (.lshl, 1) := by decide +kernel
theorem dL_147 : decode code 147 = .ok (.aload_n 0, 1) := by decide +kernel
theorem dL_148 : decode code 148 = .ok (.iload_n 3, 1) := by decide +kernel
theorem dL_149 : decode code 149 = .ok (.iconst 2, 1) := by decide +kernel
theorem dL_150 : decode code 150 = .ok (.iadd, 1) := by decide +kernel
theorem dL_151 : decode code 151 = .ok (.iaload, 1) := by decide +kernel
theorem dL_152 : decode code 152 = .ok (.i2l, 1) := by decide +kernel
theorem dL_153 : decode code 153 = .ok (.ldc2_w 13, 3) := by decide +kernel
theorem dL_156 : decode code 156 = .ok (.land, 1) := by decide +kernel
theorem dL_157 : decode code 157 = .ok (.lor, 1) := by decide +kernel
theorem dL_158 : decode code 158 = .ok (.aload_n 0, 1) := by decide +kernel
theorem dL_159 : decode code 159 = .ok (.iload_n 3, 1) := by decide +kernel
theorem dL_160 : decode code 160 = .ok (.iconst 3, 1) := by decide +kernel
theorem dL_161 : decode code 161 = .ok (.iadd, 1) := by decide +kernel
theorem dL_162 : decode code 162 = .ok (.iaload, 1) := by decide +kernel
theorem dL_163 : decode code 163 = .ok (.invokevirtual 19, 3) := by decide +kernel
theorem dL_166 : decode code 166 = .ok (.if_icmp .eq 367, 3) := by decide +kernel
theorem dL_169 : decode code 169 = .ok (.iconst 0, 1) := by decide +kernel
theorem dL_170 : decode code 170 = .ok (.ireturn, 1) := by decide +kernel
theorem dL_171 : decode code 171 = .ok (.aload_n 1, 1) := by decide +kernel
theorem dL_172 : decode code 172 = .ok (.aload_n 0, 1) := by decide +kernel
theorem dL_173 : decode code 173 = .ok (.iload_n 3, 1) := by decide +kernel
theorem dL_174 : decode code 174 = .ok (.iconst 1, 1) := by decide +kernel
theorem dL_175 : decode code 175 = .ok (.iadd, 1) := by decide +kernel
theorem dL_176 : decode code 176 = .ok (.iaload, 1) := by decide +kernel
theorem dL_177 : decode code 177 = .ok (.invokevirtual 20, 3) := by decide +kernel
theorem dL_180 : decode code 180 = .ok (.aload_n 2, 1) := by decide +kernel
theorem dL_181 : decode code 181 = .ok (.aload_n 0, 1) := by decide +kernel
theorem dL_182 : decode code 182 = .ok (.iload_n 3, 1) := by decide +kernel
theorem dL_183 : decode code 183 = .ok (.iconst 1, 1) := by decide +kernel
theorem dL_184 : decode code 184 = .ok (.iadd, 1) := by decide +kernel
theorem dL_185 : decode code 185 = .ok (.iaload, 1) := by decide +kernel
theorem dL_186 : decode code 186 = .ok (.invokevirtual 24, 3) := by decide +kernel
theorem dL_189 : decode code 189 = .ok (.if_icmp .eq 344, 3) := by decide +kernel
theorem dL_192 : decode code 192 = .ok (.iconst 0, 1) := by decide +kernel
theorem dL_193 : decode code 193 = .ok (.ireturn, 1) := by decide +kernel
theorem dL_194 : decode code 194 = .ok (.aload_n 1, 1) := by decide +kernel
theorem dL_195 : decode code 195 = .ok (.aload_n 0, 1) := by decide +kernel
theorem dL_196 : decode code 196 = .ok (.iload_n 3, 1) := by decide +kernel
theorem dL_197 : decode code 197 = .ok (.iconst 1, 1) := by decide +kernel
theorem dL_198 : decode code 198 = .ok (.iadd, 1) := by decide +kernel
theorem dL_199 : decode code 199 = .ok (.iaload, 1) := by decide +kernel
theorem dL_200 : decode code 200 = .ok (.invokevirtual 25, 3) := by decide +kernel
theorem dL_203 : decode code 203 = .ok (.aload_n 2, 1) := by decide +kernel
theorem dL_204 : decode code 204 = .ok (.aload_n 0, 1) := by decide +kernel
theorem dL_205 : decode code 205 = .ok (.iload_n 3, 1) := by decide +kernel
theorem dL_206 : decode code 206 = .ok (.iconst 1, 1) := by decide +kernel
theorem dL_207 : decode code 207 = .ok (.iadd, 1) := by decide +kernel
theorem dL_208 : decode code 208 = .ok (.iaload, 1) := by decide +kernel
theorem dL_209 : decode code 209 = .ok (.invokevirtual 28, 3) := by decide +kernel
theorem dL_212 : decode code 212 = .ok (.if_icmp .eq 321, 3) := by decide +kernel
theorem dL_215 : decode code 215 = .ok (.iconst 0, 1) := by decide +kernel
theorem dL_216 : decode code 216 = .ok (.ireturn, 1) := by decide +kernel
theorem dL_217 : decode code 217 = .ok (.aload_n 1, 1) := by decide +kernel
theorem dL_218 : decode code 218 = .ok (.aload_n 0, 1) := by decide +kernel
theorem dL_219 : decode code 219 = .ok (.iload_n 3, 1) := by decide +kernel
theorem dL_220 : decode code 220 = .ok (.iconst 1, 1) := by decide +kernel
theorem dL_221 : decode code 221 = .ok (.iadd, 1) := by decide +kernel
theorem dL_222 : decode code 222 = .ok (.iaload, 1) := by decide +kernel
theorem dL_223 : decode code 223 = .ok (.aload_n 0, 1) := by decide +kernel
theorem dL_224 : decode code 224 = .ok (.iload_n 3, 1) := by decide +kernel
theorem dL_225 : decode code 225 = .ok (.iconst 2, 1) := by decide +kernel
theorem dL_226 : decode code 226 = .ok (.iadd, 1) := by decide +kernel
theorem dL_227 : decode code 227 = .ok (.iaload, 1) := by decide +kernel
theorem dL_228 : decode code 228 = .ok (.invokevirtual 29, 3) := by decide +kernel
theorem dL_231 : decode code 231 = .ok (.aload_n 2, 1) := by decide +kernel
theorem dL_232 : decode code 232 = .ok (.aload_n 0, 1) := by decide +kernel
theorem dL_233 : decode code 233 = .ok (.iload_n 3, 1) := by decide +kernel
theorem dL_234 : decode code 234 = .ok (.iconst 1, 1) := by decide +kernel
theorem dL_235 : decode code 235 = .ok (.iadd, 1) := by decide +kernel
theorem dL_236 : decode code 236 = .ok (.iaload, 1) := by decide +kernel
theorem dL_237 : decode code 237 = .ok (.aload_n 0, 1) := by decide +kernel
theorem dL_238 : decode code 238 = .ok (.iload_n 3, 1) := by decide +kernel
theorem dL_239 : decode code 239 = .ok (.iconst 2, 1) := by decide +kernel
theorem dL_240 : decode code 240 = .ok (.iadd, 1) := by decide +kernel
theorem dL_241 : decode code 241 = .ok (.iaload, 1) := by decide +kernel
theorem dL_242 : decode code 242 = .ok (.invokevirtual 33, 3) := by decide +kernel
theorem dL_245 : decode code 245 = .ok (.if_icmp .eq 288, 3) := by decide +kernel
theorem dL_248 : decode code 248 = .ok (.iconst 0, 1) := by decide +kernel
theorem dL_249 : decode code 249 = .ok (.ireturn, 1) := by decide +kernel
theorem dL_250 : decode code 250 = .ok (.aload_n 1, 1) := by decide +kernel
theorem dL_251 : decode code 251 = .ok (.aload_n 0, 1) := by decide +kernel
theorem dL_252 : decode code 252 = .ok (.iload_n 3, 1) := by decide +kernel
theorem dL_253 : decode code 253 = .ok (.iconst 1, 1) := by decide +kernel
theorem dL_254 : decode code 254 = .ok (.iadd, 1) := by decide +kernel
theorem dL_255 : decode code 255 = .ok (.iaload, 1) := by decide +kernel
theorem dL_256 : decode code 256 = .ok (.aload_n 0, 1) := by decide +kernel
theorem dL_257 : decode code 257 = .ok (.iload_n 3, 1) := by decide +kernel
theorem dL_258 : decode code 258 = .ok (.iconst 2, 1) := by decide +kernel
theorem dL_259 : decode code 259 = .ok (.iadd, 1) := by decide +kernel
theorem dL_260 : decode code 260 = .ok (.iaload, 1) := by decide +kernel
theorem dL_261 : decode code 261 = .ok (.invokevirtual 34, 3) := by decide +kernel
theorem dL_264 : decode code 264 = .ok (.aload_n 2, 1) := by decide +kernel
theorem dL_265 : decode code 265 = .ok (.aload_n 0, 1) := by decide +kernel
theorem dL_266 : decode code 266 = .ok (.iload_n 3, 1) := by decide +kernel
theorem dL_267 : decode code 267 = .ok (.iconst 1, 1) := by decide +kernel
theorem dL_268 : decode code 268 = .ok (.iadd, 1) := by decide +kernel
theorem dL_269 : decode code 269 = .ok (.iaload, 1) := by decide +kernel
theorem dL_270 : decode code 270 = .ok (.aload_n 0, 1) := by decide +kernel
theorem dL_271 : decode code 271 = .ok (.iload_n 3, 1) := by decide +kernel
theorem dL_272 : decode code 272 = .ok (.iconst 2, 1) := by decide +kernel
theorem dL_273 : decode code 273 = .ok (.iadd, 1) := by decide +kernel
theorem dL_274 : decode code 274 = .ok (.iaload, 1) := by decide +kernel
theorem dL_275 : decode code 275 = .ok (.invokevirtual 37, 3) := by decide +kernel
theorem dL_278 : decode code 278 = .ok (.if_icmp .eq 255, 3) := by decide +kernel
theorem dL_281 : decode code 281 = .ok (.iconst 0, 1) := by decide +kernel
theorem dL_282 : decode code 282 = .ok (.ireturn, 1) := by decide +kernel
theorem dL_283 : decode code 283 = .ok (.aload_n 1, 1) := by decide +kernel
theorem dL_284 : decode code 284 = .ok (.aload_n 0, 1) := by decide +kernel
theorem dL_285 : decode code 285 = .ok (.iload_n 3, 1) := by decide +kernel
theorem dL_286 : decode code 286 = .ok (.iconst 1, 1) := by decide +kernel
theorem dL_287 : decode code 287 = .ok (.iadd, 1) := by decide +kernel
theorem dL_288 : decode code 288 = .ok (.iaload, 1) := by decide +kernel
theorem dL_289 : decode code 289 = .ok (.aload_n 0, 1) := by decide +kernel
theorem dL_290 : decode code 290 = .ok (.iload_n 3, 1) := by decide +kernel
theorem dL_291 : decode code 291 = .ok (.iconst 2, 1) := by decide +kernel
theorem dL_292 : decode code 292 = .ok (.iadd, 1) := by decide +kernel
theorem dL_293 : decode code 293 = .ok (.iaload, 1) := by decide +kernel
theorem dL_294 : decode code 294 = .ok (.invokevirtual 38, 3) := by decide +kernel
theorem dL_297 : decode code 297 = .ok (.aload_n 2, 1) := by decide +kernel
theorem dL_298 : decode code 298 = .ok (.aload_n 0, 1) := by decide +kernel
theorem dL_299 : decode code 299 = .ok (.iload_n 3, 1) := by decide +kernel
theorem dL_300 : decode code 300 = .ok (.iconst 1, 1) := by decide +kernel
theorem dL_301 : decode code 301 = .ok (.iadd, 1) := by decide +kernel
theorem dL_302 : decode code 302 = .ok (.iaload, 1) := by decide +kernel
theorem dL_303 : decode code 303 = .ok (.aload_n 0, 1) := by decide +kernel
theorem dL_304 : decode code 304 = .ok (.iload_n 3, 1) := by decide +kernel
theorem dL_305 : decode code 305 = .ok (.iconst 2, 1) := by decide +kernel
theorem dL_306 : decode code 306 = .ok (.iadd, 1) := by decide +kernel
theorem dL_307 : decode code 307 = .ok (.iaload, 1) := by decide +kernel
theorem dL_308 : decode code 308 = .ok (.invokevirtual 41, 3) := by decide +kernel
theorem dL_311 : decode code 311 = .ok (.if_icmp .eq 222, 3) := by decide +kernel
theorem dL_314 : decode code 314 = .ok (.iconst 0, 1) := by decide +kernel
theorem dL_315 : decode code 315 = .ok (.ireturn, 1) := by decide +kernel
theorem dL_316 : decode code 316 = .ok (.aload_n 1, 1) := by decide +kernel
theorem dL_317 : decode code 317 = .ok (.aload_n 0, 1) := by decide +kernel
theorem dL_318 : decode code 318 = .ok (.iload_n 3, 1) := by decide +kernel
theorem dL_319 : decode code 319 = .ok (.iconst 1, 1) := by decide +kernel
theorem dL_320 : decode code 320 = .ok (.iadd, 1) := by decide +kernel
theorem dL_321 : decode code 321 = .ok (.iaload, 1) := by decide +kernel
theorem dL_322 : decode code 322 = .ok (.aload_n 0, 1) := by decide +kernel
theorem dL_323 : decode code 323 = .ok (.iload_n 3, 1) := by decide +kernel
theorem dL_324 : decode code 324 = .ok (.iconst 2, 1) := by decide +kernel
theorem dL_325 : decode code 325 = .ok (.iadd, 1) := by decide +kernel
theorem dL_326 : decode code 326 = .ok (.iaload, 1) := by decide +kernel
theorem dL_327 : decode code 327 = .ok (.invokevirtual 42, 3) := by decide +kernel
theorem dL_330 : decode code 330 = .ok (.aload_n 2, 1) := by decide +kernel
theorem dL_331 : decode code 331 = .ok (.aload_n 0, 1) := by decide +kernel
theorem dL_332 : decode code 332 = .ok (.iload_n 3, 1) := by decide +kernel
theorem dL_333 : decode code 333 = .ok (.iconst 1, 1) := by decide +kernel
theorem dL_334 : decode code 334 = .ok (.iadd, 1) := by decide +kernel
theorem dL_335 : decode code 335 = .ok (.iaload, 1) := by decide +kernel
theorem dL_336 : decode code 336 = .ok (.aload_n 0, 1) := by decide +kernel
theorem dL_337 : decode code 337 = .ok (.iload_n 3, 1) := by decide +kernel
theorem dL_338 : decode code 338 = .ok (.iconst 2, 1) := by decide +kernel
theorem dL_339 : decode code 339 = .ok (.iadd, 1) := by decide +kernel
theorem dL_340 : decode code 340 = .ok (.iaload, 1) := by decide +kernel
theorem dL_341 : decode code 341 = .ok (.invokevirtual 45, 3) := by decide +kernel
theorem dL_344 : decode code 344 = .ok (.if_icmp .eq 189, 3) := by decide +kernel
theorem dL_347 : decode code 347 = .ok (.iconst 0, 1) := by decide +kernel
theorem dL_348 : decode code 348 = .ok (.ireturn, 1) := by decide +kernel
theorem dL_349 : decode code 349 = .ok (.aload_n 1, 1) := by decide +kernel
theorem dL_350 : decode code 350 = .ok (.aload_n 0, 1) := by decide +kernel
theorem dL_351 : decode code 351 = .ok (.iload_n 3, 1) := by decide +kernel
theorem dL_352 : decode code 352 = .ok (.iconst 1, 1) := by decide +kernel
theorem dL_353 : decode code 353 = .ok (.iadd, 1) := by decide +kernel
theorem dL_354 : decode code 354 = .ok (.iaload, 1) := by decide +kernel
theorem dL_355 : decode code 355 = .ok (.invokevirtual 46, 3) := by decide +kernel
theorem dL_358 : decode code 358 = .ok (.aload_n 2, 1) := by decide +kernel
theorem dL_359 : decode code 359 = .ok (.aload_n 0, 1) := by decide +kernel
theorem dL_360 : decode code 360 = .ok (.iload_n 3, 1) := by decide +kernel
theorem dL_361 : decode code 361 = .ok (.iconst 1, 1) := by decide +kernel
theorem dL_362 : decode code 362 = .ok (.iadd, 1) := by decide +kernel
theorem dL_363 : decode code 363 = .ok (.iaload, 1) := by decide +kernel
theorem dL_364 : decode code 364 = .ok (.invokevirtual 49, 3) := by decide +kernel
theorem dL_367 : decode code 367 = .ok (.if_icmp .eq 166, 3) := by decide +kernel
theorem dL_370 : decode code 370 = .ok (.iconst 0, 1) := by decide +kernel
theorem dL_371 : decode code 371 = .ok (.ireturn, 1) := by decide +kernel
theorem dL_372 : decode code 372 = .ok (.aload_n 1, 1) := by decide +kernel
theorem dL_373 : decode code 373 = .ok (.aload_n 0, 1) := by decide +kernel
theorem dL_374 : decode code 374 = .ok (.iload_n 3, 1) := by decide +kernel
theorem dL_375 : decode code 375 = .ok (.iconst 1, 1) := by decide +kernel
theorem dL_376 : decode code 376 = .ok (.iadd, 1) := by decide +kernel
theorem dL_377 : decode code 377 = .ok (.iaload, 1) := by decide +kernel
theorem dL_378 : decode code 378 = .ok (.aload_n 0, 1) := by decide +kernel
theorem dL_379 : decode code 379 = .ok (.iload_n 3, 1) := by decide +kernel
theorem dL_380 : decode code 380 = .ok (.iconst 2, 1) := by decide +kernel
theorem dL_381 : decode code 381 = .ok (.iadd, 1) := by decide +kernel
theorem dL_382 : decode code 382 = .ok (.iaload, 1) := by decide +kernel
theorem dL_383 : decode code 383 = .ok (.invokevirtual 50, 3) := by decide +kernel
theorem dL_386 : decode code 386 = .ok (.aload_n 2, 1) := by decide +kernel
theorem dL_387 : decode code 387 = .ok (.aload_n 0, 1) := by decide +kernel
theorem dL_388 : decode code 388 = .ok (.iload_n 3, 1) := by decide +kernel
theorem dL_389 : decode code 389 = .ok (.iconst 1, 1) := by decide +kernel
theorem dL_390 : decode code 390 = .ok (.iadd, 1) := by decide +kernel
theorem dL_391 : decode code 391 = .ok (.iaload, 1) := by decide +kernel
theorem dL_392 : decode code 392 = .ok (.aload_n 0, 1) := by decide +kernel
theorem dL_393 : decode code 393 = .ok (.iload_n 3, 1) := by decide +kernel
theorem dL_394 : decode code 394 = .ok (.iconst 2, 1) := by decide +kernel
theorem dL_395 : decode code 395 = .ok (.iadd, 1) := by decide +kernel
theorem dL_396 : decode code 396 = .ok (.iaload, 1) := by decide +kernel
theorem dL_397 : decode code 397 = .ok (.invokevirtual 53, 3) := by decide +kernel
theorem dL_400 : decode code 400 = .ok (.if_icmp .eq 133, 3) := by decide +kernel
theorem dL_403 : decode code 403 = .ok (.iconst 0, 1) := by decide +kernel
theorem dL_404 : decode code 404 = .ok (.ireturn, 1) := by decide +kernel
theorem dL_405 : decode code 405 = .ok (.aload_n 1, 1) := by decide +kernel
theorem dL_406 : decode code 406 = .ok (.aload_n 0, 1) := by decide +kernel
theorem dL_407 : decode code 407 = .ok (.iload_n 3, 1) := by decide +kernel
theorem dL_408 : decode code 408 = .ok (.iconst 1, 1) := by decide +kernel
theorem dL_409 : decode code 409 = .ok (.iadd, 1) := by decide +kernel
theorem dL_410 : decode code 410 = .ok (.iaload, 1) := by decide +kernel
theorem dL_411 : decode code 411 = .ok (.invokevirtual 54, 3) := by decide +kernel
theorem dL_414 : decode code 414 = .ok (.aload_n 2, 1) := by decide +kernel
theorem dL_415 : decode code 415 = .ok (.aload_n 0, 1) := by decide +kernel
theorem dL_416 : decode code 416 = .ok (.iload_n 3, 1) := by decide +kernel
theorem dL_417 : decode code 417 = .ok (.iconst 1, 1) := by decide +kernel
theorem dL_418 : decode code 418 = .ok (.iadd, 1) := by decide +kernel
theorem dL_419 : decode code 419 = .ok (.iaload, 1) := by decide +kernel
theorem dL_420 : decode code 420 = .ok (.invokevirtual 57, 3) := by decide +kernel
theorem dL_423 : decode code 423 = .ok (.if_icmp .eq 110, 3) := by decide +kernel
theorem dL_426 : decode code 426 = .ok (.iconst 0, 1) := by decide +kernel
theorem dL_427 : decode code 427 = .ok (.ireturn, 1) := by decide +kernel
theorem dL_428 : decode code 428 = .ok (.aload_n 1, 1) := by decide +kernel
theorem dL_429 : decode code 429 = .ok (.aload_n 0, 1) := by decide +kernel
theorem dL_430 : decode code 430 = .ok (.iload_n 3, 1) := by decide +kernel
theorem dL_431 : decode code 431 = .ok (.iconst 1, 1) := by decide +kernel
theorem dL_432 : decode code 432 = .ok (.iadd, 1) := by decide +kernel
theorem dL_433 : decode code 433 = .ok (.iaload, 1) := by decide +kernel
theorem dL_434 : decode code 434 = .ok (.aload_n 0, 1) := by decide +kernel
theorem dL_435 : decode code 435 = .ok (.iload_n 3, 1) := by decide +kernel
theorem dL_436 : decode code 436 = .ok (.iconst 2, 1) := by decide +kernel
theorem dL_437 : decode code 437 = .ok (.iadd, 1) := by decide +kernel
theorem dL_438 : decode code 438 = .ok (.iaload, 1) := by decide +kernel
theorem dL_439 : decode code 439 = .ok (.invokevirtual 58, 3) := by decide +kernel
theorem dL_442 : decode code 442 = .ok (.aload_n 2, 1) := by decide +kernel
theorem dL_443 : decode code 443 = .ok (.aload_n 0, 1) := by decide +kernel
theorem dL_444 : decode code 444 = .ok (.iload_n 3, 1) := by decide +kernel
theorem dL_445 : decode code 445 = .ok (.iconst 1, 1) := by decide +kernel
theorem dL_446 : decode code 446 = .ok (.iadd, 1) := by decide +kernel
theorem dL_447 : decode code 447 = .ok (.iaload, 1) := by decide +kernel
theorem dL_448 : decode code 448 = .ok (.aload_n 0, 1) := by decide +kernel
theorem dL_449 : decode code 449 = .ok (.iload_n 3, 1) := by decide +kernel
theorem dL_450 : decode code 450 = .ok (.iconst 2, 1) := by decide +kernel
theorem dL_451 : decode code 451 = .ok (.iadd, 1) := by decide +kernel
theorem dL_452 : decode code 452 = .ok (.iaload, 1) := by decide +kernel
theorem dL_453 : decode code 453 = .ok (.invokevirtual 61, 3) := by decide +kernel
theorem dL_456 : decode code 456 = .ok (.if_icmp .eq 77, 3) := by decide +kernel
theorem dL_459 : decode code 459 = .ok (.iconst 0, 1) := by decide +kernel
theorem dL_460 : decode code 460 = .ok (.ireturn, 1) := by decide +kernel
theorem dL_461 : decode code 461 = .ok (.aload_n 1, 1) := by decide +kernel
theorem dL_462 : decode code 462 = .ok (.aload_n 0, 1) := by decide +kernel
theorem dL_463 : decode code 463 = .ok (.iload_n 3, 1) := by decide +kernel
theorem dL_464 : decode code 464 = .ok (.iconst 1, 1) := by decide +kernel
theorem dL_465 : decode code 465 = .ok (.iadd, 1) := by decide +kernel
theorem dL_466 : decode code 466 = .ok (.iaload, 1) := by decide +kernel
theorem dL_467 : decode code 467 = .ok (.invokevirtual 62, 3) := by decide +kernel
theorem dL_470 : decode code 470 = .ok (.aload_n 2, 1) := by decide +kernel
theorem dL_471 : decode code 471 = .ok (.aload_n 0, 1) := by decide +kernel
theorem dL_472 : decode code 472 = .ok (.iload_n 3, 1) := by decide +kernel
theorem dL_473 : decode code 473 = .ok (.iconst 1, 1) := by decide +kernel
theorem dL_474 : decode code 474 = .ok (.iadd, 1) := by decide +kernel
theorem dL_475 : decode code 475 = .ok (.iaload, 1) := by decide +kernel
theorem dL_476 : decode code 476 = .ok (.invokevirtual 65, 3) := by decide +kernel
theorem dL_479 : decode code 479 = .ok (.if_icmp .eq 54, 3) := by decide +kernel
theorem dL_482 : decode code 482 = .ok (.iconst 0, 1) := by decide +kernel
theorem dL_483 : decode code 483 = .ok (.ireturn, 1) := by decide +kernel
theorem dL_484 : decode code 484 = .ok (.aload_n 1, 1) := by decide +kernel
theorem dL_485 : decode code 485 = .ok (.invokevirtual 66, 3) := by decide +kernel
theorem dL_488 : decode code 488 = .ok (.aload_n 2, 1) := by decide +kernel
theorem dL_489 : decode code 489 = .ok (.invokevirtual 70, 3) := by decide +kernel
theorem dL_492 : decode code 492 = .ok (.if_icmp .eq 41, 3) := by decide +kernel
theorem dL_495 : decode code 495 = .ok (.iconst 0, 1) := by decide +kernel
theorem dL_496 : decode code 496 = .ok (.ireturn, 1) := by decide +kernel
theorem dL_497 : decode code 497 = .ok (.aload_n 1, 1) := by decide +kernel
theorem dL_498 : decode code 498 = .ok (.aload_n 0, 1) := by decide +kernel
theorem dL_499 : decode code 499 = .ok (.iload_n 3, 1) := by decide +kernel
theorem dL_500 : decode code 500 = .ok (.iconst 1, 1) := by decide +kernel
theorem dL_501 : decode code 501 = .ok (.iadd, 1) := by decide +kernel
theorem dL_502 : decode code 502 = .ok (.iaload, 1) := by decide +kernel
theorem dL_503 : decode code 503 = .ok (.invokevirtual 71, 3) := by decide +kernel
theorem dL_506 : decode code 506 = .ok (.aload_n 2, 1) := by decide +kernel
theorem dL_507 : decode code 507 = .ok (.aload_n 0, 1) := by decide +kernel
theorem dL_508 : decode code 508 = .ok (.iload_n 3, 1) := by decide +kernel
theorem dL_509 : decode code 509 = .ok (.iconst 1, 1) := by decide +kernel
theorem dL_510 : decode code 510 = .ok (.iadd, 1) := by decide +kernel
theorem dL_511 : decode code 511 = .ok (.iaload, 1) := by decide +kernel
theorem dL_512 : decode code 512 = .ok (.invokevirtual 74, 3) := by decide +kernel
theorem dL_515 : decode code 515 = .ok (.if_icmp .eq 18, 3) := by decide +kernel
theorem dL_518 : decode code 518 = .ok (.iconst 0, 1) := by decide +kernel
theorem dL_519 : decode code 519 = .ok (.ireturn, 1) := by decide +kernel
theorem dL_520 : decode code 520 = .ok (.aload_n 1, 1) := by decide +kernel
theorem dL_521 : decode code 521 = .ok (.invokevirtual 75, 3) := by decide +kernel
theorem dL_524 : decode code 524 = .ok (.aload_n 2, 1) := by decide +kernel
theorem dL_525 : decode code 525 = .ok (.invokevirtual 78, 3) := by decide +kernel
theorem dL_528 : decode code 528 = .ok (.if_icmp .eq 5, 3) := by decide +kernel
theorem dL_531 : decode code 531 = .ok (.iconst 0, 1) := by decide +kernel
theorem dL_532 : decode code 532 = .ok (.ireturn, 1) := by decide +kernel
theorem dL_533 : decode code 533 = .ok (.iinc 3 4, 3) := by decide +kernel
theorem dL_536 : decode code 536 = .ok (.goto (-518), 3) := by decide +kernel
theorem dL_539 : decode code 539 = .ok (.iconst 1, 1) := by decide +kernel
theorem dL_540 : decode code 540 = .ok (.ireturn, 1) := by decide +kernel
theorem jv_L_15 : jx_cv R_law 15 yX3_type cX3_type 6 (some .int) 2 := ⟨List.forall_mem_cons.mpr ⟨jx_mem 265 (by decide +kernel) (by decide +kernel), List.forall_mem_cons.mpr ⟨jx_mem 266 (by decide +kernel) (by decide +kernel), List.forall_mem_cons.mpr ⟨jx_mem 267 (by decide +kernel) (by decide +kernel), List.forall_mem_cons.mpr ⟨jx_mem 65 (by decide +kernel) (by decide +kernel), fun _ h => absurd h List.not_mem_nil⟩⟩⟩⟩, jx_mem 268 (by decide +kernel) (by decide +kernel), by decide +kernel, by decide +kernel, by decide +kernel⟩
theorem jv_L_20 : jx_cv R_law 20 yX3_read cX3_read 3 (some .int) 1 := ⟨List.forall_mem_cons.mpr ⟨jx_mem 272 (by decide +kernel) (by decide +kernel), List.forall_mem_cons.mpr ⟨jx_mem 273 (by decide +kernel) (by decide +kernel), List.forall_mem_cons.mpr ⟨jx_mem 274 (by decide +kernel) (by decide +kernel), List.forall_mem_cons.mpr ⟨jx_mem 65 (by decide +kernel) (by decide +kernel), fun _ h => absurd h List.not_mem_nil⟩⟩⟩⟩, jx_mem 275 (by decide +kernel) (by decide +kernel), by decide +kernel, by decide +kernel, by decide +kernel⟩
theorem jv_L_25 : jx_cv R_law 25 yX3_told cX3_told 2 (some .int) 1 := ⟨List.forall_mem_cons.mpr ⟨jx_mem 514 (by decide +kernel) (by decide +kernel), List.forall_mem_cons.mpr ⟨jx_mem 515 (by decide +kernel) (by decide +kernel), List.forall_mem_cons.mpr ⟨jx_mem 516 (by decide +kernel) (by decide +kernel), List.forall_mem_cons.mpr ⟨jx_mem 65 (by decide +kernel) (by decide +kernel), fun _ h => absurd h List.not_mem_nil⟩⟩⟩⟩, jx_mem 517 (by decide +kernel) (by decide +kernel), by decide +kernel, by decide +kernel, by decide +kernel⟩
theorem jv_L_29 : jx_cv R_law 29 yX3_group cX3_group 4 (some .int) 2 := ⟨List.forall_mem_cons.mpr ⟨jx_mem 518 (by decide +kernel) (by decide +kernel), List.forall_mem_cons.mpr ⟨jx_mem 519 (by decide +kernel) (by decide +kernel), List.forall_mem_cons.mpr ⟨jx_mem 520 (by decide +kernel) (by decide +kernel), List.forall_mem_cons.mpr ⟨jx_mem 65 (by decide +kernel) (by decide +kernel), fun _ h => absurd h List.not_mem_nil⟩⟩⟩⟩, jx_mem 521 (by decide +kernel) (by decide +kernel), by decide +kernel, by decide +kernel, by decide +kernel⟩
theorem jv_L_34 : jx_cv R_law 34 yX3_weather cX3_weather 3 (some .int) 2 := ⟨List.forall_mem_cons.mpr ⟨jx_mem 526 (by decide +kernel) (by decide +kernel), List.forall_mem_cons.mpr ⟨jx_mem 527 (by decide +kernel) (by decide +kernel), List.forall_mem_cons.mpr ⟨jx_mem 528 (by decide +kernel) (by decide +kernel), List.forall_mem_cons.mpr ⟨jx_mem 65 (by decide +kernel) (by decide +kernel), fun _ h => absurd h List.not_mem_nil⟩⟩⟩⟩, jx_mem 529 (by decide +kernel) (by decide +kernel), by decide +kernel, by decide +kernel, by decide +kernel⟩
theorem jv_L_38 : jx_cv R_law 38 yX3_cloud cX3_cloud 3 (some .int) 2 := ⟨List.forall_mem_cons.mpr ⟨jx_mem 530 (by decide +kernel) (by decide +kernel), List.forall_mem_cons.mpr ⟨jx_mem 531 (by decide +kernel) (by decide +kernel), List.forall_mem_cons.mpr ⟨jx_mem 532 (by decide +kernel) (by decide +kernel), List.forall_mem_cons.mpr ⟨jx_mem 65 (by decide +kernel) (by decide +kernel), fun _ h => absurd h List.not_mem_nil⟩⟩⟩⟩, jx_mem 533 (by decide +kernel) (by decide +kernel), by decide +kernel, by decide +kernel, by decide +kernel⟩
theorem jv_L_42 : jx_cv R_law 42 yX3_from cX3_from 3 (some .int) 2 := ⟨List.forall_mem_cons.mpr ⟨jx_mem 534 (by decide +kernel) (by decide +kernel), List.forall_mem_cons.mpr ⟨jx_mem 535 (by decide +kernel) (by decide +kernel), List.forall_mem_cons.mpr ⟨jx_mem 536 (by decide +kernel) (by decide +kernel), List.forall_mem_cons.mpr ⟨jx_mem 65 (by decide +kernel) (by decide +kernel), fun _ h => absurd h List.not_mem_nil⟩⟩⟩⟩, jx_mem 537 (by decide +kernel) (by decide +kernel), by decide +kernel, by decide +kernel, by decide +kernel⟩
theorem jv_L_46 : jx_cv R_law 46 yX3_active cX3_active 2 (some .int) 1 := ⟨List.forall_mem_cons.mpr ⟨jx_mem 551 (by decide +kernel) (by decide +kernel), List.forall_mem_cons.mpr ⟨jx_mem 552 (by decide +kernel) (by decide +kernel), List.forall_mem_cons.mpr ⟨jx_mem 553 (by decide +kernel) (by decide +kernel), List.forall_mem_cons.mpr ⟨jx_mem 65 (by decide +kernel) (by decide +kernel), fun _ h => absurd h List.not_mem_nil⟩⟩⟩⟩, jx_mem 554 (by decide +kernel) (by decide +kernel), by decide +kernel, by decide +kernel, by decide +kernel⟩
theorem jv_L_50 : jx_cv R_law 50 yX3_activeOne cX3_activeOne 3 (some .int) 2 := ⟨List.forall_mem_cons.mpr ⟨jx_mem 563 (by decide +kernel) (by decide +kernel), List.forall_mem_cons.mpr ⟨jx_mem 564 (by decide +kernel) (by decide +kernel), List.forall_mem_cons.mpr ⟨jx_mem 565 (by decide +kernel) (by decide +kernel), List.forall_mem_cons.mpr ⟨jx_mem 65 (by decide +kernel) (by decide +kernel), fun _ h => absurd h List.not_mem_nil⟩⟩⟩⟩, jx_mem 566 (by decide +kernel) (by decide +kernel), by decide +kernel, by decide +kernel, by decide +kernel⟩
theorem jv_L_54 : jx_cv R_law 54 yX3_least cX3_least 2 (some .int) 1 := ⟨List.forall_mem_cons.mpr ⟨jx_mem 571 (by decide +kernel) (by decide +kernel), List.forall_mem_cons.mpr ⟨jx_mem 572 (by decide +kernel) (by decide +kernel), List.forall_mem_cons.mpr ⟨jx_mem 573 (by decide +kernel) (by decide +kernel), List.forall_mem_cons.mpr ⟨jx_mem 65 (by decide +kernel) (by decide +kernel), fun _ h => absurd h List.not_mem_nil⟩⟩⟩⟩, jx_mem 574 (by decide +kernel) (by decide +kernel), by decide +kernel, by decide +kernel, by decide +kernel⟩
theorem jv_L_58 : jx_cv R_law 58 yX3_ceiling cX3_ceiling 3 (some .int) 2 := ⟨List.forall_mem_cons.mpr ⟨jx_mem 581 (by decide +kernel) (by decide +kernel), List.forall_mem_cons.mpr ⟨jx_mem 582 (by decide +kernel) (by decide +kernel), List.forall_mem_cons.mpr ⟨jx_mem 583 (by decide +kernel) (by decide +kernel), List.forall_mem_cons.mpr ⟨jx_mem 65 (by decide +kernel) (by decide +kernel), fun _ h => absurd h List.not_mem_nil⟩⟩⟩⟩, jx_mem 584 (by decide +kernel) (by decide +kernel), by decide +kernel, by decide +kernel, by decide +kernel⟩
theorem jv_L_62 : jx_cv R_law 62 yX3_next cX3_next 2 (some .int) 1 := ⟨List.forall_mem_cons.mpr ⟨jx_mem 597 (by decide +kernel) (by decide +kernel), List.forall_mem_cons.mpr ⟨jx_mem 598 (by decide +kernel) (by decide +kernel), List.forall_mem_cons.mpr ⟨jx_mem 599 (by decide +kernel) (by decide +kernel), List.forall_mem_cons.mpr ⟨jx_mem 65 (by decide +kernel) (by decide +kernel), fun _ h => absurd h List.not_mem_nil⟩⟩⟩⟩, jx_mem 600 (by decide +kernel) (by decide +kernel), by decide +kernel, by decide +kernel, by decide +kernel⟩
theorem jv_L_66 : jx_cv R_law 66 yX3_print cX3_print 2 (some .int) 0 := ⟨List.forall_mem_cons.mpr ⟨jx_mem 614 (by decide +kernel) (by decide +kernel), List.forall_mem_cons.mpr ⟨jx_mem 615 (by decide +kernel) (by decide +kernel), List.forall_mem_cons.mpr ⟨jx_mem 616 (by decide +kernel) (by decide +kernel), List.forall_mem_cons.mpr ⟨jx_mem 65 (by decide +kernel) (by decide +kernel), fun _ h => absurd h List.not_mem_nil⟩⟩⟩⟩, jx_mem 617 (by decide +kernel) (by decide +kernel), by decide +kernel, by decide +kernel, by decide +kernel⟩
theorem jv_L_71 : jx_cv R_law 71 yX3_character cX3_character 2 (some .int) 1 := ⟨List.forall_mem_cons.mpr ⟨jx_mem 618 (by decide +kernel) (by decide +kernel), List.forall_mem_cons.mpr ⟨jx_mem 619 (by decide +kernel) (by decide +kernel), List.forall_mem_cons.mpr ⟨jx_mem 620 (by decide +kernel) (by decide +kernel), List.forall_mem_cons.mpr ⟨jx_mem 65 (by decide +kernel) (by decide +kernel), fun _ h => absurd h List.not_mem_nil⟩⟩⟩⟩, jx_mem 621 (by decide +kernel) (by decide +kernel), by decide +kernel, by decide +kernel, by decide +kernel⟩
theorem jv_L_75 : jx_cv R_law 75 yX3_check cX3_check 2 (some .int) 0 := ⟨List.forall_mem_cons.mpr ⟨jx_mem 622 (by decide +kernel) (by decide +kernel), List.forall_mem_cons.mpr ⟨jx_mem 623 (by decide +kernel) (by decide +kernel), List.forall_mem_cons.mpr ⟨jx_mem 624 (by decide +kernel) (by decide +kernel), List.forall_mem_cons.mpr ⟨jx_mem 65 (by decide +kernel) (by decide +kernel), fun _ h => absurd h List.not_mem_nil⟩⟩⟩⟩, jx_mem 625 (by decide +kernel) (by decide +kernel), by decide +kernel, by decide +kernel, by decide +kernel⟩
theorem jv_L_19 : jx_cv R_law 19 yX4_type cX4_type 7 (some .int) 2 := ⟨List.forall_mem_cons.mpr ⟨jx_mem 758 (by decide +kernel) (by decide +kernel), List.forall_mem_cons.mpr ⟨jx_mem 759 (by decide +kernel) (by decide +kernel), List.forall_mem_cons.mpr ⟨jx_mem 760 (by decide +kernel) (by decide +kernel), List.forall_mem_cons.mpr ⟨jx_mem 69 (by decide +kernel) (by decide +kernel), fun _ h => absurd h List.not_mem_nil⟩⟩⟩⟩, jx_mem 761 (by decide +kernel) (by decide +kernel), by decide +kernel, by decide +kernel, by decide +kernel⟩
theorem jv_L_24 : jx_cv R_law 24 yX4_read cX4_read 5 (some .int) 1 := ⟨List.forall_mem_cons.mpr ⟨jx_mem 765 (by decide +kernel) (by decide +kernel), List.forall_mem_cons.mpr ⟨jx_mem 766 (by decide +kernel) (by decide +kernel), List.forall_mem_cons.mpr ⟨jx_mem 767 (by decide +kernel) (by decide +kernel), List.forall_mem_cons.mpr ⟨jx_mem 69 (by decide +kernel) (by decide +kernel), fun _ h => absurd h List.not_mem_nil⟩⟩⟩⟩, jx_mem 768 (by decide +kernel) (by decide +kernel), by decide +kernel, by decide +kernel, by decide +kernel⟩
theorem jv_L_28 : jx_cv R_law 28 yX4_told cX4_told 2 (some .int) 1 := ⟨List.forall_mem_cons.mpr ⟨jx_mem 903 (by decide +kernel) (by decide +kernel), List.forall_mem_cons.mpr ⟨jx_mem 904 (by decide +kernel) (by decide +kernel), List.forall_mem_cons.mpr ⟨jx_mem 905 (by decide +kernel) (by decide +kernel), List.forall_mem_cons.mpr ⟨jx_mem 69 (by decide +kernel) (by decide +kernel), fun _ h => absurd h List.not_mem_nil⟩⟩⟩⟩, jx_mem 906 (by decide +kernel) (by decide +kernel), by decide +kernel, by decide +kernel, by decide +kernel⟩
theorem jv_L_33 : jx_cv R_law 33 yX4_group cX4_group 3 (some .int) 2 := ⟨List.forall_mem_cons.mpr ⟨jx_mem 907 (by decide +kernel) (by decide +kernel), List.forall_mem_cons.mpr ⟨jx_mem 908 (by decide +kernel) (by decide +kernel), List.forall_mem_cons.mpr ⟨jx_mem 909 (by decide +kernel) (by decide +kernel), List.forall_mem_cons.mpr ⟨jx_mem 69 (by decide +kernel) (by decide +kernel), fun _ h => absurd h List.not_mem_nil⟩⟩⟩⟩, jx_mem 910 (by decide +kernel) (by decide +kernel), by decide +kernel, by decide +kernel, by decide +kernel⟩
theorem jv_L_37 : jx_cv R_law 37 yX4_weather cX4_weather 3 (some .int) 2 := ⟨List.forall_mem_cons.mpr ⟨jx_mem 915 (by decide +kernel) (by decide +kernel), List.forall_mem_cons.mpr ⟨jx_mem 916 (by decide +kernel) (by decide +kernel), List.forall_mem_cons.mpr ⟨jx_mem 917 (by decide +kernel) (by decide +kernel), List.forall_mem_cons.mpr ⟨jx_mem 69 (by decide +kernel) (by decide +kernel), fun _ h => absurd h List.not_mem_nil⟩⟩⟩⟩, jx_mem 918 (by decide +kernel) (by decide +kernel), by decide +kernel, by decide +kernel, by decide +kernel⟩
theorem jv_L_41 : jx_cv R_law 41 yX4_cloud cX4_cloud 3 (some .int) 2 := ⟨List.forall_mem_cons.mpr ⟨jx_mem 919 (by decide +kernel) (by decide +kernel), List.forall_mem_cons.mpr ⟨jx_mem 920 (by decide +kernel) (by decide +kernel), List.forall_mem_cons.mpr ⟨jx_mem 921 (by decide +kernel) (by decide +kernel), List.forall_mem_cons.mpr ⟨jx_mem 69 (by decide +kernel) (by decide +kernel), fun _ h => absurd h List.not_mem_nil⟩⟩⟩⟩, jx_mem 922 (by decide +kernel) (by decide +kernel), by decide +kernel, by decide +kernel, by decide +kernel⟩
theorem jv_L_45 : jx_cv R_law 45 yX4_from cX4_from 3 (some .int) 2 := ⟨List.forall_mem_cons.mpr ⟨jx_mem 923 (by decide +kernel) (by decide +kernel), List.forall_mem_cons.mpr ⟨jx_mem 924 (by decide +kernel) (by decide +kernel), List.forall_mem_cons.mpr ⟨jx_mem 925 (by decide +kernel) (by decide +kernel), List.forall_mem_cons.mpr ⟨jx_mem 69 (by decide +kernel) (by decide +kernel), fun _ h => absurd h List.not_mem_nil⟩⟩⟩⟩, jx_mem 926 (by decide +kernel) (by decide +kernel), by decide +kernel, by decide +kernel, by decide +kernel⟩
theorem jv_L_49 : jx_cv R_law 49 yX4_active cX4_active 4 (some .int) 1 := ⟨List.forall_mem_cons.mpr ⟨jx_mem 938 (by decide +kernel) (by decide +kernel), List.forall_mem_cons.mpr ⟨jx_mem 939 (by decide +kernel) (by decide +kernel), List.forall_mem_cons.mpr ⟨jx_mem 940 (by decide +kernel) (by decide +kernel), List.forall_mem_cons.mpr ⟨jx_mem 69 (by decide +kernel) (by decide +kernel), fun _ h => absurd h List.not_mem_nil⟩⟩⟩⟩, jx_mem 941 (by decide +kernel) (by decide +kernel), by decide +kernel, by decide +kernel, by decide +kernel⟩
theorem jv_L_53 : jx_cv R_law 53 yX4_activeOne cX4_activeOne 6 (some .int) 2 := ⟨List.forall_mem_cons.mpr ⟨jx_mem 946 (by decide +kernel) (by decide +kernel), List.forall_mem_cons.mpr ⟨jx_mem 947 (by decide +kernel) (by decide +kernel), List.forall_mem_cons.mpr ⟨jx_mem 948 (by decide +kernel) (by decide +kernel), List.forall_mem_cons.mpr ⟨jx_mem 69 (by decide +kernel) (by decide +kernel), fun _ h => absurd h List.not_mem_nil⟩⟩⟩⟩, jx_mem 949 (by decide +kernel) (by decide +kernel), by decide +kernel, by decide +kernel, by decide +kernel⟩
theorem jv_L_57 : jx_cv R_law 57 yX4_least cX4_least 5 (some .int) 1 := ⟨List.forall_mem_cons.mpr ⟨jx_mem 950 (by decide +kernel) (by decide +kernel), List.forall_mem_cons.mpr ⟨jx_mem 951 (by decide +kernel) (by decide +kernel), List.forall_mem_cons.mpr ⟨jx_mem 952 (by decide +kernel) (by decide +kernel), List.forall_mem_cons.mpr ⟨jx_mem 69 (by decide +kernel) (by decide +kernel), fun _ h => absurd h List.not_mem_nil⟩⟩⟩⟩, jx_mem 953 (by decide +kernel) (by decide +kernel), by decide +kernel, by decide +kernel, by decide +kernel⟩
theorem jv_L_61 : jx_cv R_law 61 yX4_ceiling cX4_ceiling 5 (some .int) 2 := ⟨List.forall_mem_cons.mpr ⟨jx_mem 954 (by decide +kernel) (by decide +kernel), List.forall_mem_cons.mpr ⟨jx_mem 955 (by decide +kernel) (by decide +kernel), List.forall_mem_cons.mpr ⟨jx_mem 956 (by decide +kernel) (by decide +kernel), List.forall_mem_cons.mpr ⟨jx_mem 69 (by decide +kernel) (by decide +kernel), fun _ h => absurd h List.not_mem_nil⟩⟩⟩⟩, jx_mem 957 (by decide +kernel) (by decide +kernel), by decide +kernel, by decide +kernel, by decide +kernel⟩
theorem jv_L_65 : jx_cv R_law 65 yX4_next cX4_next 3 (some .int) 1 := ⟨List.forall_mem_cons.mpr ⟨jx_mem 962 (by decide +kernel) (by decide +kernel), List.forall_mem_cons.mpr ⟨jx_mem 963 (by decide +kernel) (by decide +kernel), List.forall_mem_cons.mpr ⟨jx_mem 964 (by decide +kernel) (by decide +kernel), List.forall_mem_cons.mpr ⟨jx_mem 69 (by decide +kernel) (by decide +kernel), fun _ h => absurd h List.not_mem_nil⟩⟩⟩⟩, jx_mem 965 (by decide +kernel) (by decide +kernel), by decide +kernel, by decide +kernel, by decide +kernel⟩
theorem jv_L_70 : jx_cv R_law 70 yX4_print cX4_print 2 (some .int) 0 := ⟨List.forall_mem_cons.mpr ⟨jx_mem 970 (by decide +kernel) (by decide +kernel), List.forall_mem_cons.mpr ⟨jx_mem 971 (by decide +kernel) (by decide +kernel), List.forall_mem_cons.mpr ⟨jx_mem 972 (by decide +kernel) (by decide +kernel), List.forall_mem_cons.mpr ⟨jx_mem 69 (by decide +kernel) (by decide +kernel), fun _ h => absurd h List.not_mem_nil⟩⟩⟩⟩, jx_mem 973 (by decide +kernel) (by decide +kernel), by decide +kernel, by decide +kernel, by decide +kernel⟩
theorem jv_L_74 : jx_cv R_law 74 yX4_character cX4_character 2 (some .int) 1 := ⟨List.forall_mem_cons.mpr ⟨jx_mem 974 (by decide +kernel) (by decide +kernel), List.forall_mem_cons.mpr ⟨jx_mem 975 (by decide +kernel) (by decide +kernel), List.forall_mem_cons.mpr ⟨jx_mem 976 (by decide +kernel) (by decide +kernel), List.forall_mem_cons.mpr ⟨jx_mem 69 (by decide +kernel) (by decide +kernel), fun _ h => absurd h List.not_mem_nil⟩⟩⟩⟩, jx_mem 977 (by decide +kernel) (by decide +kernel), by decide +kernel, by decide +kernel, by decide +kernel⟩
theorem jv_L_78 : jx_cv R_law 78 yX4_check cX4_check 1 (some .int) 0 := ⟨List.forall_mem_cons.mpr ⟨jx_mem 978 (by decide +kernel) (by decide +kernel), List.forall_mem_cons.mpr ⟨jx_mem 979 (by decide +kernel) (by decide +kernel), List.forall_mem_cons.mpr ⟨jx_mem 980 (by decide +kernel) (by decide +kernel), List.forall_mem_cons.mpr ⟨jx_mem 69 (by decide +kernel) (by decide +kernel), fun _ h => absurd h List.not_mem_nil⟩⟩⟩⟩, jx_mem 981 (by decide +kernel) (by decide +kernel), by decide +kernel, by decide +kernel, by decide +kernel⟩
/-- what stays of a world over the law's run -/
def lw_C (D : jx_Dt) (L : jx_Ly) (s : State) : Prop := va_K D.1 vwCl (jx_tys D) s ∧ jx_In D L ∧ jx_Sr D L s s.heap ∧ ∀ q : Nat, jx_A D L q → s.heap.size ≤ q
section LWC
variable {p : Program} {l : Launch} {e : Env} {R : Room} {s : State} {m : MethodId} {args : Array Value} {below : List Frame} {meth : Method} {c : Code} {H : Heap} {locs : List Loc} {cells slots : Nat} {Q : State → Prop}
theorem lw_call {D D' : jx_Dt} {L L' : jx_Ly} {u u' : jx_St} {y : MethodName} {bytes : ByteArray} {maxL' : Nat} {ret' : Option FieldType} {rm' : Room} {idx n ci c0 pc : Nat} {As st0 st : List Value} {ls : Array Slot} {lv : List (Nat × Value)} {post : Int32 → jx_St → Prop} (hx : p.tables.exec = Jvm.exec) (hb : c.code = code) (hml : c.maxLocals = 4) (hown : s.vm.findClass R_law = some m.cls) (htb : ∀ w ∈ jx_tb, w.before args s = true)
    (hC : lw_C D L s) (hI' : jx_In D' L') (hdis : ∀ q : Nat, jx_A D' L' q → ¬ jx_A D L q) (hP : va_P D.1 vwCl (jx_w D L u) H) (hP' : va_P D'.1 vwCl (jx_w D' L' u') H) (hS : va_S (fun q : Nat => s.heap.size ≤ q) s.heap H locs) (hl : lv_has ls 4 lv)
    (hM : jx_Met l y bytes maxL' ret' rm' D L (.ref (D.2.1 c0) :: As) u (jx_Qi D L post)) (hw : jx_cv R_law idx y bytes maxL' ret' n) (hCn : jx_cn ci y.cls) (hc : jx_ok L ci c0) (hr : jx_rm R rm' maxL') (hn : As.length = n) (hst : st0 = As.reverse ++ .ref (D.2.1 c0) :: st) (hR : (st.map fun v => v.category).sum ≤ 8) (hd : decode code pc = .ok (.invokevirtual idx, 3)) (hcl : cells + 0 ≤ R.cells) (hsl : slots + 0 ≤ R.slots)
    (k : ∀ (r : Int32) (v : jx_St) (H1 : Heap) (locs1 : List Loc), post r v → va_P D.1 vwCl (jx_w D L v) H1 → va_P D'.1 vwCl (jx_w D' L' u') H1 → va_S (fun q : Nat => s.heap.size ≤ q) s.heap H1 locs1 → W p l e R s m args below meth c H1 locs1 cells slots Q (F0 m (pc + 3) ls (.int r :: st))) : W p l e R s m args below meth c H locs cells slots Q (F0 m pc ls st0) := by
  obtain ⟨hw1, hw2, hw3, hw4, hw5⟩ := hw
  obtain ⟨h4, T, N, hT⟩ := hCn
  have run := va_runV (e := e) (R := R) (below := below) (meth := meth) (locs := locs) (cells := cells) (slots := slots) (g := F0 m pc ls st0) (As := As) (rest := st) ⟨hx, hb, hml, hown, htb⟩ hM (cwV n htb (jx_goodIn hw1 hw2) rfl hr.1 hr.2.1 ⟨rfl, hw3, hw4, hw5⟩ hr.2.2)
    ⟨jx_blind, va_recv hC.1 hP (ci := ci) (q0 := c0) hT (by rw [jx_w_at hc.1, jx_E_obj hc.2 h4]), fun U hU hW => ⟨rfl, by rw [hU]; exact hP, va_K.moved hW.alike hC.1, hC.2.1, by rw [hU]; exact jx_Sr_kept (jx_Sr_warm hW hC.2.2.1) (fun a ha _ => hS.2.1 a ha (Nat.not_le.mpr ha))⟩⟩ rfl hn hl.1 hst (lv_room hR) hd ⟨hcl, hsl⟩
  refine va_calli run hS (fun q _ h => hC.2.2.2 q h) (fun q h => hC.2.2.2 q h) (fun r v t H1 locs1 ht hvm hpost hB hz hk hS1 => ?_)
  refine k r v H1 locs1 hpost (by rw [← ht]; exact hB.1) (hP'.kept (fun k x hx => hk x.1 ((hP' k x hx).lt) (hdis x.1 ((jx_D_of hI').2 k x hx)))) hS1
/-- an int of the script -/
theorem lw_ld {b L i k pc : Nat} {kz : Int} {xs : Nat → Int32} {ls : Array Slot} {a1 a2 : Nat} {st : List Value} (hx : p.tables.exec = Jvm.exec) (hb : c.code = code) (hX : va_X b L xs s s.heap) (hbl : b < s.heap.size) (hS : va_S (fun q : Nat => s.heap.size ≤ q) s.heap H locs) (hl : lv_has ls 4 [(3, .int (nI i)), (2, .ref a2), (1, .ref a1), (0, .ref b)]) (hL : L ≤ 2048) (hk : i + k < L) (hz : Int32.ofInt kz = nI k) (d0 : decode code pc = .ok (.aload_n 0, 1)) (d1 : decode code (pc + 1) = .ok (.iload_n 3, 1)) (d2 : decode code (pc + 2) = .ok (.iconst kz, 1)) (d3 : decode code (pc + 3) = .ok (.iadd, 1)) (d4 : decode code (pc + 4) = .ok (.iaload, 1))
    (kk : W p l e R s m args below meth c H locs cells slots Q (F0 m (pc + 5) ls (.int (xs (i + k)) :: st))) : W p l e R s m args below meth c H locs cells slots Q (F0 m pc ls st) := by
  refine lv_aload_n hx hb d0 rfl (lv_at hl 3 rfl) ?_
  refine lv_iload_n hx hb d1 rfl (lv_at hl 0 rfl) ?_
  refine lv_iconst hx hb d2 hz ?_
  refine lv_iadd hx hb d3 ?_
  rw [nI_add]
  refine va_sld hx hb hX hbl (Nat.not_le.mpr hbl) hS (vp_in_nI hk (by omega)) d4 ?_
  rw [pz_cl (by omega)]
  exact kk
end LWC
