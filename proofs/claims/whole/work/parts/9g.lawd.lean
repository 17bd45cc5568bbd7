/-! the law, case by case -/
theorem dlw_0 : decode code 0 = .ok (.new 7, 3) := by decide +kernel
theorem dlw_3 : decode code 3 = .ok (.dup, 1) := by decide +kernel
theorem dlw_4 : decode code 4 = .ok (.invokespecial 9, 3) := by decide +kernel
theorem dlw_7 : decode code 7 = .ok (.astore_n 1, 1) := by decide +kernel
theorem dlw_8 : decode code 8 = .ok (.new 10, 3) := by decide +kernel
theorem dlw_11 : decode code 11 = .ok (.dup, 1) := by decide +kernel
theorem dlw_12 : decode code 12 = .ok (.invokespecial 12, 3) := by decide +kernel
theorem dlw_15 : decode code 15 = .ok (.astore_n 2, 1) := by decide +kernel
theorem dlw_16 : decode code 16 = .ok (.iconst 0, 1) := by decide +kernel
theorem dlw_17 : decode code 17 = .ok (.istore_n 3, 1) := by decide +kernel
theorem dlw_18 : decode code 18 = .ok (.iload_n 3, 1) := by decide +kernel
theorem dlw_19 : decode code 19 = .ok (.aload_n 0, 1) := by decide +kernel
theorem dlw_20 : decode code 20 = .ok (.arraylength, 1) := by decide +kernel
theorem dlw_21 : decode code 21 = .ok (.iconst 5, 1) := by decide +kernel
theorem dlw_22 : decode code 22 = .ok (.isub, 1) := by decide +kernel
theorem dlw_23 : decode code 23 = .ok (.if_icmp .gt 450, 3) := by decide +kernel
theorem dlw_26 : decode code 26 = .ok (.aload_n 0, 1) := by decide +kernel
theorem dlw_27 : decode code 27 = .ok (.iload_n 3, 1) := by decide +kernel
theorem dlw_28 : decode code 28 = .ok (.iaload, 1) := by decide +kernel
theorem dlw_29 : decode code 29 = .ok (.bipush 15, 2) := by decide +kernel
theorem dlw_31 : decode code 31 = .ok (.iand, 1) := by decide +kernel
theorem dlw_32 : decode code 32 = .ok (.tableswitch 435 0 14 #[76, 99, 132, 185, 234, 257, 280, 313, 326, 339, 350, 363, 376, 399, 422], 76) := by decide +kernel
theorem dlw_108 : decode code 108 = .ok (.aload_n 1, 1) := by decide +kernel
theorem dlw_109 : decode code 109 = .ok (.aload_n 0, 1) := by decide +kernel
theorem dlw_110 : decode code 110 = .ok (.iload_n 3, 1) := by decide +kernel
theorem dlw_111 : decode code 111 = .ok (.iconst 1, 1) := by decide +kernel
theorem dlw_112 : decode code 112 = .ok (.iadd, 1) := by decide +kernel
theorem dlw_113 : decode code 113 = .ok (.iaload, 1) := by decide +kernel
theorem dlw_114 : decode code 114 = .ok (.invokevirtual 13, 3) := by decide +kernel
theorem dlw_117 : decode code 117 = .ok (.aload_n 2, 1) := by decide +kernel
theorem dlw_118 : decode code 118 = .ok (.aload_n 0, 1) := by decide +kernel
theorem dlw_119 : decode code 119 = .ok (.iload_n 3, 1) := by decide +kernel
theorem dlw_120 : decode code 120 = .ok (.iconst 1, 1) := by decide +kernel
theorem dlw_121 : decode code 121 = .ok (.iadd, 1) := by decide +kernel
theorem dlw_122 : decode code 122 = .ok (.iaload, 1) := by decide +kernel
theorem dlw_123 : decode code 123 = .ok (.invokevirtual 17, 3) := by decide +kernel
theorem dlw_126 : decode code 126 = .ok (.if_icmp .eq 341, 3) := by decide +kernel
theorem dlw_129 : decode code 129 = .ok (.iconst 0, 1) := by decide +kernel
theorem dlw_130 : decode code 130 = .ok (.ireturn, 1) := by decide +kernel
theorem dlw_131 : decode code 131 = .ok (.aload_n 1, 1) := by decide +kernel
theorem dlw_132 : decode code 132 = .ok (.aload_n 0, 1) := by decide +kernel
theorem dlw_133 : decode code 133 = .ok (.iload_n 3, 1) := by decide +kernel
theorem dlw_134 : decode code 134 = .ok (.iconst 1, 1) := by decide +kernel
theorem dlw_135 : decode code 135 = .ok (.iadd, 1) := by decide +kernel
theorem dlw_136 : decode code 136 = .ok (.iaload, 1) := by decide +kernel
theorem dlw_137 : decode code 137 = .ok (.aload_n 0, 1) := by decide +kernel
theorem dlw_138 : decode code 138 = .ok (.iload_n 3, 1) := by decide +kernel
theorem dlw_139 : decode code 139 = .ok (.iconst 2, 1) := by decide +kernel
theorem dlw_140 : decode code 140 = .ok (.iadd, 1) := by decide +kernel
theorem dlw_141 : decode code 141 = .ok (.iaload, 1) := by decide +kernel
theorem dlw_142 : decode code 142 = .ok (.invokevirtual 18, 3) := by decide +kernel
theorem dlw_145 : decode code 145 = .ok (.aload_n 2, 1) := by decide +kernel
theorem dlw_146 : decode code 146 = .ok (.aload_n 0, 1) := by decide +kernel
theorem dlw_147 : decode code 147 = .ok (.iload_n 3, 1) := by decide +kernel
theorem dlw_148 : decode code 148 = .ok (.iconst 1, 1) := by decide +kernel
theorem dlw_149 : decode code 149 = .ok (.iadd, 1) := by decide +kernel
theorem dlw_150 : decode code 150 = .ok (.iaload, 1) := by decide +kernel
theorem dlw_151 : decode code 151 = .ok (.aload_n 0, 1) := by decide +kernel
theorem dlw_152 : decode code 152 = .ok (.iload_n 3, 1) := by decide +kernel
theorem dlw_153 : decode code 153 = .ok (.iconst 2, 1) := by decide +kernel
theorem dlw_154 : decode code 154 = .ok (.iadd, 1) := by decide +kernel
theorem dlw_155 : decode code 155 = .ok (.iaload, 1) := by decide +kernel
theorem dlw_156 : decode code 156 = .ok (.invokevirtual 22, 3) := by decide +kernel
theorem dlw_159 : decode code 159 = .ok (.if_icmp .eq 308, 3) := by decide +kernel
theorem dlw_162 : decode code 162 = .ok (.iconst 0, 1) := by decide +kernel
theorem dlw_163 : decode code 163 = .ok (.ireturn, 1) := by decide +kernel
theorem dlw_164 : decode code 164 = .ok (.aload_n 1, 1) := by decide +kernel
theorem dlw_165 : decode code 165 = .ok (.aload_n 0, 1) := by decide +kernel
theorem dlw_166 : decode code 166 = .ok (.iload_n 3, 1) := by decide +kernel
theorem dlw_167 : decode code 167 = .ok (.iconst 1, 1) := by decide +kernel
theorem dlw_168 : decode code 168 = .ok (.iadd, 1) := by decide +kernel
theorem dlw_169 : decode code 169 = .ok (.iaload, 1) := by decide +kernel
theorem dlw_170 : decode code 170 = .ok (.aload_n 0, 1) := by decide +kernel
theorem dlw_171 : decode code 171 = .ok (.iload_n 3, 1) := by decide +kernel
theorem dlw_172 : decode code 172 = .ok (.iconst 2, 1) := by decide +kernel
theorem dlw_173 : decode code 173 = .ok (.iadd, 1) := by decide +kernel
theorem dlw_174 : decode code 174 = .ok (.iaload, 1) := by decide +kernel
theorem dlw_175 : decode code 175 = .ok (.aload_n 0, 1) := by decide +kernel
theorem dlw_176 : decode code 176 = .ok (.iload_n 3, 1) := by decide +kernel
theorem dlw_177 : decode code 177 = .ok (.iconst 3, 1) := by decide +kernel
theorem dlw_178 : decode code 178 = .ok (.iadd, 1) := by decide +kernel
theorem dlw_179 : decode code 179 = .ok (.iaload, 1) := by decide +kernel
theorem dlw_180 : decode code 180 = .ok (.aload_n 0, 1) := by decide +kernel
theorem dlw_181 : decode code 181 = .ok (.iload_n 3, 1) := by decide +kernel
theorem dlw_182 : decode code 182 = .ok (.iconst 4, 1) := by decide +kernel
theorem dlw_183 : decode code 183 = .ok (.iadd, 1) := by decide +kernel
theorem dlw_184 : decode code 184 = .ok (.iaload, 1) := by decide +kernel
theorem dlw_185 : decode code 185 = .ok (.invokevirtual 23, 3) := by decide +kernel
theorem dlw_188 : decode code 188 = .ok (.aload_n 2, 1) := by decide +kernel
theorem dlw_189 : decode code 189 = .ok (.aload_n 0, 1) := by decide +kernel
theorem dlw_190 : decode code 190 = .ok (.iload_n 3, 1) := by decide +kernel
theorem dlw_191 : decode code 191 = .ok (.iconst 1, 1) := by decide +kernel
theorem dlw_192 : decode code 192 = .ok (.iadd, 1) := by decide +kernel
theorem dlw_193 : decode code 193 = .ok (.iaload, 1) := by decide +kernel
theorem dlw_194 : decode code 194 = .ok (.aload_n 0, 1) := by decide +kernel
theorem dlw_195 : decode code 195 = .ok (.iload_n 3, 1) := by decide +kernel
theorem dlw_196 : decode code 196 = .ok (.iconst 2, 1) := by decide +kernel
theorem dlw_197 : decode code 197 = .ok (.iadd, 1) := by decide +kernel
theorem dlw_198 : decode code 198 = .ok (.iaload, 1) := by decide +kernel
theorem dlw_199 : decode code 199 = .ok (.aload_n 0, 1) := by decide +kernel
theorem dlw_200 : decode code 200 = .ok (.iload_n 3, 1) := by decide +kernel
theorem dlw_201 : decode code 201 = .ok (.iconst 3, 1) := by decide +kernel
theorem dlw_202 : decode code 202 = .ok (.iadd, 1) := by decide +kernel
theorem dlw_203 : decode code 203 = .ok (.iaload, 1) := by decide +kernel
theorem dlw_204 : decode code 204 = .ok (.aload_n 0, 1) := by decide +kernel
theorem dlw_205 : decode code 205 = .ok (.iload_n 3, 1) := by decide +kernel
theorem dlw_206 : decode code 206 = .ok (.iconst 4, 1) := by decide +kernel
theorem dlw_207 : decode code 207 = .ok (.iadd, 1) := by decide +kernel
theorem dlw_208 : decode code 208 = .ok (.iaload, 1) := by decide +kernel
theorem dlw_209 : decode code 209 = .ok (.invokevirtual 27, 3) := by decide +kernel
theorem dlw_212 : decode code 212 = .ok (.if_icmp .eq 255, 3) := by decide +kernel
theorem dlw_215 : decode code 215 = .ok (.iconst 0, 1) := by decide +kernel
theorem dlw_216 : decode code 216 = .ok (.ireturn, 1) := by decide +kernel
theorem dlw_217 : decode code 217 = .ok (.aload_n 1, 1) := by decide +kernel
theorem dlw_218 : decode code 218 = .ok (.aload_n 0, 1) := by decide +kernel
theorem dlw_219 : decode code 219 = .ok (.iload_n 3, 1) := by decide +kernel
theorem dlw_220 : decode code 220 = .ok (.iconst 1, 1) := by decide +kernel
theorem dlw_221 : decode code 221 = .ok (.iadd, 1) := by decide +kernel
theorem dlw_222 : decode code 222 = .ok (.iaload, 1) := by decide +kernel
theorem dlw_223 : decode code 223 = .ok (.aload_n 0, 1) := by decide +kernel
theorem dlw_224 : decode code 224 = .ok (.iload_n 3, 1) := by decide +kernel
theorem dlw_225 : decode code 225 = .ok (.iconst 2, 1) := by decide +kernel
theorem dlw_226 : decode code 226 = .ok (.iadd, 1) := by decide +kernel
theorem dlw_227 : decode code 227 = .ok (.iaload, 1) := by decide +kernel
theorem dlw_228 : decode code 228 = .ok (.ifCond .eq 7, 3) := by decide +kernel
theorem dlw_231 : decode code 231 = .ok (.iconst 1, 1) := by decide +kernel
theorem dlw_232 : decode code 232 = .ok (.goto 4, 3) := by decide +kernel
theorem dlw_235 : decode code 235 = .ok (.iconst 0, 1) := by decide +kernel
theorem dlw_236 : decode code 236 = .ok (.invokevirtual 28, 3) := by decide +kernel
theorem dlw_239 : decode code 239 = .ok (.aload_n 2, 1) := by decide +kernel
theorem dlw_240 : decode code 240 = .ok (.aload_n 0, 1) := by decide +kernel
theorem dlw_241 : decode code 241 = .ok (.iload_n 3, 1) := by decide +kernel
theorem dlw_242 : decode code 242 = .ok (.iconst 1, 1) := by decide +kernel
theorem dlw_243 : decode code 243 = .ok (.iadd, 1) := by decide +kernel
theorem dlw_244 : decode code 244 = .ok (.iaload, 1) := by decide +kernel
theorem dlw_245 : decode code 245 = .ok (.aload_n 0, 1) := by decide +kernel
theorem dlw_246 : decode code 246 = .ok (.iload_n 3, 1) := by decide +kernel
theorem dlw_247 : decode code 247 = .ok (.iconst 2, 1) := by decide +kernel
theorem dlw_248 : decode code 248 = .ok (.iadd, 1) := by decide +kernel
theorem dlw_249 : decode code 249 = .ok (.iaload, 1) := by decide +kernel
theorem dlw_250 : decode code 250 = .ok (.ifCond .eq 7, 3) := by decide +kernel
theorem dlw_253 : decode code 253 = .ok (.iconst 1, 1) := by decide +kernel
theorem dlw_254 : decode code 254 = .ok (.goto 4, 3) := by decide +kernel
theorem dlw_257 : decode code 257 = .ok (.iconst 0, 1) := by decide +kernel
theorem dlw_258 : decode code 258 = .ok (.invokevirtual 32, 3) := by decide +kernel
theorem dlw_261 : decode code 261 = .ok (.if_icmp .eq 206, 3) := by decide +kernel
theorem dlw_264 : decode code 264 = .ok (.iconst 0, 1) := by decide +kernel
theorem dlw_265 : decode code 265 = .ok (.ireturn, 1) := by decide +kernel
theorem dlw_266 : decode code 266 = .ok (.aload_n 1, 1) := by decide +kernel
theorem dlw_267 : decode code 267 = .ok (.aload_n 0, 1) := by decide +kernel
theorem dlw_268 : decode code 268 = .ok (.iload_n 3, 1) := by decide +kernel
theorem dlw_269 : decode code 269 = .ok (.iconst 1, 1) := by decide +kernel
theorem dlw_270 : decode code 270 = .ok (.iadd, 1) := by decide +kernel
theorem dlw_271 : decode code 271 = .ok (.iaload, 1) := by decide +kernel
theorem dlw_272 : decode code 272 = .ok (.invokevirtual 33, 3) := by decide +kernel
theorem dlw_275 : decode code 275 = .ok (.aload_n 2, 1) := by decide +kernel
theorem dlw_276 : decode code 276 = .ok (.aload_n 0, 1) := by decide +kernel
theorem dlw_277 : decode code 277 = .ok (.iload_n 3, 1) := by decide +kernel
theorem dlw_278 : decode code 278 = .ok (.iconst 1, 1) := by decide +kernel
theorem dlw_279 : decode code 279 = .ok (.iadd, 1) := by decide +kernel
theorem dlw_280 : decode code 280 = .ok (.iaload, 1) := by decide +kernel
theorem dlw_281 : decode code 281 = .ok (.invokevirtual 36, 3) := by decide +kernel
theorem dlw_284 : decode code 284 = .ok (.if_icmp .eq 183, 3) := by decide +kernel
theorem dlw_287 : decode code 287 = .ok (.iconst 0, 1) := by decide +kernel
theorem dlw_288 : decode code 288 = .ok (.ireturn, 1) := by decide +kernel
theorem dlw_289 : decode code 289 = .ok (.aload_n 1, 1) := by decide +kernel
theorem dlw_290 : decode code 290 = .ok (.aload_n 0, 1) := by decide +kernel
theorem dlw_291 : decode code 291 = .ok (.iload_n 3, 1) := by decide +kernel
theorem dlw_292 : decode code 292 = .ok (.iconst 1, 1) := by decide +kernel
theorem dlw_293 : decode code 293 = .ok (.iadd, 1) := by decide +kernel
theorem dlw_294 : decode code 294 = .ok (.iaload, 1) := by decide +kernel
theorem dlw_295 : decode code 295 = .ok (.invokevirtual 37, 3) := by decide +kernel
theorem dlw_298 : decode code 298 = .ok (.aload_n 2, 1) := by decide +kernel
theorem dlw_299 : decode code 299 = .ok (.aload_n 0, 1) := by decide +kernel
theorem dlw_300 : decode code 300 = .ok (.iload_n 3, 1) := by decide +kernel
theorem dlw_301 : decode code 301 = .ok (.iconst 1, 1) := by decide +kernel
theorem dlw_302 : decode code 302 = .ok (.iadd, 1) := by decide +kernel
theorem dlw_303 : decode code 303 = .ok (.iaload, 1) := by decide +kernel
theorem dlw_304 : decode code 304 = .ok (.invokevirtual 40, 3) := by decide +kernel
theorem dlw_307 : decode code 307 = .ok (.if_icmp .eq 160, 3) := by decide +kernel
theorem dlw_310 : decode code 310 = .ok (.iconst 0, 1) := by decide +kernel
theorem dlw_311 : decode code 311 = .ok (.ireturn, 1) := by decide +kernel
theorem dlw_312 : decode code 312 = .ok (.aload_n 1, 1) := by decide +kernel
theorem dlw_313 : decode code 313 = .ok (.aload_n 0, 1) := by decide +kernel
theorem dlw_314 : decode code 314 = .ok (.iload_n 3, 1) := by decide +kernel
theorem dlw_315 : decode code 315 = .ok (.iconst 1, 1) := by decide +kernel
theorem dlw_316 : decode code 316 = .ok (.iadd, 1) := by decide +kernel
theorem dlw_317 : decode code 317 = .ok (.iaload, 1) := by decide +kernel
theorem dlw_318 : decode code 318 = .ok (.aload_n 0, 1) := by decide +kernel
theorem dlw_319 : decode code 319 = .ok (.iload_n 3, 1) := by decide +kernel
theorem dlw_320 : decode code 320 = .ok (.iconst 2, 1) := by decide +kernel
theorem dlw_321 : decode code 321 = .ok (.iadd, 1) := by decide +kernel
theorem dlw_322 : decode code 322 = .ok (.iaload, 1) := by decide +kernel
theorem dlw_323 : decode code 323 = .ok (.invokevirtual 41, 3) := by decide +kernel
theorem dlw_326 : decode code 326 = .ok (.aload_n 2, 1) := by decide +kernel
theorem dlw_327 : decode code 327 = .ok (.aload_n 0, 1) := by decide +kernel
theorem dlw_328 : decode code 328 = .ok (.iload_n 3, 1) := by decide +kernel
theorem dlw_329 : decode code 329 = .ok (.iconst 1, 1) := by decide +kernel
theorem dlw_330 : decode code 330 = .ok (.iadd, 1) := by decide +kernel
theorem dlw_331 : decode code 331 = .ok (.iaload, 1) := by decide +kernel
theorem dlw_332 : decode code 332 = .ok (.aload_n 0, 1) := by decide +kernel
theorem dlw_333 : decode code 333 = .ok (.iload_n 3, 1) := by decide +kernel
theorem dlw_334 : decode code 334 = .ok (.iconst 2, 1) := by decide +kernel
theorem dlw_335 : decode code 335 = .ok (.iadd, 1) := by decide +kernel
theorem dlw_336 : decode code 336 = .ok (.iaload, 1) := by decide +kernel
theorem dlw_337 : decode code 337 = .ok (.invokevirtual 45, 3) := by decide +kernel
theorem dlw_340 : decode code 340 = .ok (.if_icmp .eq 127, 3) := by decide +kernel
theorem dlw_343 : decode code 343 = .ok (.iconst 0, 1) := by decide +kernel
theorem dlw_344 : decode code 344 = .ok (.ireturn, 1) := by decide +kernel
theorem dlw_345 : decode code 345 = .ok (.aload_n 1, 1) := by decide +kernel
theorem dlw_346 : decode code 346 = .ok (.invokevirtual 46, 3) := by decide +kernel
theorem dlw_349 : decode code 349 = .ok (.aload_n 2, 1) := by decide +kernel
theorem dlw_350 : decode code 350 = .ok (.invokevirtual 50, 3) := by decide +kernel
theorem dlw_353 : decode code 353 = .ok (.if_icmp .eq 114, 3) := by decide +kernel
theorem dlw_356 : decode code 356 = .ok (.iconst 0, 1) := by decide +kernel
theorem dlw_357 : decode code 357 = .ok (.ireturn, 1) := by decide +kernel
theorem dlw_358 : decode code 358 = .ok (.aload_n 1, 1) := by decide +kernel
theorem dlw_359 : decode code 359 = .ok (.invokevirtual 51, 3) := by decide +kernel
theorem dlw_362 : decode code 362 = .ok (.aload_n 2, 1) := by decide +kernel
theorem dlw_363 : decode code 363 = .ok (.invokevirtual 54, 3) := by decide +kernel
theorem dlw_366 : decode code 366 = .ok (.if_icmp .eq 101, 3) := by decide +kernel
theorem dlw_369 : decode code 369 = .ok (.iconst 0, 1) := by decide +kernel
theorem dlw_370 : decode code 370 = .ok (.ireturn, 1) := by decide +kernel
theorem dlw_371 : decode code 371 = .ok (.aload_n 1, 1) := by decide +kernel
theorem dlw_372 : decode code 372 = .ok (.invokevirtual 55, 3) := by decide +kernel
theorem dlw_375 : decode code 375 = .ok (.aload_n 2, 1) := by decide +kernel
theorem dlw_376 : decode code 376 = .ok (.invokevirtual 58, 3) := by decide +kernel
theorem dlw_379 : decode code 379 = .ok (.goto 88, 3) := by decide +kernel
theorem dlw_382 : decode code 382 = .ok (.aload_n 1, 1) := by decide +kernel
theorem dlw_383 : decode code 383 = .ok (.invokevirtual 59, 3) := by decide +kernel
theorem dlw_386 : decode code 386 = .ok (.aload_n 2, 1) := by decide +kernel
theorem dlw_387 : decode code 387 = .ok (.invokevirtual 62, 3) := by decide +kernel
theorem dlw_390 : decode code 390 = .ok (.if_icmp .eq 77, 3) := by decide +kernel
theorem dlw_393 : decode code 393 = .ok (.iconst 0, 1) := by decide +kernel
theorem dlw_394 : decode code 394 = .ok (.ireturn, 1) := by decide +kernel
theorem dlw_395 : decode code 395 = .ok (.aload_n 1, 1) := by decide +kernel
theorem dlw_396 : decode code 396 = .ok (.invokevirtual 63, 3) := by decide +kernel
theorem dlw_399 : decode code 399 = .ok (.aload_n 2, 1) := by decide +kernel
theorem dlw_400 : decode code 400 = .ok (.invokevirtual 66, 3) := by decide +kernel
theorem dlw_403 : decode code 403 = .ok (.if_icmp .eq 64, 3) := by decide +kernel
theorem dlw_406 : decode code 406 = .ok (.iconst 0, 1) := by decide +kernel
theorem dlw_407 : decode code 407 = .ok (.ireturn, 1) := by decide +kernel
theorem dlw_408 : decode code 408 = .ok (.aload_n 1, 1) := by decide +kernel
theorem dlw_409 : decode code 409 = .ok (.aload_n 0, 1) := by decide +kernel
theorem dlw_410 : decode code 410 = .ok (.iload_n 3, 1) := by decide +kernel
theorem dlw_411 : decode code 411 = .ok (.iconst 1, 1) := by decide +kernel
theorem dlw_412 : decode code 412 = .ok (.iadd, 1) := by decide +kernel
theorem dlw_413 : decode code 413 = .ok (.iaload, 1) := by decide +kernel
theorem dlw_414 : decode code 414 = .ok (.invokevirtual 67, 3) := by decide +kernel
theorem dlw_417 : decode code 417 = .ok (.aload_n 2, 1) := by decide +kernel
theorem dlw_418 : decode code 418 = .ok (.aload_n 0, 1) := by decide +kernel
theorem dlw_419 : decode code 419 = .ok (.iload_n 3, 1) := by decide +kernel
theorem dlw_420 : decode code 420 = .ok (.iconst 1, 1) := by decide +kernel
theorem dlw_421 : decode code 421 = .ok (.iadd, 1) := by decide +kernel
theorem dlw_422 : decode code 422 = .ok (.iaload, 1) := by decide +kernel
theorem dlw_423 : decode code 423 = .ok (.invokevirtual 70, 3) := by decide +kernel
theorem dlw_426 : decode code 426 = .ok (.if_icmp .eq 41, 3) := by decide +kernel
theorem dlw_429 : decode code 429 = .ok (.iconst 0, 1) := by decide +kernel
theorem dlw_430 : decode code 430 = .ok (.ireturn, 1) := by decide +kernel
theorem dlw_431 : decode code 431 = .ok (.aload_n 1, 1) := by decide +kernel
theorem dlw_432 : decode code 432 = .ok (.aload_n 0, 1) := by decide +kernel
theorem dlw_433 : decode code 433 = .ok (.iload_n 3, 1) := by decide +kernel
theorem dlw_434 : decode code 434 = .ok (.iconst 1, 1) := by decide +kernel
theorem dlw_435 : decode code 435 = .ok (.iadd, 1) := by decide +kernel
theorem dlw_436 : decode code 436 = .ok (.iaload, 1) := by decide +kernel
theorem dlw_437 : decode code 437 = .ok (.invokevirtual 71, 3) := by decide +kernel
theorem dlw_440 : decode code 440 = .ok (.aload_n 2, 1) := by decide +kernel
theorem dlw_441 : decode code 441 = .ok (.aload_n 0, 1) := by decide +kernel
theorem dlw_442 : decode code 442 = .ok (.iload_n 3, 1) := by decide +kernel
theorem dlw_443 : decode code 443 = .ok (.iconst 1, 1) := by decide +kernel
theorem dlw_444 : decode code 444 = .ok (.iadd, 1) := by decide +kernel
theorem dlw_445 : decode code 445 = .ok (.iaload, 1) := by decide +kernel
theorem dlw_446 : decode code 446 = .ok (.invokevirtual 74, 3) := by decide +kernel
theorem dlw_449 : decode code 449 = .ok (.if_icmp .eq 18, 3) := by decide +kernel
theorem dlw_452 : decode code 452 = .ok (.iconst 0, 1) := by decide +kernel
theorem dlw_453 : decode code 453 = .ok (.ireturn, 1) := by decide +kernel
theorem dlw_454 : decode code 454 = .ok (.aload_n 1, 1) := by decide +kernel
theorem dlw_455 : decode code 455 = .ok (.invokevirtual 75, 3) := by decide +kernel
theorem dlw_458 : decode code 458 = .ok (.aload_n 2, 1) := by decide +kernel
theorem dlw_459 : decode code 459 = .ok (.invokevirtual 78, 3) := by decide +kernel
theorem dlw_462 : decode code 462 = .ok (.if_icmp .eq 5, 3) := by decide +kernel
theorem dlw_465 : decode code 465 = .ok (.iconst 0, 1) := by decide +kernel
theorem dlw_466 : decode code 466 = .ok (.ireturn, 1) := by decide +kernel
theorem dlw_467 : decode code 467 = .ok (.iinc 3 5, 3) := by decide +kernel
theorem dlw_470 : decode code 470 = .ok (.goto (-452), 3) := by decide +kernel
theorem dlw_473 : decode code 473 = .ok (.iconst 1, 1) := by decide +kernel
theorem dlw_474 : decode code 474 = .ok (.ireturn, 1) := by decide +kernel
