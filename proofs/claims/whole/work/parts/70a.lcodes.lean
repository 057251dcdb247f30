theorem dXL_law_0 : decode code 0 = .ok (.new 7, 3) := by decide +kernel
theorem dXL_law_3 : decode code 3 = .ok (.dup, 1) := by decide +kernel
theorem dXL_law_4 : decode code 4 = .ok (.invokespecial 9, 3) := by decide +kernel
theorem dXL_law_7 : decode code 7 = .ok (.astore_n 1, 1) := by decide +kernel
theorem dXL_law_8 : decode code 8 = .ok (.new 10, 3) := by decide +kernel
theorem dXL_law_11 : decode code 11 = .ok (.dup, 1) := by decide +kernel
theorem dXL_law_12 : decode code 12 = .ok (.invokespecial 12, 3) := by decide +kernel
theorem dXL_law_15 : decode code 15 = .ok (.astore_n 2, 1) := by decide +kernel
theorem dXL_law_16 : decode code 16 = .ok (.iconst 0, 1) := by decide +kernel
theorem dXL_law_17 : decode code 17 = .ok (.istore_n 3, 1) := by decide +kernel
theorem dXL_law_18 : decode code 18 = .ok (.iload_n 3, 1) := by decide +kernel
theorem dXL_law_19 : decode code 19 = .ok (.aload_n 0, 1) := by decide +kernel
theorem dXL_law_20 : decode code 20 = .ok (.arraylength, 1) := by decide +kernel
theorem dXL_law_21 : decode code 21 = .ok (.iconst 5, 1) := by decide +kernel
theorem dXL_law_22 : decode code 22 = .ok (.isub, 1) := by decide +kernel
theorem dXL_law_23 : decode code 23 = .ok (.if_icmp .gt 913, 3) := by decide +kernel
theorem dXL_law_26 : decode code 26 = .ok (.aload_n 0, 1) := by decide +kernel
theorem dXL_law_27 : decode code 27 = .ok (.iload_n 3, 1) := by decide +kernel
theorem dXL_law_28 : decode code 28 = .ok (.iaload, 1) := by decide +kernel
theorem dXL_law_29 : decode code 29 = .ok (.bipush 31, 2) := by decide +kernel
theorem dXL_law_31 : decode code 31 = .ok (.iand, 1) := by decide +kernel
theorem dXL_law_128 : decode code 128 = .ok (.aload_n 1, 1) := by decide +kernel
theorem dXL_law_129 : decode code 129 = .ok (.aload_n 0, 1) := by decide +kernel
theorem dXL_law_130 : decode code 130 = .ok (.iload_n 3, 1) := by decide +kernel
theorem dXL_law_131 : decode code 131 = .ok (.iconst 1, 1) := by decide +kernel
theorem dXL_law_132 : decode code 132 = .ok (.iadd, 1) := by decide +kernel
theorem dXL_law_133 : decode code 133 = .ok (.iaload, 1) := by decide +kernel
theorem dXL_law_134 : decode code 134 = .ok (.aload_n 0, 1) := by decide +kernel
theorem dXL_law_135 : decode code 135 = .ok (.iload_n 3, 1) := by decide +kernel
theorem dXL_law_136 : decode code 136 = .ok (.iconst 2, 1) := by decide +kernel
theorem dXL_law_137 : decode code 137 = .ok (.iadd, 1) := by decide +kernel
theorem dXL_law_138 : decode code 138 = .ok (.iaload, 1) := by decide +kernel
theorem dXL_law_139 : decode code 139 = .ok (.i2l, 1) := by decide +kernel
theorem dXL_law_140 : decode code 140 = .ok (.bipush 32, 2) := by decide +kernel
theorem dXL_law_142 : decode code 142 = .ok (.lshl, 1) := by decide +kernel
theorem dXL_law_143 : decode code 143 = .ok (.aload_n 0, 1) := by decide +kernel
theorem dXL_law_144 : decode code 144 = .ok (.iload_n 3, 1) := by decide +kernel
theorem dXL_law_145 : decode code 145 = .ok (.iconst 3, 1) := by decide +kernel
theorem dXL_law_146 : decode code 146 = .ok (.iadd, 1) := by decide +kernel
theorem dXL_law_147 : decode code 147 = .ok (.iaload, 1) := by decide +kernel
theorem dXL_law_148 : decode code 148 = .ok (.i2l, 1) := by decide +kernel
theorem dXL_law_149 : decode code 149 = .ok (.ldc2_w 13, 3) := by decide +kernel
theorem dXL_law_152 : decode code 152 = .ok (.land, 1) := by decide +kernel
theorem dXL_law_153 : decode code 153 = .ok (.lor, 1) := by decide +kernel
theorem dXL_law_154 : decode code 154 = .ok (.invokevirtual 15, 3) := by decide +kernel
theorem dXL_law_157 : decode code 157 = .ok (.aload_n 2, 1) := by decide +kernel
theorem dXL_law_158 : decode code 158 = .ok (.aload_n 0, 1) := by decide +kernel
theorem dXL_law_159 : decode code 159 = .ok (.iload_n 3, 1) := by decide +kernel
theorem dXL_law_160 : decode code 160 = .ok (.iconst 1, 1) := by decide +kernel
theorem dXL_law_161 : decode code 161 = .ok (.iadd, 1) := by decide +kernel
theorem dXL_law_162 : decode code 162 = .ok (.iaload, 1) := by decide +kernel
theorem dXL_law_163 : decode code 163 = .ok (.aload_n 0, 1) := by decide +kernel
theorem dXL_law_164 : decode code 164 = .ok (.iload_n 3, 1) := by decide +kernel
theorem dXL_law_165 : decode code 165 = .ok (.iconst 2, 1) := by decide +kernel
theorem dXL_law_166 : decode code 166 = .ok (.iadd, 1) := by decide +kernel
theorem dXL_law_167 : decode code 167 = .ok (.iaload, 1) := by decide +kernel
theorem dXL_law_168 : decode code 168 = .ok (.i2l, 1) := by decide +kernel
theorem dXL_law_169 : decode code 169 = .ok (.bipush 32, 2) := by decide +kernel
theorem dXL_law_171 : decode code 171 = .ok (.lshl, 1) := by decide +kernel
theorem dXL_law_172 : decode code 172 = .ok (.aload_n 0, 1) := by decide +kernel
theorem dXL_law_173 : decode code 173 = .ok (.iload_n 3, 1) := by decide +kernel
theorem dXL_law_174 : decode code 174 = .ok (.iconst 3, 1) := by decide +kernel
theorem dXL_law_175 : decode code 175 = .ok (.iadd, 1) := by decide +kernel
theorem dXL_law_176 : decode code 176 = .ok (.iaload, 1) := by decide +kernel
theorem dXL_law_177 : decode code 177 = .ok (.i2l, 1) := by decide +kernel
theorem dXL_law_178 : decode code 178 = .ok (.ldc2_w 13, 3) := by decide +kernel
theorem dXL_law_181 : decode code 181 = .ok (.land, 1) := by decide +kernel
theorem dXL_law_182 : decode code 182 = .ok (.lor, 1) := by decide +kernel
theorem dXL_law_183 : decode code 183 = .ok (.invokevirtual 19, 3) := by decide +kernel
theorem dXL_law_186 : decode code 186 = .ok (.if_icmp .eq 744, 3) := by decide +kernel
theorem dXL_law_189 : decode code 189 = .ok (.iconst 0, 1) := by decide +kernel
theorem dXL_law_190 : decode code 190 = .ok (.ireturn, 1) := by decide +kernel
theorem dXL_law_191 : decode code 191 = .ok (.aload_n 1, 1) := by decide +kernel
theorem dXL_law_192 : decode code 192 = .ok (.aload_n 0, 1) := by decide +kernel
theorem dXL_law_193 : decode code 193 = .ok (.iload_n 3, 1) := by decide +kernel
theorem dXL_law_194 : decode code 194 = .ok (.iconst 1, 1) := by decide +kernel
theorem dXL_law_195 : decode code 195 = .ok (.iadd, 1) := by decide +kernel
theorem dXL_law_196 : decode code 196 = .ok (.iaload, 1) := by decide +kernel
theorem dXL_law_197 : decode code 197 = .ok (.aload_n 0, 1) := by decide +kernel
theorem dXL_law_198 : decode code 198 = .ok (.iload_n 3, 1) := by decide +kernel
theorem dXL_law_199 : decode code 199 = .ok (.iconst 2, 1) := by decide +kernel
theorem dXL_law_200 : decode code 200 = .ok (.iadd, 1) := by decide +kernel
theorem dXL_law_201 : decode code 201 = .ok (.iaload, 1) := by decide +kernel
theorem dXL_law_202 : decode code 202 = .ok (.invokevirtual 20, 3) := by decide +kernel
theorem dXL_law_205 : decode code 205 = .ok (.aload_n 2, 1) := by decide +kernel
theorem dXL_law_206 : decode code 206 = .ok (.aload_n 0, 1) := by decide +kernel
theorem dXL_law_207 : decode code 207 = .ok (.iload_n 3, 1) := by decide +kernel
theorem dXL_law_208 : decode code 208 = .ok (.iconst 1, 1) := by decide +kernel
theorem dXL_law_209 : decode code 209 = .ok (.iadd, 1) := by decide +kernel
theorem dXL_law_210 : decode code 210 = .ok (.iaload, 1) := by decide +kernel
theorem dXL_law_211 : decode code 211 = .ok (.aload_n 0, 1) := by decide +kernel
theorem dXL_law_212 : decode code 212 = .ok (.iload_n 3, 1) := by decide +kernel
theorem dXL_law_213 : decode code 213 = .ok (.iconst 2, 1) := by decide +kernel
theorem dXL_law_214 : decode code 214 = .ok (.iadd, 1) := by decide +kernel
theorem dXL_law_215 : decode code 215 = .ok (.iaload, 1) := by decide +kernel
theorem dXL_law_216 : decode code 216 = .ok (.invokevirtual 24, 3) := by decide +kernel
theorem dXL_law_219 : decode code 219 = .ok (.if_icmp .eq 711, 3) := by decide +kernel
theorem dXL_law_222 : decode code 222 = .ok (.iconst 0, 1) := by decide +kernel
theorem dXL_law_223 : decode code 223 = .ok (.ireturn, 1) := by decide +kernel
theorem dXL_law_224 : decode code 224 = .ok (.aload_n 1, 1) := by decide +kernel
theorem dXL_law_225 : decode code 225 = .ok (.aload_n 0, 1) := by decide +kernel
theorem dXL_law_226 : decode code 226 = .ok (.iload_n 3, 1) := by decide +kernel
theorem dXL_law_227 : decode code 227 = .ok (.iconst 1, 1) := by decide +kernel
theorem dXL_law_228 : decode code 228 = .ok (.iadd, 1) := by decide +kernel
theorem dXL_law_229 : decode code 229 = .ok (.iaload, 1) := by decide +kernel
theorem dXL_law_230 : decode code 230 = .ok (.aload_n 0, 1) := by decide +kernel
theorem dXL_law_231 : decode code 231 = .ok (.iload_n 3, 1) := by decide +kernel
theorem dXL_law_232 : decode code 232 = .ok (.iconst 2, 1) := by decide +kernel
theorem dXL_law_233 : decode code 233 = .ok (.iadd, 1) := by decide +kernel
theorem dXL_law_234 : decode code 234 = .ok (.iaload, 1) := by decide +kernel
theorem dXL_law_235 : decode code 235 = .ok (.invokevirtual 25, 3) := by decide +kernel
theorem dXL_law_238 : decode code 238 = .ok (.aload_n 2, 1) := by decide +kernel
theorem dXL_law_239 : decode code 239 = .ok (.aload_n 0, 1) := by decide +kernel
theorem dXL_law_240 : decode code 240 = .ok (.iload_n 3, 1) := by decide +kernel
theorem dXL_law_241 : decode code 241 = .ok (.iconst 1, 1) := by decide +kernel
theorem dXL_law_242 : decode code 242 = .ok (.iadd, 1) := by decide +kernel
theorem dXL_law_243 : decode code 243 = .ok (.iaload, 1) := by decide +kernel
theorem dXL_law_244 : decode code 244 = .ok (.aload_n 0, 1) := by decide +kernel
theorem dXL_law_245 : decode code 245 = .ok (.iload_n 3, 1) := by decide +kernel
theorem dXL_law_246 : decode code 246 = .ok (.iconst 2, 1) := by decide +kernel
theorem dXL_law_247 : decode code 247 = .ok (.iadd, 1) := by decide +kernel
theorem dXL_law_248 : decode code 248 = .ok (.iaload, 1) := by decide +kernel
theorem dXL_law_249 : decode code 249 = .ok (.invokevirtual 28, 3) := by decide +kernel
theorem dXL_law_252 : decode code 252 = .ok (.if_icmp .eq 678, 3) := by decide +kernel
theorem dXL_law_255 : decode code 255 = .ok (.iconst 0, 1) := by decide +kernel
theorem dXL_law_256 : decode code 256 = .ok (.ireturn, 1) := by decide +kernel
theorem dXL_law_257 : decode code 257 = .ok (.aload_n 1, 1) := by decide +kernel
theorem dXL_law_258 : decode code 258 = .ok (.aload_n 0, 1) := by decide +kernel
theorem dXL_law_259 : decode code 259 = .ok (.iload_n 3, 1) := by decide +kernel
theorem dXL_law_260 : decode code 260 = .ok (.iconst 1, 1) := by decide +kernel
theorem dXL_law_261 : decode code 261 = .ok (.iadd, 1) := by decide +kernel
theorem dXL_law_262 : decode code 262 = .ok (.iaload, 1) := by decide +kernel
theorem dXL_law_263 : decode code 263 = .ok (.aload_n 0, 1) := by decide +kernel
theorem dXL_law_264 : decode code 264 = .ok (.iload_n 3, 1) := by decide +kernel
theorem dXL_law_265 : decode code 265 = .ok (.iconst 2, 1) := by decide +kernel
theorem dXL_law_266 : decode code 266 = .ok (.iadd, 1) := by decide +kernel
theorem dXL_law_267 : decode code 267 = .ok (.iaload, 1) := by decide +kernel
theorem dXL_law_268 : decode code 268 = .ok (.aload_n 0, 1) := by decide +kernel
theorem dXL_law_269 : decode code 269 = .ok (.iload_n 3, 1) := by decide +kernel
theorem dXL_law_270 : decode code 270 = .ok (.iconst 3, 1) := by decide +kernel
theorem dXL_law_271 : decode code 271 = .ok (.iadd, 1) := by decide +kernel
theorem dXL_law_272 : decode code 272 = .ok (.iaload, 1) := by decide +kernel
theorem dXL_law_273 : decode code 273 = .ok (.invokevirtual 29, 3) := by decide +kernel
theorem dXL_law_276 : decode code 276 = .ok (.aload_n 2, 1) := by decide +kernel
theorem dXL_law_277 : decode code 277 = .ok (.aload_n 0, 1) := by decide +kernel
theorem dXL_law_278 : decode code 278 = .ok (.iload_n 3, 1) := by decide +kernel
theorem dXL_law_279 : decode code 279 = .ok (.iconst 1, 1) := by decide +kernel
theorem dXL_law_280 : decode code 280 = .ok (.iadd, 1) := by decide +kernel
theorem dXL_law_281 : decode code 281 = .ok (.iaload, 1) := by decide +kernel
theorem dXL_law_282 : decode code 282 = .ok (.aload_n 0, 1) := by decide +kernel
theorem dXL_law_283 : decode code 283 = .ok (.iload_n 3, 1) := by decide +kernel
theorem dXL_law_284 : decode code 284 = .ok (.iconst 2, 1) := by decide +kernel
theorem dXL_law_285 : decode code 285 = .ok (.iadd, 1) := by decide +kernel
theorem dXL_law_286 : decode code 286 = .ok (.iaload, 1) := by decide +kernel
theorem dXL_law_287 : decode code 287 = .ok (.aload_n 0, 1) := by decide +kernel
theorem dXL_law_288 : decode code 288 = .ok (.iload_n 3, 1) := by decide +kernel
theorem dXL_law_289 : decode code 289 = .ok (.iconst 3, 1) := by decide +kernel
theorem dXL_law_290 : decode code 290 = .ok (.iadd, 1) := by decide +kernel
theorem dXL_law_291 : decode code 291 = .ok (.iaload, 1) := by decide +kernel
theorem dXL_law_292 : decode code 292 = .ok (.invokevirtual 33, 3) := by decide +kernel
theorem dXL_law_295 : decode code 295 = .ok (.if_icmp .eq 635, 3) := by decide +kernel
theorem dXL_law_298 : decode code 298 = .ok (.iconst 0, 1) := by decide +kernel
theorem dXL_law_299 : decode code 299 = .ok (.ireturn, 1) := by decide +kernel
theorem dXL_law_300 : decode code 300 = .ok (.aload_n 1, 1) := by decide +kernel
theorem dXL_law_301 : decode code 301 = .ok (.aload_n 0, 1) := by decide +kernel
theorem dXL_law_302 : decode code 302 = .ok (.iload_n 3, 1) := by decide +kernel
theorem dXL_law_303 : decode code 303 = .ok (.iconst 1, 1) := by decide +kernel
theorem dXL_law_304 : decode code 304 = .ok (.iadd, 1) := by decide +kernel
theorem dXL_law_305 : decode code 305 = .ok (.iaload, 1) := by decide +kernel
theorem dXL_law_306 : decode code 306 = .ok (.aload_n 0, 1) := by decide +kernel
theorem dXL_law_307 : decode code 307 = .ok (.iload_n 3, 1) := by decide +kernel
theorem dXL_law_308 : decode code 308 = .ok (.iconst 2, 1) := by decide +kernel
theorem dXL_law_309 : decode code 309 = .ok (.iadd, 1) := by decide +kernel
theorem dXL_law_310 : decode code 310 = .ok (.iaload, 1) := by decide +kernel
theorem dXL_law_311 : decode code 311 = .ok (.aload_n 0, 1) := by decide +kernel
theorem dXL_law_312 : decode code 312 = .ok (.iload_n 3, 1) := by decide +kernel
theorem dXL_law_313 : decode code 313 = .ok (.iconst 3, 1) := by decide +kernel
theorem dXL_law_314 : decode code 314 = .ok (.iadd, 1) := by decide +kernel
theorem dXL_law_315 : decode code 315 = .ok (.iaload, 1) := by decide +kernel
theorem dXL_law_316 : decode code 316 = .ok (.invokevirtual 34, 3) := by decide +kernel
theorem dXL_law_319 : decode code 319 = .ok (.aload_n 2, 1) := by decide +kernel
theorem dXL_law_320 : decode code 320 = .ok (.aload_n 0, 1) := by decide +kernel
theorem dXL_law_321 : decode code 321 = .ok (.iload_n 3, 1) := by decide +kernel
theorem dXL_law_322 : decode code 322 = .ok (.iconst 1, 1) := by decide +kernel
theorem dXL_law_323 : decode code 323 = .ok (.iadd, 1) := by decide +kernel
theorem dXL_law_324 : decode code 324 = .ok (.iaload, 1) := by decide +kernel
theorem dXL_law_325 : decode code 325 = .ok (.aload_n 0, 1) := by decide +kernel
theorem dXL_law_326 : decode code 326 = .ok (.iload_n 3, 1) := by decide +kernel
theorem dXL_law_327 : decode code 327 = .ok (.iconst 2, 1) := by decide +kernel
theorem dXL_law_328 : decode code 328 = .ok (.iadd, 1) := by decide +kernel
theorem dXL_law_329 : decode code 329 = .ok (.iaload, 1) := by decide +kernel
theorem dXL_law_330 : decode code 330 = .ok (.aload_n 0, 1) := by decide +kernel
theorem dXL_law_331 : decode code 331 = .ok (.iload_n 3, 1) := by decide +kernel
theorem dXL_law_332 : decode code 332 = .ok (.iconst 3, 1) := by decide +kernel
theorem dXL_law_333 : decode code 333 = .ok (.iadd, 1) := by decide +kernel
theorem dXL_law_334 : decode code 334 = .ok (.iaload, 1) := by decide +kernel
theorem dXL_law_335 : decode code 335 = .ok (.invokevirtual 37, 3) := by decide +kernel
theorem dXL_law_338 : decode code 338 = .ok (.if_icmp .eq 592, 3) := by decide +kernel
theorem dXL_law_341 : decode code 341 = .ok (.iconst 0, 1) := by decide +kernel
theorem dXL_law_342 : decode code 342 = .ok (.ireturn, 1) := by decide +kernel
theorem dXL_law_343 : decode code 343 = .ok (.aload_n 1, 1) := by decide +kernel
theorem dXL_law_344 : decode code 344 = .ok (.aload_n 0, 1) := by decide +kernel
theorem dXL_law_345 : decode code 345 = .ok (.iload_n 3, 1) := by decide +kernel
theorem dXL_law_346 : decode code 346 = .ok (.iconst 1, 1) := by decide +kernel
theorem dXL_law_347 : decode code 347 = .ok (.iadd, 1) := by decide +kernel
theorem dXL_law_348 : decode code 348 = .ok (.iaload, 1) := by decide +kernel
theorem dXL_law_349 : decode code 349 = .ok (.aload_n 0, 1) := by decide +kernel
theorem dXL_law_350 : decode code 350 = .ok (.iload_n 3, 1) := by decide +kernel
theorem dXL_law_351 : decode code 351 = .ok (.iconst 2, 1) := by decide +kernel
theorem dXL_law_352 : decode code 352 = .ok (.iadd, 1) := by decide +kernel
theorem dXL_law_353 : decode code 353 = .ok (.iaload, 1) := by decide +kernel
theorem dXL_law_354 : decode code 354 = .ok (.aload_n 0, 1) := by decide +kernel
theorem dXL_law_355 : decode code 355 = .ok (.iload_n 3, 1) := by decide +kernel
theorem dXL_law_356 : decode code 356 = .ok (.iconst 3, 1) := by decide +kernel
theorem dXL_law_357 : decode code 357 = .ok (.iadd, 1) := by decide +kernel
theorem dXL_law_358 : decode code 358 = .ok (.iaload, 1) := by decide +kernel
theorem dXL_law_359 : decode code 359 = .ok (.invokevirtual 38, 3) := by decide +kernel
theorem dXL_law_362 : decode code 362 = .ok (.aload_n 2, 1) := by decide +kernel
theorem dXL_law_363 : decode code 363 = .ok (.aload_n 0, 1) := by decide +kernel
theorem dXL_law_364 : decode code 364 = .ok (.iload_n 3, 1) := by decide +kernel
theorem dXL_law_365 : decode code 365 = .ok (.iconst 1, 1) := by decide +kernel
theorem dXL_law_366 : decode code 366 = .ok (.iadd, 1) := by decide +kernel
theorem dXL_law_367 : decode code 367 = .ok (.iaload, 1) := by decide +kernel
theorem dXL_law_368 : decode code 368 = .ok (.aload_n 0, 1) := by decide +kernel
theorem dXL_law_369 : decode code 369 = .ok (.iload_n 3, 1) := by decide +kernel
theorem dXL_law_370 : decode code 370 = .ok (.iconst 2, 1) := by decide +kernel
theorem dXL_law_371 : decode code 371 = .ok (.iadd, 1) := by decide +kernel
theorem dXL_law_372 : decode code 372 = .ok (.iaload, 1) := by decide +kernel
theorem dXL_law_373 : decode code 373 = .ok (.aload_n 0, 1) := by decide +kernel
theorem dXL_law_374 : decode code 374 = .ok (.iload_n 3, 1) := by decide +kernel
theorem dXL_law_375 : decode code 375 = .ok (.iconst 3, 1) := by decide +kernel
theorem dXL_law_376 : decode code 376 = .ok (.iadd, 1) := by decide +kernel
theorem dXL_law_377 : decode code 377 = .ok (.iaload, 1) := by decide +kernel
theorem dXL_law_378 : decode code 378 = .ok (.invokevirtual 41, 3) := by decide +kernel
theorem dXL_law_381 : decode code 381 = .ok (.if_icmp .eq 549, 3) := by decide +kernel
theorem dXL_law_384 : decode code 384 = .ok (.iconst 0, 1) := by decide +kernel
theorem dXL_law_385 : decode code 385 = .ok (.ireturn, 1) := by decide +kernel
theorem dXL_law_386 : decode code 386 = .ok (.aload_n 1, 1) := by decide +kernel
theorem dXL_law_387 : decode code 387 = .ok (.aload_n 0, 1) := by decide +kernel
theorem dXL_law_388 : decode code 388 = .ok (.iload_n 3, 1) := by decide +kernel
theorem dXL_law_389 : decode code 389 = .ok (.iconst 1, 1) := by decide +kernel
theorem dXL_law_390 : decode code 390 = .ok (.iadd, 1) := by decide +kernel
theorem dXL_law_391 : decode code 391 = .ok (.iaload, 1) := by decide +kernel
theorem dXL_law_392 : decode code 392 = .ok (.aload_n 0, 1) := by decide +kernel
theorem dXL_law_393 : decode code 393 = .ok (.iload_n 3, 1) := by decide +kernel
theorem dXL_law_394 : decode code 394 = .ok (.iconst 2, 1) := by decide +kernel
theorem dXL_law_395 : decode code 395 = .ok (.iadd, 1) := by decide +kernel
theorem dXL_law_396 : decode code 396 = .ok (.iaload, 1) := by decide +kernel
theorem dXL_law_397 : decode code 397 = .ok (.aload_n 0, 1) := by decide +kernel
theorem dXL_law_398 : decode code 398 = .ok (.iload_n 3, 1) := by decide +kernel
theorem dXL_law_399 : decode code 399 = .ok (.iconst 3, 1) := by decide +kernel
theorem dXL_law_400 : decode code 400 = .ok (.iadd, 1) := by decide +kernel
theorem dXL_law_401 : decode code 401 = .ok (.iaload, 1) := by decide +kernel
theorem dXL_law_402 : decode code 402 = .ok (.invokevirtual 42, 3) := by decide +kernel
theorem dXL_law_405 : decode code 405 = .ok (.aload_n 2, 1) := by decide +kernel
theorem dXL_law_406 : decode code 406 = .ok (.aload_n 0, 1) := by decide +kernel
theorem dXL_law_407 : decode code 407 = .ok (.iload_n 3, 1) := by decide +kernel
theorem dXL_law_408 : decode code 408 = .ok (.iconst 1, 1) := by decide +kernel
theorem dXL_law_409 : decode code 409 = .ok (.iadd, 1) := by decide +kernel
theorem dXL_law_410 : decode code 410 = .ok (.iaload, 1) := by decide +kernel
theorem dXL_law_411 : decode code 411 = .ok (.aload_n 0, 1) := by decide +kernel
theorem dXL_law_412 : decode code 412 = .ok (.iload_n 3, 1) := by decide +kernel
theorem dXL_law_413 : decode code 413 = .ok (.iconst 2, 1) := by decide +kernel
theorem dXL_law_414 : decode code 414 = .ok (.iadd, 1) := by decide +kernel
theorem dXL_law_415 : decode code 415 = .ok (.iaload, 1) := by decide +kernel
theorem dXL_law_416 : decode code 416 = .ok (.aload_n 0, 1) := by decide +kernel
theorem dXL_law_417 : decode code 417 = .ok (.iload_n 3, 1) := by decide +kernel
theorem dXL_law_418 : decode code 418 = .ok (.iconst 3, 1) := by decide +kernel
theorem dXL_law_419 : decode code 419 = .ok (.iadd, 1) := by decide +kernel
theorem dXL_law_420 : decode code 420 = .ok (.iaload, 1) := by decide +kernel
theorem dXL_law_421 : decode code 421 = .ok (.invokevirtual 45, 3) := by decide +kernel
theorem dXL_law_424 : decode code 424 = .ok (.if_icmp .eq 506, 3) := by decide +kernel
theorem dXL_law_427 : decode code 427 = .ok (.iconst 0, 1) := by decide +kernel
theorem dXL_law_428 : decode code 428 = .ok (.ireturn, 1) := by decide +kernel
theorem dXL_law_429 : decode code 429 = .ok (.aload_n 1, 1) := by decide +kernel
theorem dXL_law_430 : decode code 430 = .ok (.aload_n 0, 1) := by decide +kernel
theorem dXL_law_431 : decode code 431 = .ok (.iload_n 3, 1) := by decide +kernel
theorem dXL_law_432 : decode code 432 = .ok (.iconst 1, 1) := by decide +kernel
theorem dXL_law_433 : decode code 433 = .ok (.iadd, 1) := by decide +kernel
theorem dXL_law_434 : decode code 434 = .ok (.iaload, 1) := by decide +kernel
theorem dXL_law_435 : decode code 435 = .ok (.aload_n 0, 1) := by decide +kernel
theorem dXL_law_436 : decode code 436 = .ok (.iload_n 3, 1) := by decide +kernel
theorem dXL_law_437 : decode code 437 = .ok (.iconst 2, 1) := by decide +kernel
theorem dXL_law_438 : decode code 438 = .ok (.iadd, 1) := by decide +kernel
theorem dXL_law_439 : decode code 439 = .ok (.iaload, 1) := by decide +kernel
theorem dXL_law_440 : decode code 440 = .ok (.aload_n 0, 1) := by decide +kernel
theorem dXL_law_441 : decode code 441 = .ok (.iload_n 3, 1) := by decide +kernel
theorem dXL_law_442 : decode code 442 = .ok (.iconst 3, 1) := by decide +kernel
theorem dXL_law_443 : decode code 443 = .ok (.iadd, 1) := by decide +kernel
theorem dXL_law_444 : decode code 444 = .ok (.iaload, 1) := by decide +kernel
theorem dXL_law_445 : decode code 445 = .ok (.invokevirtual 46, 3) := by decide +kernel
theorem dXL_law_448 : decode code 448 = .ok (.aload_n 2, 1) := by decide +kernel
theorem dXL_law_449 : decode code 449 = .ok (.aload_n 0, 1) := by decide +kernel
theorem dXL_law_450 : decode code 450 = .ok (.iload_n 3, 1) := by decide +kernel
theorem dXL_law_451 : decode code 451 = .ok (.iconst 1, 1) := by decide +kernel
theorem dXL_law_452 : decode code 452 = .ok (.iadd, 1) := by decide +kernel
theorem dXL_law_453 : decode code 453 = .ok (.iaload, 1) := by decide +kernel
theorem dXL_law_454 : decode code 454 = .ok (.aload_n 0, 1) := by decide +kernel
theorem dXL_law_455 : decode code 455 = .ok (.iload_n 3, 1) := by decide +kernel
theorem dXL_law_456 : decode code 456 = .ok (.iconst 2, 1) := by decide +kernel
theorem dXL_law_457 : decode code 457 = .ok (.iadd, 1) := by decide +kernel
theorem dXL_law_458 : decode code 458 = .ok (.iaload, 1) := by decide +kernel
theorem dXL_law_459 : decode code 459 = .ok (.aload_n 0, 1) := by decide +kernel
theorem dXL_law_460 : decode code 460 = .ok (.iload_n 3, 1) := by decide +kernel
theorem dXL_law_461 : decode code 461 = .ok (.iconst 3, 1) := by decide +kernel
theorem dXL_law_462 : decode code 462 = .ok (.iadd, 1) := by decide +kernel
theorem dXL_law_463 : decode code 463 = .ok (.iaload, 1) := by decide +kernel
theorem dXL_law_464 : decode code 464 = .ok (.invokevirtual 49, 3) := by decide +kernel
theorem dXL_law_467 : decode code 467 = .ok (.if_icmp .eq 463, 3) := by decide +kernel
theorem dXL_law_470 : decode code 470 = .ok (.iconst 0, 1) := by decide +kernel
theorem dXL_law_471 : decode code 471 = .ok (.ireturn, 1) := by decide +kernel
theorem dXL_law_472 : decode code 472 = .ok (.aload_n 1, 1) := by decide +kernel
theorem dXL_law_473 : decode code 473 = .ok (.aload_n 0, 1) := by decide +kernel
theorem dXL_law_474 : decode code 474 = .ok (.iload_n 3, 1) := by decide +kernel
theorem dXL_law_475 : decode code 475 = .ok (.iconst 1, 1) := by decide +kernel
theorem dXL_law_476 : decode code 476 = .ok (.iadd, 1) := by decide +kernel
theorem dXL_law_477 : decode code 477 = .ok (.iaload, 1) := by decide +kernel
theorem dXL_law_478 : decode code 478 = .ok (.aload_n 0, 1) := by decide +kernel
theorem dXL_law_479 : decode code 479 = .ok (.iload_n 3, 1) := by decide +kernel
theorem dXL_law_480 : decode code 480 = .ok (.iconst 2, 1) := by decide +kernel
theorem dXL_law_481 : decode code 481 = .ok (.iadd, 1) := by decide +kernel
theorem dXL_law_482 : decode code 482 = .ok (.iaload, 1) := by decide +kernel
theorem dXL_law_483 : decode code 483 = .ok (.aload_n 0, 1) := by decide +kernel
theorem dXL_law_484 : decode code 484 = .ok (.iload_n 3, 1) := by decide +kernel
theorem dXL_law_485 : decode code 485 = .ok (.iconst 3, 1) := by decide +kernel
theorem dXL_law_486 : decode code 486 = .ok (.iadd, 1) := by decide +kernel
theorem dXL_law_487 : decode code 487 = .ok (.iaload, 1) := by decide +kernel
theorem dXL_law_488 : decode code 488 = .ok (.invokevirtual 50, 3) := by decide +kernel
theorem dXL_law_491 : decode code 491 = .ok (.aload_n 2, 1) := by decide +kernel
theorem dXL_law_492 : decode code 492 = .ok (.aload_n 0, 1) := by decide +kernel
theorem dXL_law_493 : decode code 493 = .ok (.iload_n 3, 1) := by decide +kernel
theorem dXL_law_494 : decode code 494 = .ok (.iconst 1, 1) := by decide +kernel
theorem dXL_law_495 : decode code 495 = .ok (.iadd, 1) := by decide +kernel
theorem dXL_law_496 : decode code 496 = .ok (.iaload, 1) := by decide +kernel
theorem dXL_law_497 : decode code 497 = .ok (.aload_n 0, 1) := by decide +kernel
theorem dXL_law_498 : decode code 498 = .ok (.iload_n 3, 1) := by decide +kernel
theorem dXL_law_499 : decode code 499 = .ok (.iconst 2, 1) := by decide +kernel
theorem dXL_law_500 : decode code 500 = .ok (.iadd, 1) := by decide +kernel
theorem dXL_law_501 : decode code 501 = .ok (.iaload, 1) := by decide +kernel
theorem dXL_law_502 : decode code 502 = .ok (.aload_n 0, 1) := by decide +kernel
theorem dXL_law_503 : decode code 503 = .ok (.iload_n 3, 1) := by decide +kernel
theorem dXL_law_504 : decode code 504 = .ok (.iconst 3, 1) := by decide +kernel
theorem dXL_law_505 : decode code 505 = .ok (.iadd, 1) := by decide +kernel
theorem dXL_law_506 : decode code 506 = .ok (.iaload, 1) := by decide +kernel
theorem dXL_law_507 : decode code 507 = .ok (.invokevirtual 53, 3) := by decide +kernel
theorem dXL_law_510 : decode code 510 = .ok (.if_icmp .eq 420, 3) := by decide +kernel
theorem dXL_law_513 : decode code 513 = .ok (.iconst 0, 1) := by decide +kernel
theorem dXL_law_514 : decode code 514 = .ok (.ireturn, 1) := by decide +kernel
theorem dXL_law_515 : decode code 515 = .ok (.aload_n 1, 1) := by decide +kernel
theorem dXL_law_516 : decode code 516 = .ok (.aload_n 0, 1) := by decide +kernel
theorem dXL_law_517 : decode code 517 = .ok (.iload_n 3, 1) := by decide +kernel
theorem dXL_law_518 : decode code 518 = .ok (.iconst 1, 1) := by decide +kernel
theorem dXL_law_519 : decode code 519 = .ok (.iadd, 1) := by decide +kernel
theorem dXL_law_520 : decode code 520 = .ok (.iaload, 1) := by decide +kernel
theorem dXL_law_521 : decode code 521 = .ok (.aload_n 0, 1) := by decide +kernel
theorem dXL_law_522 : decode code 522 = .ok (.iload_n 3, 1) := by decide +kernel
theorem dXL_law_523 : decode code 523 = .ok (.iconst 2, 1) := by decide +kernel
theorem dXL_law_524 : decode code 524 = .ok (.iadd, 1) := by decide +kernel
theorem dXL_law_525 : decode code 525 = .ok (.iaload, 1) := by decide +kernel
theorem dXL_law_526 : decode code 526 = .ok (.invokevirtual 54, 3) := by decide +kernel
theorem dXL_law_529 : decode code 529 = .ok (.aload_n 2, 1) := by decide +kernel
theorem dXL_law_530 : decode code 530 = .ok (.aload_n 0, 1) := by decide +kernel
theorem dXL_law_531 : decode code 531 = .ok (.iload_n 3, 1) := by decide +kernel
theorem dXL_law_532 : decode code 532 = .ok (.iconst 1, 1) := by decide +kernel
theorem dXL_law_533 : decode code 533 = .ok (.iadd, 1) := by decide +kernel
theorem dXL_law_534 : decode code 534 = .ok (.iaload, 1) := by decide +kernel
theorem dXL_law_535 : decode code 535 = .ok (.aload_n 0, 1) := by decide +kernel
theorem dXL_law_536 : decode code 536 = .ok (.iload_n 3, 1) := by decide +kernel
theorem dXL_law_537 : decode code 537 = .ok (.iconst 2, 1) := by decide +kernel
theorem dXL_law_538 : decode code 538 = .ok (.iadd, 1) := by decide +kernel
theorem dXL_law_539 : decode code 539 = .ok (.iaload, 1) := by decide +kernel
theorem dXL_law_540 : decode code 540 = .ok (.invokevirtual 57, 3) := by decide +kernel
theorem dXL_law_543 : decode code 543 = .ok (.if_icmp .eq 387, 3) := by decide +kernel
theorem dXL_law_546 : decode code 546 = .ok (.iconst 0, 1) := by decide +kernel
theorem dXL_law_547 : decode code 547 = .ok (.ireturn, 1) := by decide +kernel
theorem dXL_law_548 : decode code 548 = .ok (.aload_n 1, 1) := by decide +kernel
theorem dXL_law_549 : decode code 549 = .ok (.aload_n 0, 1) := by decide +kernel
theorem dXL_law_550 : decode code 550 = .ok (.iload_n 3, 1) := by decide +kernel
theorem dXL_law_551 : decode code 551 = .ok (.iconst 1, 1) := by decide +kernel
theorem dXL_law_552 : decode code 552 = .ok (.iadd, 1) := by decide +kernel
theorem dXL_law_553 : decode code 553 = .ok (.iaload, 1) := by decide +kernel
theorem dXL_law_554 : decode code 554 = .ok (.aload_n 0, 1) := by decide +kernel
theorem dXL_law_555 : decode code 555 = .ok (.iload_n 3, 1) := by decide +kernel
theorem dXL_law_556 : decode code 556 = .ok (.iconst 2, 1) := by decide +kernel
theorem dXL_law_557 : decode code 557 = .ok (.iadd, 1) := by decide +kernel
theorem dXL_law_558 : decode code 558 = .ok (.iaload, 1) := by decide +kernel
theorem dXL_law_559 : decode code 559 = .ok (.aload_n 0, 1) := by decide +kernel
theorem dXL_law_560 : decode code 560 = .ok (.iload_n 3, 1) := by decide +kernel
theorem dXL_law_561 : decode code 561 = .ok (.iconst 3, 1) := by decide +kernel
theorem dXL_law_562 : decode code 562 = .ok (.iadd, 1) := by decide +kernel
theorem dXL_law_563 : decode code 563 = .ok (.iaload, 1) := by decide +kernel
theorem dXL_law_564 : decode code 564 = .ok (.invokevirtual 58, 3) := by decide +kernel
theorem dXL_law_567 : decode code 567 = .ok (.aload_n 2, 1) := by decide +kernel
theorem dXL_law_568 : decode code 568 = .ok (.aload_n 0, 1) := by decide +kernel
theorem dXL_law_569 : decode code 569 = .ok (.iload_n 3, 1) := by decide +kernel
theorem dXL_law_570 : decode code 570 = .ok (.iconst 1, 1) := by decide +kernel
theorem dXL_law_571 : decode code 571 = .ok (.iadd, 1) := by decide +kernel
theorem dXL_law_572 : decode code 572 = .ok (.iaload, 1) := by decide +kernel
theorem dXL_law_573 : decode code 573 = .ok (.aload_n 0, 1) := by decide +kernel
theorem dXL_law_574 : decode code 574 = .ok (.iload_n 3, 1) := by decide +kernel
theorem dXL_law_575 : decode code 575 = .ok (.iconst 2, 1) := by decide +kernel
theorem dXL_law_576 : decode code 576 = .ok (.iadd, 1) := by decide +kernel
theorem dXL_law_577 : decode code 577 = .ok (.iaload, 1) := by decide +kernel
theorem dXL_law_578 : decode code 578 = .ok (.aload_n 0, 1) := by decide +kernel
theorem dXL_law_579 : decode code 579 = .ok (.iload_n 3, 1) := by decide +kernel
theorem dXL_law_580 : decode code 580 = .ok (.iconst 3, 1) := by decide +kernel
theorem dXL_law_581 : decode code 581 = .ok (.iadd, 1) := by decide +kernel
theorem dXL_law_582 : decode code 582 = .ok (.iaload, 1) := by decide +kernel
theorem dXL_law_583 : decode code 583 = .ok (.invokevirtual 61, 3) := by decide +kernel
theorem dXL_law_586 : decode code 586 = .ok (.if_icmp .eq 344, 3) := by decide +kernel
theorem dXL_law_589 : decode code 589 = .ok (.iconst 0, 1) := by decide +kernel
theorem dXL_law_590 : decode code 590 = .ok (.ireturn, 1) := by decide +kernel
theorem dXL_law_591 : decode code 591 = .ok (.aload_n 1, 1) := by decide +kernel
theorem dXL_law_592 : decode code 592 = .ok (.aload_n 0, 1) := by decide +kernel
theorem dXL_law_593 : decode code 593 = .ok (.iload_n 3, 1) := by decide +kernel
theorem dXL_law_594 : decode code 594 = .ok (.iconst 1, 1) := by decide +kernel
theorem dXL_law_595 : decode code 595 = .ok (.iadd, 1) := by decide +kernel
theorem dXL_law_596 : decode code 596 = .ok (.iaload, 1) := by decide +kernel
theorem dXL_law_597 : decode code 597 = .ok (.aload_n 0, 1) := by decide +kernel
theorem dXL_law_598 : decode code 598 = .ok (.iload_n 3, 1) := by decide +kernel
theorem dXL_law_599 : decode code 599 = .ok (.iconst 2, 1) := by decide +kernel
theorem dXL_law_600 : decode code 600 = .ok (.iadd, 1) := by decide +kernel
theorem dXL_law_601 : decode code 601 = .ok (.iaload, 1) := by decide +kernel
theorem dXL_law_602 : decode code 602 = .ok (.invokevirtual 62, 3) := by decide +kernel
theorem dXL_law_605 : decode code 605 = .ok (.aload_n 2, 1) := by decide +kernel
theorem dXL_law_606 : decode code 606 = .ok (.aload_n 0, 1) := by decide +kernel
theorem dXL_law_607 : decode code 607 = .ok (.iload_n 3, 1) := by decide +kernel
theorem dXL_law_608 : decode code 608 = .ok (.iconst 1, 1) := by decide +kernel
theorem dXL_law_609 : decode code 609 = .ok (.iadd, 1) := by decide +kernel
theorem dXL_law_610 : decode code 610 = .ok (.iaload, 1) := by decide +kernel
theorem dXL_law_611 : decode code 611 = .ok (.aload_n 0, 1) := by decide +kernel
theorem dXL_law_612 : decode code 612 = .ok (.iload_n 3, 1) := by decide +kernel
theorem dXL_law_613 : decode code 613 = .ok (.iconst 2, 1) := by decide +kernel
theorem dXL_law_614 : decode code 614 = .ok (.iadd, 1) := by decide +kernel
theorem dXL_law_615 : decode code 615 = .ok (.iaload, 1) := by decide +kernel
theorem dXL_law_616 : decode code 616 = .ok (.invokevirtual 65, 3) := by decide +kernel
theorem dXL_law_619 : decode code 619 = .ok (.if_icmp .eq 311, 3) := by decide +kernel
theorem dXL_law_622 : decode code 622 = .ok (.iconst 0, 1) := by decide +kernel
theorem dXL_law_623 : decode code 623 = .ok (.ireturn, 1) := by decide +kernel
theorem dXL_law_624 : decode code 624 = .ok (.aload_n 1, 1) := by decide +kernel
theorem dXL_law_625 : decode code 625 = .ok (.aload_n 0, 1) := by decide +kernel
theorem dXL_law_626 : decode code 626 = .ok (.iload_n 3, 1) := by decide +kernel
theorem dXL_law_627 : decode code 627 = .ok (.iconst 1, 1) := by decide +kernel
theorem dXL_law_628 : decode code 628 = .ok (.iadd, 1) := by decide +kernel
theorem dXL_law_629 : decode code 629 = .ok (.iaload, 1) := by decide +kernel
theorem dXL_law_630 : decode code 630 = .ok (.aload_n 0, 1) := by decide +kernel
theorem dXL_law_631 : decode code 631 = .ok (.iload_n 3, 1) := by decide +kernel
theorem dXL_law_632 : decode code 632 = .ok (.iconst 2, 1) := by decide +kernel
theorem dXL_law_633 : decode code 633 = .ok (.iadd, 1) := by decide +kernel
theorem dXL_law_634 : decode code 634 = .ok (.iaload, 1) := by decide +kernel
theorem dXL_law_635 : decode code 635 = .ok (.aload_n 0, 1) := by decide +kernel
theorem dXL_law_636 : decode code 636 = .ok (.iload_n 3, 1) := by decide +kernel
theorem dXL_law_637 : decode code 637 = .ok (.iconst 3, 1) := by decide +kernel
theorem dXL_law_638 : decode code 638 = .ok (.iadd, 1) := by decide +kernel
theorem dXL_law_639 : decode code 639 = .ok (.iaload, 1) := by decide +kernel
theorem dXL_law_640 : decode code 640 = .ok (.aload_n 0, 1) := by decide +kernel
theorem dXL_law_641 : decode code 641 = .ok (.iload_n 3, 1) := by decide +kernel
theorem dXL_law_642 : decode code 642 = .ok (.iconst 4, 1) := by decide +kernel
theorem dXL_law_643 : decode code 643 = .ok (.iadd, 1) := by decide +kernel
theorem dXL_law_644 : decode code 644 = .ok (.iaload, 1) := by decide +kernel
theorem dXL_law_645 : decode code 645 = .ok (.invokevirtual 66, 3) := by decide +kernel
theorem dXL_law_648 : decode code 648 = .ok (.aload_n 2, 1) := by decide +kernel
theorem dXL_law_649 : decode code 649 = .ok (.aload_n 0, 1) := by decide +kernel
theorem dXL_law_650 : decode code 650 = .ok (.iload_n 3, 1) := by decide +kernel
theorem dXL_law_651 : decode code 651 = .ok (.iconst 1, 1) := by decide +kernel
theorem dXL_law_652 : decode code 652 = .ok (.iadd, 1) := by decide +kernel
theorem dXL_law_653 : decode code 653 = .ok (.iaload, 1) := by decide +kernel
theorem dXL_law_654 : decode code 654 = .ok (.aload_n 0, 1) := by decide +kernel
theorem dXL_law_655 : decode code 655 = .ok (.iload_n 3, 1) := by decide +kernel
theorem dXL_law_656 : decode code 656 = .ok (.iconst 2, 1) := by decide +kernel
theorem dXL_law_657 : decode code 657 = .ok (.iadd, 1) := by decide +kernel
theorem dXL_law_658 : decode code 658 = .ok (.iaload, 1) := by decide +kernel
theorem dXL_law_659 : decode code 659 = .ok (.aload_n 0, 1) := by decide +kernel
theorem dXL_law_660 : decode code 660 = .ok (.iload_n 3, 1) := by decide +kernel
theorem dXL_law_661 : decode code 661 = .ok (.iconst 3, 1) := by decide +kernel
theorem dXL_law_662 : decode code 662 = .ok (.iadd, 1) := by decide +kernel
theorem dXL_law_663 : decode code 663 = .ok (.iaload, 1) := by decide +kernel
theorem dXL_law_664 : decode code 664 = .ok (.aload_n 0, 1) := by decide +kernel
theorem dXL_law_665 : decode code 665 = .ok (.iload_n 3, 1) := by decide +kernel
theorem dXL_law_666 : decode code 666 = .ok (.iconst 4, 1) := by decide +kernel
theorem dXL_law_667 : decode code 667 = .ok (.iadd, 1) := by decide +kernel
theorem dXL_law_668 : decode code 668 = .ok (.iaload, 1) := by decide +kernel
theorem dXL_law_669 : decode code 669 = .ok (.invokevirtual 70, 3) := by decide +kernel
theorem dXL_law_672 : decode code 672 = .ok (.if_icmp .eq 258, 3) := by decide +kernel
theorem dXL_law_675 : decode code 675 = .ok (.iconst 0, 1) := by decide +kernel
theorem dXL_law_676 : decode code 676 = .ok (.ireturn, 1) := by decide +kernel
theorem dXL_law_677 : decode code 677 = .ok (.aload_n 1, 1) := by decide +kernel
theorem dXL_law_678 : decode code 678 = .ok (.aload_n 0, 1) := by decide +kernel
theorem dXL_law_679 : decode code 679 = .ok (.iload_n 3, 1) := by decide +kernel
theorem dXL_law_680 : decode code 680 = .ok (.iconst 1, 1) := by decide +kernel
theorem dXL_law_681 : decode code 681 = .ok (.iadd, 1) := by decide +kernel
theorem dXL_law_682 : decode code 682 = .ok (.iaload, 1) := by decide +kernel
theorem dXL_law_683 : decode code 683 = .ok (.aload_n 0, 1) := by decide +kernel
theorem dXL_law_684 : decode code 684 = .ok (.iload_n 3, 1) := by decide +kernel
theorem dXL_law_685 : decode code 685 = .ok (.iconst 2, 1) := by decide +kernel
theorem dXL_law_686 : decode code 686 = .ok (.iadd, 1) := by decide +kernel
theorem dXL_law_687 : decode code 687 = .ok (.iaload, 1) := by decide +kernel
theorem dXL_law_688 : decode code 688 = .ok (.invokevirtual 71, 3) := by decide +kernel
theorem dXL_law_691 : decode code 691 = .ok (.aload_n 2, 1) := by decide +kernel
theorem dXL_law_692 : decode code 692 = .ok (.aload_n 0, 1) := by decide +kernel
theorem dXL_law_693 : decode code 693 = .ok (.iload_n 3, 1) := by decide +kernel
theorem dXL_law_694 : decode code 694 = .ok (.iconst 1, 1) := by decide +kernel
theorem dXL_law_695 : decode code 695 = .ok (.iadd, 1) := by decide +kernel
theorem dXL_law_696 : decode code 696 = .ok (.iaload, 1) := by decide +kernel
theorem dXL_law_697 : decode code 697 = .ok (.aload_n 0, 1) := by decide +kernel
theorem dXL_law_698 : decode code 698 = .ok (.iload_n 3, 1) := by decide +kernel
theorem dXL_law_699 : decode code 699 = .ok (.iconst 2, 1) := by decide +kernel
theorem dXL_law_700 : decode code 700 = .ok (.iadd, 1) := by decide +kernel
theorem dXL_law_701 : decode code 701 = .ok (.iaload, 1) := by decide +kernel
theorem dXL_law_702 : decode code 702 = .ok (.invokevirtual 74, 3) := by decide +kernel
theorem dXL_law_705 : decode code 705 = .ok (.if_icmp .eq 225, 3) := by decide +kernel
theorem dXL_law_708 : decode code 708 = .ok (.iconst 0, 1) := by decide +kernel
theorem dXL_law_709 : decode code 709 = .ok (.ireturn, 1) := by decide +kernel
theorem dXL_law_710 : decode code 710 = .ok (.aload_n 1, 1) := by decide +kernel
theorem dXL_law_711 : decode code 711 = .ok (.aload_n 0, 1) := by decide +kernel
theorem dXL_law_712 : decode code 712 = .ok (.iload_n 3, 1) := by decide +kernel
theorem dXL_law_713 : decode code 713 = .ok (.iconst 1, 1) := by decide +kernel
theorem dXL_law_714 : decode code 714 = .ok (.iadd, 1) := by decide +kernel
theorem dXL_law_715 : decode code 715 = .ok (.iaload, 1) := by decide +kernel
theorem dXL_law_716 : decode code 716 = .ok (.aload_n 0, 1) := by decide +kernel
theorem dXL_law_717 : decode code 717 = .ok (.iload_n 3, 1) := by decide +kernel
theorem dXL_law_718 : decode code 718 = .ok (.iconst 2, 1) := by decide +kernel
theorem dXL_law_719 : decode code 719 = .ok (.iadd, 1) := by decide +kernel
theorem dXL_law_720 : decode code 720 = .ok (.iaload, 1) := by decide +kernel
theorem dXL_law_721 : decode code 721 = .ok (.aload_n 0, 1) := by decide +kernel
theorem dXL_law_722 : decode code 722 = .ok (.iload_n 3, 1) := by decide +kernel
theorem dXL_law_723 : decode code 723 = .ok (.iconst 3, 1) := by decide +kernel
theorem dXL_law_724 : decode code 724 = .ok (.iadd, 1) := by decide +kernel
theorem dXL_law_725 : decode code 725 = .ok (.iaload, 1) := by decide +kernel
theorem dXL_law_726 : decode code 726 = .ok (.aload_n 0, 1) := by decide +kernel
theorem dXL_law_727 : decode code 727 = .ok (.iload_n 3, 1) := by decide +kernel
theorem dXL_law_728 : decode code 728 = .ok (.iconst 4, 1) := by decide +kernel
theorem dXL_law_729 : decode code 729 = .ok (.iadd, 1) := by decide +kernel
theorem dXL_law_730 : decode code 730 = .ok (.iaload, 1) := by decide +kernel
theorem dXL_law_731 : decode code 731 = .ok (.invokevirtual 75, 3) := by decide +kernel
theorem dXL_law_734 : decode code 734 = .ok (.aload_n 2, 1) := by decide +kernel
theorem dXL_law_735 : decode code 735 = .ok (.aload_n 0, 1) := by decide +kernel
theorem dXL_law_736 : decode code 736 = .ok (.iload_n 3, 1) := by decide +kernel
theorem dXL_law_737 : decode code 737 = .ok (.iconst 1, 1) := by decide +kernel
theorem dXL_law_738 : decode code 738 = .ok (.iadd, 1) := by decide +kernel
theorem dXL_law_739 : decode code 739 = .ok (.iaload, 1) := by decide +kernel
theorem dXL_law_740 : decode code 740 = .ok (.aload_n 0, 1) := by decide +kernel
theorem dXL_law_741 : decode code 741 = .ok (.iload_n 3, 1) := by decide +kernel
theorem dXL_law_742 : decode code 742 = .ok (.iconst 2, 1) := by decide +kernel
theorem dXL_law_743 : decode code 743 = .ok (.iadd, 1) := by decide +kernel
theorem dXL_law_744 : decode code 744 = .ok (.iaload, 1) := by decide +kernel
theorem dXL_law_745 : decode code 745 = .ok (.aload_n 0, 1) := by decide +kernel
theorem dXL_law_746 : decode code 746 = .ok (.iload_n 3, 1) := by decide +kernel
theorem dXL_law_747 : decode code 747 = .ok (.iconst 3, 1) := by decide +kernel
theorem dXL_law_748 : decode code 748 = .ok (.iadd, 1) := by decide +kernel
theorem dXL_law_749 : decode code 749 = .ok (.iaload, 1) := by decide +kernel
theorem dXL_law_750 : decode code 750 = .ok (.aload_n 0, 1) := by decide +kernel
theorem dXL_law_751 : decode code 751 = .ok (.iload_n 3, 1) := by decide +kernel
theorem dXL_law_752 : decode code 752 = .ok (.iconst 4, 1) := by decide +kernel
theorem dXL_law_753 : decode code 753 = .ok (.iadd, 1) := by decide +kernel
theorem dXL_law_754 : decode code 754 = .ok (.iaload, 1) := by decide +kernel
theorem dXL_law_755 : decode code 755 = .ok (.invokevirtual 78, 3) := by decide +kernel
theorem dXL_law_758 : decode code 758 = .ok (.if_icmp .eq 172, 3) := by decide +kernel
theorem dXL_law_761 : decode code 761 = .ok (.iconst 0, 1) := by decide +kernel
theorem dXL_law_762 : decode code 762 = .ok (.ireturn, 1) := by decide +kernel
theorem dXL_law_763 : decode code 763 = .ok (.aload_n 1, 1) := by decide +kernel
theorem dXL_law_764 : decode code 764 = .ok (.aload_n 0, 1) := by decide +kernel
theorem dXL_law_765 : decode code 765 = .ok (.iload_n 3, 1) := by decide +kernel
theorem dXL_law_766 : decode code 766 = .ok (.iconst 1, 1) := by decide +kernel
theorem dXL_law_767 : decode code 767 = .ok (.iadd, 1) := by decide +kernel
theorem dXL_law_768 : decode code 768 = .ok (.iaload, 1) := by decide +kernel
theorem dXL_law_769 : decode code 769 = .ok (.invokevirtual 79, 3) := by decide +kernel
theorem dXL_law_772 : decode code 772 = .ok (.aload_n 2, 1) := by decide +kernel
theorem dXL_law_773 : decode code 773 = .ok (.aload_n 0, 1) := by decide +kernel
theorem dXL_law_774 : decode code 774 = .ok (.iload_n 3, 1) := by decide +kernel
theorem dXL_law_775 : decode code 775 = .ok (.iconst 1, 1) := by decide +kernel
theorem dXL_law_776 : decode code 776 = .ok (.iadd, 1) := by decide +kernel
theorem dXL_law_777 : decode code 777 = .ok (.iaload, 1) := by decide +kernel
theorem dXL_law_778 : decode code 778 = .ok (.invokevirtual 83, 3) := by decide +kernel
theorem dXL_law_781 : decode code 781 = .ok (.if_icmp .eq 149, 3) := by decide +kernel
theorem dXL_law_784 : decode code 784 = .ok (.iconst 0, 1) := by decide +kernel
theorem dXL_law_785 : decode code 785 = .ok (.ireturn, 1) := by decide +kernel
theorem dXL_law_786 : decode code 786 = .ok (.aload_n 1, 1) := by decide +kernel
theorem dXL_law_787 : decode code 787 = .ok (.aload_n 0, 1) := by decide +kernel
theorem dXL_law_788 : decode code 788 = .ok (.iload_n 3, 1) := by decide +kernel
theorem dXL_law_789 : decode code 789 = .ok (.iconst 1, 1) := by decide +kernel
theorem dXL_law_790 : decode code 790 = .ok (.iadd, 1) := by decide +kernel
theorem dXL_law_791 : decode code 791 = .ok (.iaload, 1) := by decide +kernel
theorem dXL_law_792 : decode code 792 = .ok (.invokevirtual 84, 3) := by decide +kernel
theorem dXL_law_795 : decode code 795 = .ok (.aload_n 2, 1) := by decide +kernel
theorem dXL_law_796 : decode code 796 = .ok (.aload_n 0, 1) := by decide +kernel
theorem dXL_law_797 : decode code 797 = .ok (.iload_n 3, 1) := by decide +kernel
theorem dXL_law_798 : decode code 798 = .ok (.iconst 1, 1) := by decide +kernel
theorem dXL_law_799 : decode code 799 = .ok (.iadd, 1) := by decide +kernel
theorem dXL_law_800 : decode code 800 = .ok (.iaload, 1) := by decide +kernel
theorem dXL_law_801 : decode code 801 = .ok (.invokevirtual 87, 3) := by decide +kernel
theorem dXL_law_804 : decode code 804 = .ok (.if_icmp .eq 126, 3) := by decide +kernel
theorem dXL_law_807 : decode code 807 = .ok (.iconst 0, 1) := by decide +kernel
theorem dXL_law_808 : decode code 808 = .ok (.ireturn, 1) := by decide +kernel
theorem dXL_law_809 : decode code 809 = .ok (.aload_n 1, 1) := by decide +kernel
theorem dXL_law_810 : decode code 810 = .ok (.aload_n 0, 1) := by decide +kernel
theorem dXL_law_811 : decode code 811 = .ok (.iload_n 3, 1) := by decide +kernel
theorem dXL_law_812 : decode code 812 = .ok (.iconst 1, 1) := by decide +kernel
theorem dXL_law_813 : decode code 813 = .ok (.iadd, 1) := by decide +kernel
theorem dXL_law_814 : decode code 814 = .ok (.iaload, 1) := by decide +kernel
theorem dXL_law_815 : decode code 815 = .ok (.aload_n 0, 1) := by decide +kernel
theorem dXL_law_816 : decode code 816 = .ok (.iload_n 3, 1) := by decide +kernel
theorem dXL_law_817 : decode code 817 = .ok (.iconst 2, 1) := by decide +kernel
theorem dXL_law_818 : decode code 818 = .ok (.iadd, 1) := by decide +kernel
theorem dXL_law_819 : decode code 819 = .ok (.iaload, 1) := by decide +kernel
theorem dXL_law_820 : decode code 820 = .ok (.invokevirtual 88, 3) := by decide +kernel
theorem dXL_law_823 : decode code 823 = .ok (.aload_n 2, 1) := by decide +kernel
theorem dXL_law_824 : decode code 824 = .ok (.aload_n 0, 1) := by decide +kernel
theorem dXL_law_825 : decode code 825 = .ok (.iload_n 3, 1) := by decide +kernel
theorem dXL_law_826 : decode code 826 = .ok (.iconst 1, 1) := by decide +kernel
theorem dXL_law_827 : decode code 827 = .ok (.iadd, 1) := by decide +kernel
theorem dXL_law_828 : decode code 828 = .ok (.iaload, 1) := by decide +kernel
theorem dXL_law_829 : decode code 829 = .ok (.aload_n 0, 1) := by decide +kernel
theorem dXL_law_830 : decode code 830 = .ok (.iload_n 3, 1) := by decide +kernel
theorem dXL_law_831 : decode code 831 = .ok (.iconst 2, 1) := by decide +kernel
theorem dXL_law_832 : decode code 832 = .ok (.iadd, 1) := by decide +kernel
theorem dXL_law_833 : decode code 833 = .ok (.iaload, 1) := by decide +kernel
theorem dXL_law_834 : decode code 834 = .ok (.invokevirtual 91, 3) := by decide +kernel
theorem dXL_law_837 : decode code 837 = .ok (.if_icmp .eq 93, 3) := by decide +kernel
theorem dXL_law_840 : decode code 840 = .ok (.iconst 0, 1) := by decide +kernel
theorem dXL_law_841 : decode code 841 = .ok (.ireturn, 1) := by decide +kernel
theorem dXL_law_842 : decode code 842 = .ok (.aload_n 1, 1) := by decide +kernel
theorem dXL_law_843 : decode code 843 = .ok (.aload_n 0, 1) := by decide +kernel
theorem dXL_law_844 : decode code 844 = .ok (.iload_n 3, 1) := by decide +kernel
theorem dXL_law_845 : decode code 845 = .ok (.iconst 1, 1) := by decide +kernel
theorem dXL_law_846 : decode code 846 = .ok (.iadd, 1) := by decide +kernel
theorem dXL_law_847 : decode code 847 = .ok (.iaload, 1) := by decide +kernel
theorem dXL_law_848 : decode code 848 = .ok (.aload_n 0, 1) := by decide +kernel
theorem dXL_law_849 : decode code 849 = .ok (.iload_n 3, 1) := by decide +kernel
theorem dXL_law_850 : decode code 850 = .ok (.iconst 2, 1) := by decide +kernel
theorem dXL_law_851 : decode code 851 = .ok (.iadd, 1) := by decide +kernel
theorem dXL_law_852 : decode code 852 = .ok (.iaload, 1) := by decide +kernel
theorem dXL_law_853 : decode code 853 = .ok (.i2l, 1) := by decide +kernel
theorem dXL_law_854 : decode code 854 = .ok (.bipush 32, 2) := by decide +kernel
theorem dXL_law_856 : decode code 856 = .ok (.lshl, 1) := by decide +kernel
theorem dXL_law_857 : decode code 857 = .ok (.aload_n 0, 1) := by decide +kernel
theorem dXL_law_858 : decode code 858 = .ok (.iload_n 3, 1) := by decide +kernel
theorem dXL_law_859 : decode code 859 = .ok (.iconst 3, 1) := by decide +kernel
theorem dXL_law_860 : decode code 860 = .ok (.iadd, 1) := by decide +kernel
theorem dXL_law_861 : decode code 861 = .ok (.iaload, 1) := by decide +kernel
theorem dXL_law_862 : decode code 862 = .ok (.i2l, 1) := by decide +kernel
theorem dXL_law_863 : decode code 863 = .ok (.ldc2_w 13, 3) := by decide +kernel
theorem dXL_law_866 : decode code 866 = .ok (.land, 1) := by decide +kernel
theorem dXL_law_867 : decode code 867 = .ok (.lor, 1) := by decide +kernel
theorem dXL_law_868 : decode code 868 = .ok (.invokevirtual 92, 3) := by decide +kernel
theorem dXL_law_871 : decode code 871 = .ok (.aload_n 2, 1) := by decide +kernel
theorem dXL_law_872 : decode code 872 = .ok (.aload_n 0, 1) := by decide +kernel
theorem dXL_law_873 : decode code 873 = .ok (.iload_n 3, 1) := by decide +kernel
theorem dXL_law_874 : decode code 874 = .ok (.iconst 1, 1) := by decide +kernel
theorem dXL_law_875 : decode code 875 = .ok (.iadd, 1) := by decide +kernel
theorem dXL_law_876 : decode code 876 = .ok (.iaload, 1) := by decide +kernel
theorem dXL_law_877 : decode code 877 = .ok (.aload_n 0, 1) := by decide +kernel
theorem dXL_law_878 : decode code 878 = .ok (.iload_n 3, 1) := by decide +kernel
theorem dXL_law_879 : decode code 879 = .ok (.iconst 2, 1) := by decide +kernel
theorem dXL_law_880 : decode code 880 = .ok (.iadd, 1) := by decide +kernel
theorem dXL_law_881 : decode code 881 = .ok (.iaload, 1) := by decide +kernel
theorem dXL_law_882 : decode code 882 = .ok (.i2l, 1) := by decide +kernel
theorem dXL_law_883 : decode code 883 = .ok (.bipush 32, 2) := by decide +kernel
theorem dXL_law_885 : decode code 885 = .ok (.lshl, 1) := by decide +kernel
theorem dXL_law_886 : decode code 886 = .ok (.aload_n 0, 1) := by decide +kernel
theorem dXL_law_887 : decode code 887 = .ok (.iload_n 3, 1) := by decide +kernel
theorem dXL_law_888 : decode code 888 = .ok (.iconst 3, 1) := by decide +kernel
theorem dXL_law_889 : decode code 889 = .ok (.iadd, 1) := by decide +kernel
theorem dXL_law_890 : decode code 890 = .ok (.iaload, 1) := by decide +kernel
theorem dXL_law_891 : decode code 891 = .ok (.i2l, 1) := by decide +kernel
theorem dXL_law_892 : decode code 892 = .ok (.ldc2_w 13, 3) := by decide +kernel
theorem dXL_law_895 : decode code 895 = .ok (.land, 1) := by decide +kernel
theorem dXL_law_896 : decode code 896 = .ok (.lor, 1) := by decide +kernel
theorem dXL_law_897 : decode code 897 = .ok (.invokevirtual 96, 3) := by decide +kernel
theorem dXL_law_900 : decode code 900 = .ok (.lcmp, 1) := by decide +kernel
theorem dXL_law_901 : decode code 901 = .ok (.ifCond .eq 29, 3) := by decide +kernel
theorem dXL_law_904 : decode code 904 = .ok (.iconst 0, 1) := by decide +kernel
theorem dXL_law_905 : decode code 905 = .ok (.ireturn, 1) := by decide +kernel
theorem dXL_law_906 : decode code 906 = .ok (.aload_n 1, 1) := by decide +kernel
theorem dXL_law_907 : decode code 907 = .ok (.aload_n 0, 1) := by decide +kernel
theorem dXL_law_908 : decode code 908 = .ok (.iload_n 3, 1) := by decide +kernel
theorem dXL_law_909 : decode code 909 = .ok (.iconst 1, 1) := by decide +kernel
theorem dXL_law_910 : decode code 910 = .ok (.iadd, 1) := by decide +kernel
theorem dXL_law_911 : decode code 911 = .ok (.iaload, 1) := by decide +kernel
theorem dXL_law_912 : decode code 912 = .ok (.invokevirtual 97, 3) := by decide +kernel
theorem dXL_law_915 : decode code 915 = .ok (.aload_n 2, 1) := by decide +kernel
theorem dXL_law_916 : decode code 916 = .ok (.aload_n 0, 1) := by decide +kernel
theorem dXL_law_917 : decode code 917 = .ok (.iload_n 3, 1) := by decide +kernel
theorem dXL_law_918 : decode code 918 = .ok (.iconst 1, 1) := by decide +kernel
theorem dXL_law_919 : decode code 919 = .ok (.iadd, 1) := by decide +kernel
theorem dXL_law_920 : decode code 920 = .ok (.iaload, 1) := by decide +kernel
theorem dXL_law_921 : decode code 921 = .ok (.invokevirtual 101, 3) := by decide +kernel
theorem dXL_law_924 : decode code 924 = .ok (.lcmp, 1) := by decide +kernel
theorem dXL_law_925 : decode code 925 = .ok (.ifCond .eq 5, 3) := by decide +kernel
theorem dXL_law_928 : decode code 928 = .ok (.iconst 0, 1) := by decide +kernel
theorem dXL_law_929 : decode code 929 = .ok (.ireturn, 1) := by decide +kernel
theorem dXL_law_930 : decode code 930 = .ok (.iinc 3 5, 3) := by decide +kernel
theorem dXL_law_933 : decode code 933 = .ok (.goto (-915), 3) := by decide +kernel
theorem dXL_law_936 : decode code 936 = .ok (.iconst 1, 1) := by decide +kernel
theorem dXL_law_937 : decode code 937 = .ok (.ireturn, 1) := by decide +kernel
theorem dXL_law_32 : decode code 32 = .ok (.tableswitch 898 0 19 #[96, 159, 192, 225, 268, 311, 354, 397, 440, 483, 516, 559, 592, 645, 678, 731, 754, 777, 810, 874], 96) := by decide +kernel
