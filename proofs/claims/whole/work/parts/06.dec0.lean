theorem dJ7_fill_53178_0 : decode cJ7_fill_53178 0 = .ok (.iconst 0, 1) := by decide +kernel
theorem dJ7_fill_53178_1 : decode cJ7_fill_53178 1 = .ok (.istore_n 2, 1) := by decide +kernel
theorem dJ7_fill_53178_2 : decode cJ7_fill_53178 2 = .ok (.aload_n 0, 1) := by decide +kernel
theorem dJ7_fill_53178_3 : decode cJ7_fill_53178 3 = .ok (.arraylength, 1) := by decide +kernel
theorem dJ7_fill_53178_4 : decode cJ7_fill_53178 4 = .ok (.istore_n 3, 1) := by decide +kernel
theorem dJ7_fill_53178_5 : decode cJ7_fill_53178 5 = .ok (.iload_n 2, 1) := by decide +kernel
theorem dJ7_fill_53178_6 : decode cJ7_fill_53178 6 = .ok (.iload_n 3, 1) := by decide +kernel
theorem dJ7_fill_53178_7 : decode cJ7_fill_53178 7 = .ok (.if_icmp .ge 13, 3) := by decide +kernel
theorem dJ7_fill_53178_10 : decode cJ7_fill_53178 10 = .ok (.aload_n 0, 1) := by decide +kernel
theorem dJ7_fill_53178_11 : decode cJ7_fill_53178 11 = .ok (.iload_n 2, 1) := by decide +kernel
theorem dJ7_fill_53178_12 : decode cJ7_fill_53178 12 = .ok (.iload_n 1, 1) := by decide +kernel
theorem dJ7_fill_53178_13 : decode cJ7_fill_53178 13 = .ok (.iastore, 1) := by decide +kernel
theorem dJ7_fill_53178_14 : decode cJ7_fill_53178 14 = .ok (.iinc 2 1, 3) := by decide +kernel
theorem dJ7_fill_53178_17 : decode cJ7_fill_53178 17 = .ok (.goto (-12), 3) := by decide +kernel
theorem dJ7_fill_53178_20 : decode cJ7_fill_53178 20 = .ok (.return_, 1) := by decide +kernel
theorem dJ7_fill_d0a16_0 : decode cJ7_fill_d0a16 0 = .ok (.iconst 0, 1) := by decide +kernel
theorem dJ7_fill_d0a16_1 : decode cJ7_fill_d0a16 1 = .ok (.istore_n 3, 1) := by decide +kernel
theorem dJ7_fill_d0a16_2 : decode cJ7_fill_d0a16 2 = .ok (.aload_n 0, 1) := by decide +kernel
theorem dJ7_fill_d0a16_3 : decode cJ7_fill_d0a16 3 = .ok (.arraylength, 1) := by decide +kernel
theorem dJ7_fill_d0a16_4 : decode cJ7_fill_d0a16 4 = .ok (.istore 4, 2) := by decide +kernel
theorem dJ7_fill_d0a16_6 : decode cJ7_fill_d0a16 6 = .ok (.iload_n 3, 1) := by decide +kernel
theorem dJ7_fill_d0a16_7 : decode cJ7_fill_d0a16 7 = .ok (.iload 4, 2) := by decide +kernel
theorem dJ7_fill_d0a16_9 : decode cJ7_fill_d0a16 9 = .ok (.if_icmp .ge 13, 3) := by decide +kernel
theorem dJ7_fill_d0a16_12 : decode cJ7_fill_d0a16 12 = .ok (.aload_n 0, 1) := by decide +kernel
theorem dJ7_fill_d0a16_13 : decode cJ7_fill_d0a16 13 = .ok (.iload_n 3, 1) := by decide +kernel
theorem dJ7_fill_d0a16_14 : decode cJ7_fill_d0a16 14 = .ok (.lload_n 1, 1) := by decide +kernel
theorem dJ7_fill_d0a16_15 : decode cJ7_fill_d0a16 15 = .ok (.lastore, 1) := by decide +kernel
theorem dJ7_fill_d0a16_16 : decode cJ7_fill_d0a16 16 = .ok (.iinc 3 1, 3) := by decide +kernel
theorem dJ7_fill_d0a16_19 : decode cJ7_fill_d0a16 19 = .ok (.goto (-13), 3) := by decide +kernel
theorem dJ7_fill_d0a16_22 : decode cJ7_fill_d0a16 22 = .ok (.return_, 1) := by decide +kernel
theorem dL_law_0 : decode code 0 = .ok (.new 7, 3) := by decide +kernel
theorem dL_law_3 : decode code 3 = .ok (.dup, 1) := by decide +kernel
theorem dL_law_4 : decode code 4 = .ok (.invokespecial 9, 3) := by decide +kernel
theorem dL_law_7 : decode code 7 = .ok (.astore_n 1, 1) := by decide +kernel
theorem dL_law_8 : decode code 8 = .ok (.new 10, 3) := by decide +kernel
theorem dL_law_11 : decode code 11 = .ok (.dup, 1) := by decide +kernel
theorem dL_law_12 : decode code 12 = .ok (.invokespecial 12, 3) := by decide +kernel
theorem dL_law_15 : decode code 15 = .ok (.astore_n 2, 1) := by decide +kernel
theorem dL_law_16 : decode code 16 = .ok (.iconst 0, 1) := by decide +kernel
theorem dL_law_17 : decode code 17 = .ok (.istore_n 3, 1) := by decide +kernel
theorem dL_law_18 : decode code 18 = .ok (.iload_n 3, 1) := by decide +kernel
theorem dL_law_19 : decode code 19 = .ok (.aload_n 0, 1) := by decide +kernel
theorem dL_law_20 : decode code 20 = .ok (.arraylength, 1) := by decide +kernel
theorem dL_law_21 : decode code 21 = .ok (.bipush 6, 2) := by decide +kernel
theorem dL_law_23 : decode code 23 = .ok (.isub, 1) := by decide +kernel
theorem dL_law_24 : decode code 24 = .ok (.if_icmp .gt 878, 3) := by decide +kernel
theorem dL_law_27 : decode code 27 = .ok (.aload_n 0, 1) := by decide +kernel
theorem dL_law_28 : decode code 28 = .ok (.iload_n 3, 1) := by decide +kernel
theorem dL_law_29 : decode code 29 = .ok (.iaload, 1) := by decide +kernel
theorem dL_law_30 : decode code 30 = .ok (.bipush 31, 2) := by decide +kernel
theorem dL_law_32 : decode code 32 = .ok (.iand, 1) := by decide +kernel
theorem dL_law_33 : decode code 33 = .ok (.tableswitch 863 0 23 #[111, 144, 207, 220, 233, 266, 289, 312, 345, 378, 421, 454, 517, 540, 563, 576, 589, 622, 635, 668, 691, 734, 757, 810], 111) := by decide +kernel
theorem dL_law_144 : decode code 144 = .ok (.aload_n 1, 1) := by decide +kernel
theorem dL_law_145 : decode code 145 = .ok (.aload_n 0, 1) := by decide +kernel
theorem dL_law_146 : decode code 146 = .ok (.iload_n 3, 1) := by decide +kernel
theorem dL_law_147 : decode code 147 = .ok (.iconst 1, 1) := by decide +kernel
theorem dL_law_148 : decode code 148 = .ok (.iadd, 1) := by decide +kernel
theorem dL_law_149 : decode code 149 = .ok (.iaload, 1) := by decide +kernel
theorem dL_law_150 : decode code 150 = .ok (.aload_n 0, 1) := by decide +kernel
theorem dL_law_151 : decode code 151 = .ok (.iload_n 3, 1) := by decide +kernel
theorem dL_law_152 : decode code 152 = .ok (.iconst 2, 1) := by decide +kernel
theorem dL_law_153 : decode code 153 = .ok (.iadd, 1) := by decide +kernel
theorem dL_law_154 : decode code 154 = .ok (.iaload, 1) := by decide +kernel
theorem dL_law_155 : decode code 155 = .ok (.invokevirtual 13, 3) := by decide +kernel
theorem dL_law_158 : decode code 158 = .ok (.aload_n 2, 1) := by decide +kernel
theorem dL_law_159 : decode code 159 = .ok (.aload_n 0, 1) := by decide +kernel
theorem dL_law_160 : decode code 160 = .ok (.iload_n 3, 1) := by decide +kernel
theorem dL_law_161 : decode code 161 = .ok (.iconst 1, 1) := by decide +kernel
theorem dL_law_162 : decode code 162 = .ok (.iadd, 1) := by decide +kernel
theorem dL_law_163 : decode code 163 = .ok (.iaload, 1) := by decide +kernel
theorem dL_law_164 : decode code 164 = .ok (.aload_n 0, 1) := by decide +kernel
theorem dL_law_165 : decode code 165 = .ok (.iload_n 3, 1) := by decide +kernel
theorem dL_law_166 : decode code 166 = .ok (.iconst 2, 1) := by decide +kernel
theorem dL_law_167 : decode code 167 = .ok (.iadd, 1) := by decide +kernel
theorem dL_law_168 : decode code 168 = .ok (.iaload, 1) := by decide +kernel
theorem dL_law_169 : decode code 169 = .ok (.invokevirtual 17, 3) := by decide +kernel
theorem dL_law_172 : decode code 172 = .ok (.if_icmp .eq 724, 3) := by decide +kernel
theorem dL_law_175 : decode code 175 = .ok (.iconst 0, 1) := by decide +kernel
theorem dL_law_176 : decode code 176 = .ok (.ireturn, 1) := by decide +kernel
theorem dL_law_177 : decode code 177 = .ok (.aload_n 1, 1) := by decide +kernel
theorem dL_law_178 : decode code 178 = .ok (.aload_n 0, 1) := by decide +kernel
theorem dL_law_179 : decode code 179 = .ok (.iload_n 3, 1) := by decide +kernel
theorem dL_law_180 : decode code 180 = .ok (.iconst 1, 1) := by decide +kernel
theorem dL_law_181 : decode code 181 = .ok (.iadd, 1) := by decide +kernel
theorem dL_law_182 : decode code 182 = .ok (.iaload, 1) := by decide +kernel
theorem dL_law_183 : decode code 183 = .ok (.i2l, 1) := by decide +kernel
theorem dL_law_184 : decode code 184 = .ok (.bipush 32, 2) := by decide +kernel
theorem dL_law_186 : decode code 186 = .ok (.lshl, 1) := by decide +kernel
theorem dL_law_187 : decode code 187 = .ok (.aload_n 0, 1) := by decide +kernel
theorem dL_law_188 : decode code 188 = .ok (.iload_n 3, 1) := by decide +kernel
theorem dL_law_189 : decode code 189 = .ok (.iconst 2, 1) := by decide +kernel
theorem dL_law_190 : decode code 190 = .ok (.iadd, 1) := by decide +kernel
theorem dL_law_191 : decode code 191 = .ok (.iaload, 1) := by decide +kernel
theorem dL_law_192 : decode code 192 = .ok (.i2l, 1) := by decide +kernel
theorem dL_law_193 : decode code 193 = .ok (.ldc2_w 18, 3) := by decide +kernel
theorem dL_law_196 : decode code 196 = .ok (.land, 1) := by decide +kernel
theorem dL_law_197 : decode code 197 = .ok (.lor, 1) := by decide +kernel
theorem dL_law_198 : decode code 198 = .ok (.aload_n 0, 1) := by decide +kernel
theorem dL_law_199 : decode code 199 = .ok (.iload_n 3, 1) := by decide +kernel
theorem dL_law_200 : decode code 200 = .ok (.iconst 3, 1) := by decide +kernel
theorem dL_law_201 : decode code 201 = .ok (.iadd, 1) := by decide +kernel
theorem dL_law_202 : decode code 202 = .ok (.iaload, 1) := by decide +kernel
theorem dL_law_203 : decode code 203 = .ok (.invokevirtual 20, 3) := by decide +kernel
theorem dL_law_206 : decode code 206 = .ok (.aload_n 2, 1) := by decide +kernel
theorem dL_law_207 : decode code 207 = .ok (.aload_n 0, 1) := by decide +kernel
theorem dL_law_208 : decode code 208 = .ok (.iload_n 3, 1) := by decide +kernel
theorem dL_law_209 : decode code 209 = .ok (.iconst 1, 1) := by decide +kernel
theorem dL_law_210 : decode code 210 = .ok (.iadd, 1) := by decide +kernel
theorem dL_law_211 : decode code 211 = .ok (.iaload, 1) := by decide +kernel
theorem dL_law_212 : decode code 212 = .ok (.i2l, 1) := by decide +kernel
theorem dL_law_213 : decode code 213 = .ok (.bipush 32, 2) := by decide +kernel
theorem dL_law_215 : decode code 215 = .ok (.lshl, 1) := by decide +kernel
theorem dL_law_216 : decode code 216 = .ok (.aload_n 0, 1) := by decide +kernel
theorem dL_law_217 : decode code 217 = .ok (.iload_n 3, 1) := by decide +kernel
theorem dL_law_218 : decode code 218 = .ok (.iconst 2, 1) := by decide +kernel
theorem dL_law_219 : decode code 219 = .ok (.iadd, 1) := by decide +kernel
theorem dL_law_220 : decode code 220 = .ok (.iaload, 1) := by decide +kernel
theorem dL_law_221 : decode code 221 = .ok (.i2l, 1) := by decide +kernel
theorem dL_law_222 : decode code 222 = .ok (.ldc2_w 18, 3) := by decide +kernel
theorem dL_law_225 : decode code 225 = .ok (.land, 1) := by decide +kernel
theorem dL_law_226 : decode code 226 = .ok (.lor, 1) := by decide +kernel
theorem dL_law_227 : decode code 227 = .ok (.aload_n 0, 1) := by decide +kernel
theorem dL_law_228 : decode code 228 = .ok (.iload_n 3, 1) := by decide +kernel
theorem dL_law_229 : decode code 229 = .ok (.iconst 3, 1) := by decide +kernel
theorem dL_law_230 : decode code 230 = .ok (.iadd, 1) := by decide +kernel
theorem dL_law_231 : decode code 231 = .ok (.iaload, 1) := by decide +kernel
theorem dL_law_232 : decode code 232 = .ok (.invokevirtual 24, 3) := by decide +kernel
theorem dL_law_235 : decode code 235 = .ok (.if_icmp .eq 661, 3) := by decide +kernel
theorem dL_law_238 : decode code 238 = .ok (.iconst 0, 1) := by decide +kernel
theorem dL_law_239 : decode code 239 = .ok (.ireturn, 1) := by decide +kernel
theorem dL_law_240 : decode code 240 = .ok (.aload_n 1, 1) := by decide +kernel
theorem dL_law_241 : decode code 241 = .ok (.invokevirtual 25, 3) := by decide +kernel
theorem dL_law_244 : decode code 244 = .ok (.aload_n 2, 1) := by decide +kernel
theorem dL_law_245 : decode code 245 = .ok (.invokevirtual 29, 3) := by decide +kernel
theorem dL_law_248 : decode code 248 = .ok (.if_icmp .eq 648, 3) := by decide +kernel
theorem dL_law_251 : decode code 251 = .ok (.iconst 0, 1) := by decide +kernel
theorem dL_law_252 : decode code 252 = .ok (.ireturn, 1) := by decide +kernel
theorem dL_law_253 : decode code 253 = .ok (.aload_n 1, 1) := by decide +kernel
theorem dL_law_254 : decode code 254 = .ok (.invokevirtual 30, 3) := by decide +kernel
theorem dL_law_257 : decode code 257 = .ok (.aload_n 2, 1) := by decide +kernel
theorem dL_law_258 : decode code 258 = .ok (.invokevirtual 33, 3) := by decide +kernel
theorem dL_law_261 : decode code 261 = .ok (.if_icmp .eq 635, 3) := by decide +kernel
theorem dL_law_264 : decode code 264 = .ok (.iconst 0, 1) := by decide +kernel
theorem dL_law_265 : decode code 265 = .ok (.ireturn, 1) := by decide +kernel
theorem dL_law_266 : decode code 266 = .ok (.aload_n 1, 1) := by decide +kernel
theorem dL_law_267 : decode code 267 = .ok (.aload_n 0, 1) := by decide +kernel
theorem dL_law_268 : decode code 268 = .ok (.iload_n 3, 1) := by decide +kernel
theorem dL_law_269 : decode code 269 = .ok (.iconst 1, 1) := by decide +kernel
theorem dL_law_270 : decode code 270 = .ok (.iadd, 1) := by decide +kernel
theorem dL_law_271 : decode code 271 = .ok (.iaload, 1) := by decide +kernel
theorem dL_law_272 : decode code 272 = .ok (.aload_n 0, 1) := by decide +kernel
theorem dL_law_273 : decode code 273 = .ok (.iload_n 3, 1) := by decide +kernel
theorem dL_law_274 : decode code 274 = .ok (.iconst 2, 1) := by decide +kernel
theorem dL_law_275 : decode code 275 = .ok (.iadd, 1) := by decide +kernel
theorem dL_law_276 : decode code 276 = .ok (.iaload, 1) := by decide +kernel
theorem dL_law_277 : decode code 277 = .ok (.invokevirtual 34, 3) := by decide +kernel
theorem dL_law_280 : decode code 280 = .ok (.aload_n 2, 1) := by decide +kernel
theorem dL_law_281 : decode code 281 = .ok (.aload_n 0, 1) := by decide +kernel
theorem dL_law_282 : decode code 282 = .ok (.iload_n 3, 1) := by decide +kernel
theorem dL_law_283 : decode code 283 = .ok (.iconst 1, 1) := by decide +kernel
theorem dL_law_284 : decode code 284 = .ok (.iadd, 1) := by decide +kernel
theorem dL_law_285 : decode code 285 = .ok (.iaload, 1) := by decide +kernel
theorem dL_law_286 : decode code 286 = .ok (.aload_n 0, 1) := by decide +kernel
theorem dL_law_287 : decode code 287 = .ok (.iload_n 3, 1) := by decide +kernel
theorem dL_law_288 : decode code 288 = .ok (.iconst 2, 1) := by decide +kernel
theorem dL_law_289 : decode code 289 = .ok (.iadd, 1) := by decide +kernel
theorem dL_law_290 : decode code 290 = .ok (.iaload, 1) := by decide +kernel
theorem dL_law_291 : decode code 291 = .ok (.invokevirtual 37, 3) := by decide +kernel
theorem dL_law_294 : decode code 294 = .ok (.if_icmp .eq 602, 3) := by decide +kernel
theorem dL_law_297 : decode code 297 = .ok (.iconst 0, 1) := by decide +kernel
theorem dL_law_298 : decode code 298 = .ok (.ireturn, 1) := by decide +kernel
theorem dL_law_299 : decode code 299 = .ok (.aload_n 1, 1) := by decide +kernel
theorem dL_law_300 : decode code 300 = .ok (.aload_n 0, 1) := by decide +kernel
theorem dL_law_301 : decode code 301 = .ok (.iload_n 3, 1) := by decide +kernel
theorem dL_law_302 : decode code 302 = .ok (.iconst 1, 1) := by decide +kernel
theorem dL_law_303 : decode code 303 = .ok (.iadd, 1) := by decide +kernel
theorem dL_law_304 : decode code 304 = .ok (.iaload, 1) := by decide +kernel
theorem dL_law_305 : decode code 305 = .ok (.invokevirtual 38, 3) := by decide +kernel
theorem dL_law_308 : decode code 308 = .ok (.aload_n 2, 1) := by decide +kernel
theorem dL_law_309 : decode code 309 = .ok (.aload_n 0, 1) := by decide +kernel
theorem dL_law_310 : decode code 310 = .ok (.iload_n 3, 1) := by decide +kernel
theorem dL_law_311 : decode code 311 = .ok (.iconst 1, 1) := by decide +kernel
theorem dL_law_312 : decode code 312 = .ok (.iadd, 1) := by decide +kernel
theorem dL_law_313 : decode code 313 = .ok (.iaload, 1) := by decide +kernel
theorem dL_law_314 : decode code 314 = .ok (.invokevirtual 42, 3) := by decide +kernel
theorem dL_law_317 : decode code 317 = .ok (.if_icmp .eq 579, 3) := by decide +kernel
theorem dL_law_320 : decode code 320 = .ok (.iconst 0, 1) := by decide +kernel
theorem dL_law_321 : decode code 321 = .ok (.ireturn, 1) := by decide +kernel
theorem dL_law_322 : decode code 322 = .ok (.aload_n 1, 1) := by decide +kernel
theorem dL_law_323 : decode code 323 = .ok (.aload_n 0, 1) := by decide +kernel
theorem dL_law_324 : decode code 324 = .ok (.iload_n 3, 1) := by decide +kernel
theorem dL_law_325 : decode code 325 = .ok (.iconst 1, 1) := by decide +kernel
theorem dL_law_326 : decode code 326 = .ok (.iadd, 1) := by decide +kernel
theorem dL_law_327 : decode code 327 = .ok (.iaload, 1) := by decide +kernel
theorem dL_law_328 : decode code 328 = .ok (.invokevirtual 43, 3) := by decide +kernel
theorem dL_law_331 : decode code 331 = .ok (.aload_n 2, 1) := by decide +kernel
theorem dL_law_332 : decode code 332 = .ok (.aload_n 0, 1) := by decide +kernel
theorem dL_law_333 : decode code 333 = .ok (.iload_n 3, 1) := by decide +kernel
theorem dL_law_334 : decode code 334 = .ok (.iconst 1, 1) := by decide +kernel
theorem dL_law_335 : decode code 335 = .ok (.iadd, 1) := by decide +kernel
theorem dL_law_336 : decode code 336 = .ok (.iaload, 1) := by decide +kernel
theorem dL_law_337 : decode code 337 = .ok (.invokevirtual 46, 3) := by decide +kernel
theorem dL_law_340 : decode code 340 = .ok (.if_icmp .eq 556, 3) := by decide +kernel
theorem dL_law_343 : decode code 343 = .ok (.iconst 0, 1) := by decide +kernel
theorem dL_law_344 : decode code 344 = .ok (.ireturn, 1) := by decide +kernel
theorem dL_law_345 : decode code 345 = .ok (.aload_n 1, 1) := by decide +kernel
theorem dL_law_346 : decode code 346 = .ok (.aload_n 0, 1) := by decide +kernel
theorem dL_law_347 : decode code 347 = .ok (.iload_n 3, 1) := by decide +kernel
theorem dL_law_348 : decode code 348 = .ok (.iconst 1, 1) := by decide +kernel
theorem dL_law_349 : decode code 349 = .ok (.iadd, 1) := by decide +kernel
theorem dL_law_350 : decode code 350 = .ok (.iaload, 1) := by decide +kernel
theorem dL_law_351 : decode code 351 = .ok (.aload_n 0, 1) := by decide +kernel
theorem dL_law_352 : decode code 352 = .ok (.iload_n 3, 1) := by decide +kernel
theorem dL_law_353 : decode code 353 = .ok (.iconst 2, 1) := by decide +kernel
theorem dL_law_354 : decode code 354 = .ok (.iadd, 1) := by decide +kernel
theorem dL_law_355 : decode code 355 = .ok (.iaload, 1) := by decide +kernel
theorem dL_law_356 : decode code 356 = .ok (.invokevirtual 47, 3) := by decide +kernel
theorem dL_law_359 : decode code 359 = .ok (.aload_n 2, 1) := by decide +kernel
theorem dL_law_360 : decode code 360 = .ok (.aload_n 0, 1) := by decide +kernel
theorem dL_law_361 : decode code 361 = .ok (.iload_n 3, 1) := by decide +kernel
theorem dL_law_362 : decode code 362 = .ok (.iconst 1, 1) := by decide +kernel
theorem dL_law_363 : decode code 363 = .ok (.iadd, 1) := by decide +kernel
theorem dL_law_364 : decode code 364 = .ok (.iaload, 1) := by decide +kernel
theorem dL_law_365 : decode code 365 = .ok (.aload_n 0, 1) := by decide +kernel
theorem dL_law_366 : decode code 366 = .ok (.iload_n 3, 1) := by decide +kernel
theorem dL_law_367 : decode code 367 = .ok (.iconst 2, 1) := by decide +kernel
theorem dL_law_368 : decode code 368 = .ok (.iadd, 1) := by decide +kernel
theorem dL_law_369 : decode code 369 = .ok (.iaload, 1) := by decide +kernel
theorem dL_law_370 : decode code 370 = .ok (.invokevirtual 50, 3) := by decide +kernel
theorem dL_law_373 : decode code 373 = .ok (.if_icmp .eq 523, 3) := by decide +kernel
theorem dL_law_376 : decode code 376 = .ok (.iconst 0, 1) := by decide +kernel
theorem dL_law_377 : decode code 377 = .ok (.ireturn, 1) := by decide +kernel
theorem dL_law_378 : decode code 378 = .ok (.aload_n 1, 1) := by decide +kernel
theorem dL_law_379 : decode code 379 = .ok (.aload_n 0, 1) := by decide +kernel
theorem dL_law_380 : decode code 380 = .ok (.iload_n 3, 1) := by decide +kernel
theorem dL_law_381 : decode code 381 = .ok (.iconst 1, 1) := by decide +kernel
theorem dL_law_382 : decode code 382 = .ok (.iadd, 1) := by decide +kernel
theorem dL_law_383 : decode code 383 = .ok (.iaload, 1) := by decide +kernel
theorem dL_law_384 : decode code 384 = .ok (.aload_n 0, 1) := by decide +kernel
theorem dL_law_385 : decode code 385 = .ok (.iload_n 3, 1) := by decide +kernel
theorem dL_law_386 : decode code 386 = .ok (.iconst 2, 1) := by decide +kernel
theorem dL_law_387 : decode code 387 = .ok (.iadd, 1) := by decide +kernel
theorem dL_law_388 : decode code 388 = .ok (.iaload, 1) := by decide +kernel
theorem dL_law_389 : decode code 389 = .ok (.invokevirtual 51, 3) := by decide +kernel
theorem dL_law_392 : decode code 392 = .ok (.aload_n 2, 1) := by decide +kernel
theorem dL_law_393 : decode code 393 = .ok (.aload_n 0, 1) := by decide +kernel
theorem dL_law_394 : decode code 394 = .ok (.iload_n 3, 1) := by decide +kernel
theorem dL_law_395 : decode code 395 = .ok (.iconst 1, 1) := by decide +kernel
theorem dL_law_396 : decode code 396 = .ok (.iadd, 1) := by decide +kernel
theorem dL_law_397 : decode code 397 = .ok (.iaload, 1) := by decide +kernel
theorem dL_law_398 : decode code 398 = .ok (.aload_n 0, 1) := by decide +kernel
theorem dL_law_399 : decode code 399 = .ok (.iload_n 3, 1) := by decide +kernel
theorem dL_law_400 : decode code 400 = .ok (.iconst 2, 1) := by decide +kernel
theorem dL_law_401 : decode code 401 = .ok (.iadd, 1) := by decide +kernel
theorem dL_law_402 : decode code 402 = .ok (.iaload, 1) := by decide +kernel
theorem dL_law_403 : decode code 403 = .ok (.invokevirtual 54, 3) := by decide +kernel
theorem dL_law_406 : decode code 406 = .ok (.if_icmp .eq 490, 3) := by decide +kernel
theorem dL_law_409 : decode code 409 = .ok (.iconst 0, 1) := by decide +kernel
theorem dL_law_410 : decode code 410 = .ok (.ireturn, 1) := by decide +kernel
theorem dL_law_411 : decode code 411 = .ok (.aload_n 1, 1) := by decide +kernel
theorem dL_law_412 : decode code 412 = .ok (.aload_n 0, 1) := by decide +kernel
theorem dL_law_413 : decode code 413 = .ok (.iload_n 3, 1) := by decide +kernel
theorem dL_law_414 : decode code 414 = .ok (.iconst 1, 1) := by decide +kernel
theorem dL_law_415 : decode code 415 = .ok (.iadd, 1) := by decide +kernel
theorem dL_law_416 : decode code 416 = .ok (.iaload, 1) := by decide +kernel
theorem dL_law_417 : decode code 417 = .ok (.aload_n 0, 1) := by decide +kernel
theorem dL_law_418 : decode code 418 = .ok (.iload_n 3, 1) := by decide +kernel
theorem dL_law_419 : decode code 419 = .ok (.iconst 2, 1) := by decide +kernel
theorem dL_law_420 : decode code 420 = .ok (.iadd, 1) := by decide +kernel
theorem dL_law_421 : decode code 421 = .ok (.iaload, 1) := by decide +kernel
theorem dL_law_422 : decode code 422 = .ok (.aload_n 0, 1) := by decide +kernel
theorem dL_law_423 : decode code 423 = .ok (.iload_n 3, 1) := by decide +kernel
theorem dL_law_424 : decode code 424 = .ok (.iconst 3, 1) := by decide +kernel
theorem dL_law_425 : decode code 425 = .ok (.iadd, 1) := by decide +kernel
theorem dL_law_426 : decode code 426 = .ok (.iaload, 1) := by decide +kernel
theorem dL_law_427 : decode code 427 = .ok (.invokevirtual 55, 3) := by decide +kernel
theorem dL_law_430 : decode code 430 = .ok (.aload_n 2, 1) := by decide +kernel
theorem dL_law_431 : decode code 431 = .ok (.aload_n 0, 1) := by decide +kernel
theorem dL_law_432 : decode code 432 = .ok (.iload_n 3, 1) := by decide +kernel
theorem dL_law_433 : decode code 433 = .ok (.iconst 1, 1) := by decide +kernel
theorem dL_law_434 : decode code 434 = .ok (.iadd, 1) := by decide +kernel
theorem dL_law_435 : decode code 435 = .ok (.iaload, 1) := by decide +kernel
theorem dL_law_436 : decode code 436 = .ok (.aload_n 0, 1) := by decide +kernel
theorem dL_law_437 : decode code 437 = .ok (.iload_n 3, 1) := by decide +kernel
theorem dL_law_438 : decode code 438 = .ok (.iconst 2, 1) := by decide +kernel
theorem dL_law_439 : decode code 439 = .ok (.iadd, 1) := by decide +kernel
theorem dL_law_440 : decode code 440 = .ok (.iaload, 1) := by decide +kernel
theorem dL_law_441 : decode code 441 = .ok (.aload_n 0, 1) := by decide +kernel
theorem dL_law_442 : decode code 442 = .ok (.iload_n 3, 1) := by decide +kernel
theorem dL_law_443 : decode code 443 = .ok (.iconst 3, 1) := by decide +kernel
theorem dL_law_444 : decode code 444 = .ok (.iadd, 1) := by decide +kernel
theorem dL_law_445 : decode code 445 = .ok (.iaload, 1) := by decide +kernel
theorem dL_law_446 : decode code 446 = .ok (.invokevirtual 59, 3) := by decide +kernel
theorem dL_law_449 : decode code 449 = .ok (.if_icmp .eq 447, 3) := by decide +kernel
theorem dL_law_452 : decode code 452 = .ok (.iconst 0, 1) := by decide +kernel
theorem dL_law_453 : decode code 453 = .ok (.ireturn, 1) := by decide +kernel
theorem dL_law_454 : decode code 454 = .ok (.aload_n 1, 1) := by decide +kernel
theorem dL_law_455 : decode code 455 = .ok (.aload_n 0, 1) := by decide +kernel
theorem dL_law_456 : decode code 456 = .ok (.iload_n 3, 1) := by decide +kernel
theorem dL_law_457 : decode code 457 = .ok (.iconst 1, 1) := by decide +kernel
theorem dL_law_458 : decode code 458 = .ok (.iadd, 1) := by decide +kernel
theorem dL_law_459 : decode code 459 = .ok (.iaload, 1) := by decide +kernel
theorem dL_law_460 : decode code 460 = .ok (.aload_n 0, 1) := by decide +kernel
theorem dL_law_461 : decode code 461 = .ok (.iload_n 3, 1) := by decide +kernel
theorem dL_law_462 : decode code 462 = .ok (.iconst 2, 1) := by decide +kernel
theorem dL_law_463 : decode code 463 = .ok (.iadd, 1) := by decide +kernel
theorem dL_law_464 : decode code 464 = .ok (.iaload, 1) := by decide +kernel
theorem dL_law_465 : decode code 465 = .ok (.invokevirtual 60, 3) := by decide +kernel
theorem dL_law_468 : decode code 468 = .ok (.aload_n 2, 1) := by decide +kernel
theorem dL_law_469 : decode code 469 = .ok (.aload_n 0, 1) := by decide +kernel
theorem dL_law_470 : decode code 470 = .ok (.iload_n 3, 1) := by decide +kernel
theorem dL_law_471 : decode code 471 = .ok (.iconst 1, 1) := by decide +kernel
theorem dL_law_472 : decode code 472 = .ok (.iadd, 1) := by decide +kernel
theorem dL_law_473 : decode code 473 = .ok (.iaload, 1) := by decide +kernel
theorem dL_law_474 : decode code 474 = .ok (.aload_n 0, 1) := by decide +kernel
theorem dL_law_475 : decode code 475 = .ok (.iload_n 3, 1) := by decide +kernel
theorem dL_law_476 : decode code 476 = .ok (.iconst 2, 1) := by decide +kernel
theorem dL_law_477 : decode code 477 = .ok (.iadd, 1) := by decide +kernel
theorem dL_law_478 : decode code 478 = .ok (.iaload, 1) := by decide +kernel
theorem dL_law_479 : decode code 479 = .ok (.invokevirtual 63, 3) := by decide +kernel
theorem dL_law_482 : decode code 482 = .ok (.if_icmp .eq 414, 3) := by decide +kernel
theorem dL_law_485 : decode code 485 = .ok (.iconst 0, 1) := by decide +kernel
theorem dL_law_486 : decode code 486 = .ok (.ireturn, 1) := by decide +kernel
theorem dL_law_487 : decode code 487 = .ok (.aload_n 1, 1) := by decide +kernel
theorem dL_law_488 : decode code 488 = .ok (.aload_n 0, 1) := by decide +kernel
theorem dL_law_489 : decode code 489 = .ok (.iload_n 3, 1) := by decide +kernel
theorem dL_law_490 : decode code 490 = .ok (.iconst 1, 1) := by decide +kernel
theorem dL_law_491 : decode code 491 = .ok (.iadd, 1) := by decide +kernel
theorem dL_law_492 : decode code 492 = .ok (.iaload, 1) := by decide +kernel
theorem dL_law_493 : decode code 493 = .ok (.aload_n 0, 1) := by decide +kernel
theorem dL_law_494 : decode code 494 = .ok (.iload_n 3, 1) := by decide +kernel
theorem dL_law_495 : decode code 495 = .ok (.iconst 2, 1) := by decide +kernel
theorem dL_law_496 : decode code 496 = .ok (.iadd, 1) := by decide +kernel
theorem dL_law_497 : decode code 497 = .ok (.iaload, 1) := by decide +kernel
theorem dL_law_498 : decode code 498 = .ok (.aload_n 0, 1) := by decide +kernel
theorem dL_law_499 : decode code 499 = .ok (.iload_n 3, 1) := by decide +kernel
theorem dL_law_500 : decode code 500 = .ok (.iconst 3, 1) := by decide +kernel
theorem dL_law_501 : decode code 501 = .ok (.iadd, 1) := by decide +kernel
theorem dL_law_502 : decode code 502 = .ok (.iaload, 1) := by decide +kernel
theorem dL_law_503 : decode code 503 = .ok (.aload_n 0, 1) := by decide +kernel
theorem dL_law_504 : decode code 504 = .ok (.iload_n 3, 1) := by decide +kernel
theorem dL_law_505 : decode code 505 = .ok (.iconst 4, 1) := by decide +kernel
theorem dL_law_506 : decode code 506 = .ok (.iadd, 1) := by decide +kernel
theorem dL_law_507 : decode code 507 = .ok (.iaload, 1) := by decide +kernel
theorem dL_law_508 : decode code 508 = .ok (.aload_n 0, 1) := by decide +kernel
theorem dL_law_509 : decode code 509 = .ok (.iload_n 3, 1) := by decide +kernel
theorem dL_law_510 : decode code 510 = .ok (.iconst 5, 1) := by decide +kernel
theorem dL_law_511 : decode code 511 = .ok (.iadd, 1) := by decide +kernel
theorem dL_law_512 : decode code 512 = .ok (.iaload, 1) := by decide +kernel
theorem dL_law_513 : decode code 513 = .ok (.invokevirtual 64, 3) := by decide +kernel
theorem dL_law_516 : decode code 516 = .ok (.aload_n 2, 1) := by decide +kernel
theorem dL_law_517 : decode code 517 = .ok (.aload_n 0, 1) := by decide +kernel
theorem dL_law_518 : decode code 518 = .ok (.iload_n 3, 1) := by decide +kernel
theorem dL_law_519 : decode code 519 = .ok (.iconst 1, 1) := by decide +kernel
theorem dL_law_520 : decode code 520 = .ok (.iadd, 1) := by decide +kernel
theorem dL_law_521 : decode code 521 = .ok (.iaload, 1) := by decide +kernel
theorem dL_law_522 : decode code 522 = .ok (.aload_n 0, 1) := by decide +kernel
theorem dL_law_523 : decode code 523 = .ok (.iload_n 3, 1) := by decide +kernel
theorem dL_law_524 : decode code 524 = .ok (.iconst 2, 1) := by decide +kernel
theorem dL_law_525 : decode code 525 = .ok (.iadd, 1) := by decide +kernel
theorem dL_law_526 : decode code 526 = .ok (.iaload, 1) := by decide +kernel
theorem dL_law_527 : decode code 527 = .ok (.aload_n 0, 1) := by decide +kernel
theorem dL_law_528 : decode code 528 = .ok (.iload_n 3, 1) := by decide +kernel
theorem dL_law_529 : decode code 529 = .ok (.iconst 3, 1) := by decide +kernel
theorem dL_law_530 : decode code 530 = .ok (.iadd, 1) := by decide +kernel
theorem dL_law_531 : decode code 531 = .ok (.iaload, 1) := by decide +kernel
theorem dL_law_532 : decode code 532 = .ok (.aload_n 0, 1) := by decide +kernel
theorem dL_law_533 : decode code 533 = .ok (.iload_n 3, 1) := by decide +kernel
theorem dL_law_534 : decode code 534 = .ok (.iconst 4, 1) := by decide +kernel
theorem dL_law_535 : decode code 535 = .ok (.iadd, 1) := by decide +kernel
theorem dL_law_536 : decode code 536 = .ok (.iaload, 1) := by decide +kernel
theorem dL_law_537 : decode code 537 = .ok (.aload_n 0, 1) := by decide +kernel
theorem dL_law_538 : decode code 538 = .ok (.iload_n 3, 1) := by decide +kernel
theorem dL_law_539 : decode code 539 = .ok (.iconst 5, 1) := by decide +kernel
theorem dL_law_540 : decode code 540 = .ok (.iadd, 1) := by decide +kernel
theorem dL_law_541 : decode code 541 = .ok (.iaload, 1) := by decide +kernel
theorem dL_law_542 : decode code 542 = .ok (.invokevirtual 68, 3) := by decide +kernel
theorem dL_law_545 : decode code 545 = .ok (.if_icmp .eq 351, 3) := by decide +kernel
theorem dL_law_548 : decode code 548 = .ok (.iconst 0, 1) := by decide +kernel
theorem dL_law_549 : decode code 549 = .ok (.ireturn, 1) := by decide +kernel
theorem dL_law_550 : decode code 550 = .ok (.aload_n 1, 1) := by decide +kernel
theorem dL_law_551 : decode code 551 = .ok (.aload_n 0, 1) := by decide +kernel
theorem dL_law_552 : decode code 552 = .ok (.iload_n 3, 1) := by decide +kernel
theorem dL_law_553 : decode code 553 = .ok (.iconst 1, 1) := by decide +kernel
theorem dL_law_554 : decode code 554 = .ok (.iadd, 1) := by decide +kernel
theorem dL_law_555 : decode code 555 = .ok (.iaload, 1) := by decide +kernel
theorem dL_law_556 : decode code 556 = .ok (.invokevirtual 69, 3) := by decide +kernel
theorem dL_law_559 : decode code 559 = .ok (.aload_n 2, 1) := by decide +kernel
theorem dL_law_560 : decode code 560 = .ok (.aload_n 0, 1) := by decide +kernel
theorem dL_law_561 : decode code 561 = .ok (.iload_n 3, 1) := by decide +kernel
theorem dL_law_562 : decode code 562 = .ok (.iconst 1, 1) := by decide +kernel
theorem dL_law_563 : decode code 563 = .ok (.iadd, 1) := by decide +kernel
theorem dL_law_564 : decode code 564 = .ok (.iaload, 1) := by decide +kernel
theorem dL_law_565 : decode code 565 = .ok (.invokevirtual 72, 3) := by decide +kernel
theorem dL_law_568 : decode code 568 = .ok (.if_icmp .eq 328, 3) := by decide +kernel
theorem dL_law_571 : decode code 571 = .ok (.iconst 0, 1) := by decide +kernel
theorem dL_law_572 : decode code 572 = .ok (.ireturn, 1) := by decide +kernel
theorem dL_law_573 : decode code 573 = .ok (.aload_n 1, 1) := by decide +kernel
theorem dL_law_574 : decode code 574 = .ok (.aload_n 0, 1) := by decide +kernel
theorem dL_law_575 : decode code 575 = .ok (.iload_n 3, 1) := by decide +kernel
theorem dL_law_576 : decode code 576 = .ok (.iconst 1, 1) := by decide +kernel
theorem dL_law_577 : decode code 577 = .ok (.iadd, 1) := by decide +kernel
theorem dL_law_578 : decode code 578 = .ok (.iaload, 1) := by decide +kernel
theorem dL_law_579 : decode code 579 = .ok (.invokevirtual 73, 3) := by decide +kernel
theorem dL_law_582 : decode code 582 = .ok (.aload_n 2, 1) := by decide +kernel
theorem dL_law_583 : decode code 583 = .ok (.aload_n 0, 1) := by decide +kernel
theorem dL_law_584 : decode code 584 = .ok (.iload_n 3, 1) := by decide +kernel
theorem dL_law_585 : decode code 585 = .ok (.iconst 1, 1) := by decide +kernel
theorem dL_law_586 : decode code 586 = .ok (.iadd, 1) := by decide +kernel
theorem dL_law_587 : decode code 587 = .ok (.iaload, 1) := by decide +kernel
theorem dL_law_588 : decode code 588 = .ok (.invokevirtual 76, 3) := by decide +kernel
theorem dL_law_591 : decode code 591 = .ok (.if_icmp .eq 305, 3) := by decide +kernel
theorem dL_law_594 : decode code 594 = .ok (.iconst 0, 1) := by decide +kernel
theorem dL_law_595 : decode code 595 = .ok (.ireturn, 1) := by decide +kernel
theorem dL_law_596 : decode code 596 = .ok (.aload_n 1, 1) := by decide +kernel
theorem dL_law_597 : decode code 597 = .ok (.invokevirtual 77, 3) := by decide +kernel
theorem dL_law_600 : decode code 600 = .ok (.aload_n 2, 1) := by decide +kernel
theorem dL_law_601 : decode code 601 = .ok (.invokevirtual 80, 3) := by decide +kernel
theorem dL_law_604 : decode code 604 = .ok (.if_icmp .eq 292, 3) := by decide +kernel
theorem dL_law_607 : decode code 607 = .ok (.iconst 0, 1) := by decide +kernel
theorem dL_law_608 : decode code 608 = .ok (.ireturn, 1) := by decide +kernel
theorem dL_law_609 : decode code 609 = .ok (.aload_n 1, 1) := by decide +kernel
theorem dL_law_610 : decode code 610 = .ok (.invokevirtual 81, 3) := by decide +kernel
theorem dL_law_613 : decode code 613 = .ok (.aload_n 2, 1) := by decide +kernel
theorem dL_law_614 : decode code 614 = .ok (.invokevirtual 84, 3) := by decide +kernel
theorem dL_law_617 : decode code 617 = .ok (.if_icmp .eq 279, 3) := by decide +kernel
theorem dL_law_620 : decode code 620 = .ok (.iconst 0, 1) := by decide +kernel
theorem dL_law_621 : decode code 621 = .ok (.ireturn, 1) := by decide +kernel
theorem dL_law_622 : decode code 622 = .ok (.aload_n 1, 1) := by decide +kernel
theorem dL_law_623 : decode code 623 = .ok (.aload_n 0, 1) := by decide +kernel
theorem dL_law_624 : decode code 624 = .ok (.iload_n 3, 1) := by decide +kernel
theorem dL_law_625 : decode code 625 = .ok (.iconst 1, 1) := by decide +kernel
theorem dL_law_626 : decode code 626 = .ok (.iadd, 1) := by decide +kernel
theorem dL_law_627 : decode code 627 = .ok (.iaload, 1) := by decide +kernel
theorem dL_law_628 : decode code 628 = .ok (.aload_n 0, 1) := by decide +kernel
theorem dL_law_629 : decode code 629 = .ok (.iload_n 3, 1) := by decide +kernel
theorem dL_law_630 : decode code 630 = .ok (.iconst 2, 1) := by decide +kernel
theorem dL_law_631 : decode code 631 = .ok (.iadd, 1) := by decide +kernel
theorem dL_law_632 : decode code 632 = .ok (.iaload, 1) := by decide +kernel
theorem dL_law_633 : decode code 633 = .ok (.invokevirtual 85, 3) := by decide +kernel
theorem dL_law_636 : decode code 636 = .ok (.aload_n 2, 1) := by decide +kernel
theorem dL_law_637 : decode code 637 = .ok (.aload_n 0, 1) := by decide +kernel
theorem dL_law_638 : decode code 638 = .ok (.iload_n 3, 1) := by decide +kernel
theorem dL_law_639 : decode code 639 = .ok (.iconst 1, 1) := by decide +kernel
theorem dL_law_640 : decode code 640 = .ok (.iadd, 1) := by decide +kernel
theorem dL_law_641 : decode code 641 = .ok (.iaload, 1) := by decide +kernel
theorem dL_law_642 : decode code 642 = .ok (.aload_n 0, 1) := by decide +kernel
theorem dL_law_643 : decode code 643 = .ok (.iload_n 3, 1) := by decide +kernel
theorem dL_law_644 : decode code 644 = .ok (.iconst 2, 1) := by decide +kernel
theorem dL_law_645 : decode code 645 = .ok (.iadd, 1) := by decide +kernel
theorem dL_law_646 : decode code 646 = .ok (.iaload, 1) := by decide +kernel
theorem dL_law_647 : decode code 647 = .ok (.invokevirtual 88, 3) := by decide +kernel
theorem dL_law_650 : decode code 650 = .ok (.if_icmp .eq 246, 3) := by decide +kernel
theorem dL_law_653 : decode code 653 = .ok (.iconst 0, 1) := by decide +kernel
theorem dL_law_654 : decode code 654 = .ok (.ireturn, 1) := by decide +kernel
theorem dL_law_655 : decode code 655 = .ok (.aload_n 1, 1) := by decide +kernel
theorem dL_law_656 : decode code 656 = .ok (.invokevirtual 89, 3) := by decide +kernel
theorem dL_law_659 : decode code 659 = .ok (.aload_n 2, 1) := by decide +kernel
theorem dL_law_660 : decode code 660 = .ok (.invokevirtual 92, 3) := by decide +kernel
theorem dL_law_663 : decode code 663 = .ok (.if_icmp .eq 233, 3) := by decide +kernel
theorem dL_law_666 : decode code 666 = .ok (.iconst 0, 1) := by decide +kernel
theorem dL_law_667 : decode code 667 = .ok (.ireturn, 1) := by decide +kernel
theorem dL_law_668 : decode code 668 = .ok (.aload_n 1, 1) := by decide +kernel
theorem dL_law_669 : decode code 669 = .ok (.aload_n 0, 1) := by decide +kernel
theorem dL_law_670 : decode code 670 = .ok (.iload_n 3, 1) := by decide +kernel
theorem dL_law_671 : decode code 671 = .ok (.iconst 1, 1) := by decide +kernel
theorem dL_law_672 : decode code 672 = .ok (.iadd, 1) := by decide +kernel
theorem dL_law_673 : decode code 673 = .ok (.iaload, 1) := by decide +kernel
theorem dL_law_674 : decode code 674 = .ok (.aload_n 0, 1) := by decide +kernel
theorem dL_law_675 : decode code 675 = .ok (.iload_n 3, 1) := by decide +kernel
theorem dL_law_676 : decode code 676 = .ok (.iconst 2, 1) := by decide +kernel
theorem dL_law_677 : decode code 677 = .ok (.iadd, 1) := by decide +kernel
theorem dL_law_678 : decode code 678 = .ok (.iaload, 1) := by decide +kernel
theorem dL_law_679 : decode code 679 = .ok (.invokevirtual 93, 3) := by decide +kernel
theorem dL_law_682 : decode code 682 = .ok (.aload_n 2, 1) := by decide +kernel
theorem dL_law_683 : decode code 683 = .ok (.aload_n 0, 1) := by decide +kernel
theorem dL_law_684 : decode code 684 = .ok (.iload_n 3, 1) := by decide +kernel
theorem dL_law_685 : decode code 685 = .ok (.iconst 1, 1) := by decide +kernel
theorem dL_law_686 : decode code 686 = .ok (.iadd, 1) := by decide +kernel
theorem dL_law_687 : decode code 687 = .ok (.iaload, 1) := by decide +kernel
theorem dL_law_688 : decode code 688 = .ok (.aload_n 0, 1) := by decide +kernel
theorem dL_law_689 : decode code 689 = .ok (.iload_n 3, 1) := by decide +kernel
theorem dL_law_690 : decode code 690 = .ok (.iconst 2, 1) := by decide +kernel
theorem dL_law_691 : decode code 691 = .ok (.iadd, 1) := by decide +kernel
theorem dL_law_692 : decode code 692 = .ok (.iaload, 1) := by decide +kernel
theorem dL_law_693 : decode code 693 = .ok (.invokevirtual 96, 3) := by decide +kernel
theorem dL_law_696 : decode code 696 = .ok (.if_icmp .eq 200, 3) := by decide +kernel
theorem dL_law_699 : decode code 699 = .ok (.iconst 0, 1) := by decide +kernel
theorem dL_law_700 : decode code 700 = .ok (.ireturn, 1) := by decide +kernel
theorem dL_law_701 : decode code 701 = .ok (.aload_n 1, 1) := by decide +kernel
theorem dL_law_702 : decode code 702 = .ok (.aload_n 0, 1) := by decide +kernel
theorem dL_law_703 : decode code 703 = .ok (.iload_n 3, 1) := by decide +kernel
theorem dL_law_704 : decode code 704 = .ok (.iconst 1, 1) := by decide +kernel
theorem dL_law_705 : decode code 705 = .ok (.iadd, 1) := by decide +kernel
theorem dL_law_706 : decode code 706 = .ok (.iaload, 1) := by decide +kernel
theorem dL_law_707 : decode code 707 = .ok (.invokevirtual 97, 3) := by decide +kernel
theorem dL_law_710 : decode code 710 = .ok (.aload_n 2, 1) := by decide +kernel
theorem dL_law_711 : decode code 711 = .ok (.aload_n 0, 1) := by decide +kernel
theorem dL_law_712 : decode code 712 = .ok (.iload_n 3, 1) := by decide +kernel
theorem dL_law_713 : decode code 713 = .ok (.iconst 1, 1) := by decide +kernel
theorem dL_law_714 : decode code 714 = .ok (.iadd, 1) := by decide +kernel
theorem dL_law_715 : decode code 715 = .ok (.iaload, 1) := by decide +kernel
theorem dL_law_716 : decode code 716 = .ok (.invokevirtual 100, 3) := by decide +kernel
theorem dL_law_719 : decode code 719 = .ok (.if_icmp .eq 177, 3) := by decide +kernel
theorem dL_law_722 : decode code 722 = .ok (.iconst 0, 1) := by decide +kernel
theorem dL_law_723 : decode code 723 = .ok (.ireturn, 1) := by decide +kernel
theorem dL_law_724 : decode code 724 = .ok (.aload_n 1, 1) := by decide +kernel
theorem dL_law_725 : decode code 725 = .ok (.aload_n 0, 1) := by decide +kernel
theorem dL_law_726 : decode code 726 = .ok (.iload_n 3, 1) := by decide +kernel
theorem dL_law_727 : decode code 727 = .ok (.iconst 1, 1) := by decide +kernel
theorem dL_law_728 : decode code 728 = .ok (.iadd, 1) := by decide +kernel
theorem dL_law_729 : decode code 729 = .ok (.iaload, 1) := by decide +kernel
theorem dL_law_730 : decode code 730 = .ok (.aload_n 0, 1) := by decide +kernel
theorem dL_law_731 : decode code 731 = .ok (.iload_n 3, 1) := by decide +kernel
theorem dL_law_732 : decode code 732 = .ok (.iconst 2, 1) := by decide +kernel
theorem dL_law_733 : decode code 733 = .ok (.iadd, 1) := by decide +kernel
theorem dL_law_734 : decode code 734 = .ok (.iaload, 1) := by decide +kernel
theorem dL_law_735 : decode code 735 = .ok (.aload_n 0, 1) := by decide +kernel
theorem dL_law_736 : decode code 736 = .ok (.iload_n 3, 1) := by decide +kernel
theorem dL_law_737 : decode code 737 = .ok (.iconst 3, 1) := by decide +kernel
theorem dL_law_738 : decode code 738 = .ok (.iadd, 1) := by decide +kernel
theorem dL_law_739 : decode code 739 = .ok (.iaload, 1) := by decide +kernel
theorem dL_law_740 : decode code 740 = .ok (.invokevirtual 101, 3) := by decide +kernel
theorem dL_law_743 : decode code 743 = .ok (.aload_n 2, 1) := by decide +kernel
theorem dL_law_744 : decode code 744 = .ok (.aload_n 0, 1) := by decide +kernel
theorem dL_law_745 : decode code 745 = .ok (.iload_n 3, 1) := by decide +kernel
theorem dL_law_746 : decode code 746 = .ok (.iconst 1, 1) := by decide +kernel
theorem dL_law_747 : decode code 747 = .ok (.iadd, 1) := by decide +kernel
theorem dL_law_748 : decode code 748 = .ok (.iaload, 1) := by decide +kernel
theorem dL_law_749 : decode code 749 = .ok (.aload_n 0, 1) := by decide +kernel
theorem dL_law_750 : decode code 750 = .ok (.iload_n 3, 1) := by decide +kernel
theorem dL_law_751 : decode code 751 = .ok (.iconst 2, 1) := by decide +kernel
theorem dL_law_752 : decode code 752 = .ok (.iadd, 1) := by decide +kernel
theorem dL_law_753 : decode code 753 = .ok (.iaload, 1) := by decide +kernel
theorem dL_law_754 : decode code 754 = .ok (.aload_n 0, 1) := by decide +kernel
theorem dL_law_755 : decode code 755 = .ok (.iload_n 3, 1) := by decide +kernel
theorem dL_law_756 : decode code 756 = .ok (.iconst 3, 1) := by decide +kernel
theorem dL_law_757 : decode code 757 = .ok (.iadd, 1) := by decide +kernel
theorem dL_law_758 : decode code 758 = .ok (.iaload, 1) := by decide +kernel
theorem dL_law_759 : decode code 759 = .ok (.invokevirtual 104, 3) := by decide +kernel
theorem dL_law_762 : decode code 762 = .ok (.if_icmp .eq 134, 3) := by decide +kernel
theorem dL_law_765 : decode code 765 = .ok (.iconst 0, 1) := by decide +kernel
theorem dL_law_766 : decode code 766 = .ok (.ireturn, 1) := by decide +kernel
theorem dL_law_767 : decode code 767 = .ok (.aload_n 1, 1) := by decide +kernel
theorem dL_law_768 : decode code 768 = .ok (.aload_n 0, 1) := by decide +kernel
theorem dL_law_769 : decode code 769 = .ok (.iload_n 3, 1) := by decide +kernel
theorem dL_law_770 : decode code 770 = .ok (.iconst 1, 1) := by decide +kernel
theorem dL_law_771 : decode code 771 = .ok (.iadd, 1) := by decide +kernel
theorem dL_law_772 : decode code 772 = .ok (.iaload, 1) := by decide +kernel
theorem dL_law_773 : decode code 773 = .ok (.invokevirtual 105, 3) := by decide +kernel
theorem dL_law_776 : decode code 776 = .ok (.aload_n 2, 1) := by decide +kernel
theorem dL_law_777 : decode code 777 = .ok (.aload_n 0, 1) := by decide +kernel
theorem dL_law_778 : decode code 778 = .ok (.iload_n 3, 1) := by decide +kernel
theorem dL_law_779 : decode code 779 = .ok (.iconst 1, 1) := by decide +kernel
theorem dL_law_780 : decode code 780 = .ok (.iadd, 1) := by decide +kernel
theorem dL_law_781 : decode code 781 = .ok (.iaload, 1) := by decide +kernel
theorem dL_law_782 : decode code 782 = .ok (.invokevirtual 108, 3) := by decide +kernel
theorem dL_law_785 : decode code 785 = .ok (.if_icmp .eq 111, 3) := by decide +kernel
theorem dL_law_788 : decode code 788 = .ok (.iconst 0, 1) := by decide +kernel
theorem dL_law_789 : decode code 789 = .ok (.ireturn, 1) := by decide +kernel
theorem dL_law_790 : decode code 790 = .ok (.aload_n 1, 1) := by decide +kernel
theorem dL_law_791 : decode code 791 = .ok (.aload_n 0, 1) := by decide +kernel
theorem dL_law_792 : decode code 792 = .ok (.iload_n 3, 1) := by decide +kernel
theorem dL_law_793 : decode code 793 = .ok (.iconst 1, 1) := by decide +kernel
theorem dL_law_794 : decode code 794 = .ok (.iadd, 1) := by decide +kernel
theorem dL_law_795 : decode code 795 = .ok (.iaload, 1) := by decide +kernel
theorem dL_law_796 : decode code 796 = .ok (.aload_n 0, 1) := by decide +kernel
theorem dL_law_797 : decode code 797 = .ok (.iload_n 3, 1) := by decide +kernel
theorem dL_law_798 : decode code 798 = .ok (.iconst 2, 1) := by decide +kernel
theorem dL_law_799 : decode code 799 = .ok (.iadd, 1) := by decide +kernel
theorem dL_law_800 : decode code 800 = .ok (.iaload, 1) := by decide +kernel
theorem dL_law_801 : decode code 801 = .ok (.aload_n 0, 1) := by decide +kernel
theorem dL_law_802 : decode code 802 = .ok (.iload_n 3, 1) := by decide +kernel
theorem dL_law_803 : decode code 803 = .ok (.iconst 3, 1) := by decide +kernel
theorem dL_law_804 : decode code 804 = .ok (.iadd, 1) := by decide +kernel
theorem dL_law_805 : decode code 805 = .ok (.iaload, 1) := by decide +kernel
theorem dL_law_806 : decode code 806 = .ok (.aload_n 0, 1) := by decide +kernel
theorem dL_law_807 : decode code 807 = .ok (.iload_n 3, 1) := by decide +kernel
theorem dL_law_808 : decode code 808 = .ok (.iconst 4, 1) := by decide +kernel
theorem dL_law_809 : decode code 809 = .ok (.iadd, 1) := by decide +kernel
theorem dL_law_810 : decode code 810 = .ok (.iaload, 1) := by decide +kernel
theorem dL_law_811 : decode code 811 = .ok (.invokevirtual 109, 3) := by decide +kernel
theorem dL_law_814 : decode code 814 = .ok (.aload_n 2, 1) := by decide +kernel
theorem dL_law_815 : decode code 815 = .ok (.aload_n 0, 1) := by decide +kernel
theorem dL_law_816 : decode code 816 = .ok (.iload_n 3, 1) := by decide +kernel
theorem dL_law_817 : decode code 817 = .ok (.iconst 1, 1) := by decide +kernel
theorem dL_law_818 : decode code 818 = .ok (.iadd, 1) := by decide +kernel
theorem dL_law_819 : decode code 819 = .ok (.iaload, 1) := by decide +kernel
theorem dL_law_820 : decode code 820 = .ok (.aload_n 0, 1) := by decide +kernel
theorem dL_law_821 : decode code 821 = .ok (.iload_n 3, 1) := by decide +kernel
theorem dL_law_822 : decode code 822 = .ok (.iconst 2, 1) := by decide +kernel
theorem dL_law_823 : decode code 823 = .ok (.iadd, 1) := by decide +kernel
theorem dL_law_824 : decode code 824 = .ok (.iaload, 1) := by decide +kernel
theorem dL_law_825 : decode code 825 = .ok (.aload_n 0, 1) := by decide +kernel
theorem dL_law_826 : decode code 826 = .ok (.iload_n 3, 1) := by decide +kernel
theorem dL_law_827 : decode code 827 = .ok (.iconst 3, 1) := by decide +kernel
theorem dL_law_828 : decode code 828 = .ok (.iadd, 1) := by decide +kernel
theorem dL_law_829 : decode code 829 = .ok (.iaload, 1) := by decide +kernel
theorem dL_law_830 : decode code 830 = .ok (.aload_n 0, 1) := by decide +kernel
theorem dL_law_831 : decode code 831 = .ok (.iload_n 3, 1) := by decide +kernel
theorem dL_law_832 : decode code 832 = .ok (.iconst 4, 1) := by decide +kernel
theorem dL_law_833 : decode code 833 = .ok (.iadd, 1) := by decide +kernel
theorem dL_law_834 : decode code 834 = .ok (.iaload, 1) := by decide +kernel
theorem dL_law_835 : decode code 835 = .ok (.invokevirtual 113, 3) := by decide +kernel
theorem dL_law_838 : decode code 838 = .ok (.if_icmp .eq 58, 3) := by decide +kernel
theorem dL_law_841 : decode code 841 = .ok (.iconst 0, 1) := by decide +kernel
theorem dL_law_842 : decode code 842 = .ok (.ireturn, 1) := by decide +kernel
theorem dL_law_843 : decode code 843 = .ok (.aload_n 1, 1) := by decide +kernel
theorem dL_law_844 : decode code 844 = .ok (.aload_n 0, 1) := by decide +kernel
theorem dL_law_845 : decode code 845 = .ok (.iload_n 3, 1) := by decide +kernel
theorem dL_law_846 : decode code 846 = .ok (.iconst 1, 1) := by decide +kernel
theorem dL_law_847 : decode code 847 = .ok (.iadd, 1) := by decide +kernel
theorem dL_law_848 : decode code 848 = .ok (.iaload, 1) := by decide +kernel
theorem dL_law_849 : decode code 849 = .ok (.aload_n 0, 1) := by decide +kernel
theorem dL_law_850 : decode code 850 = .ok (.iload_n 3, 1) := by decide +kernel
theorem dL_law_851 : decode code 851 = .ok (.iconst 2, 1) := by decide +kernel
theorem dL_law_852 : decode code 852 = .ok (.iadd, 1) := by decide +kernel
theorem dL_law_853 : decode code 853 = .ok (.iaload, 1) := by decide +kernel
theorem dL_law_854 : decode code 854 = .ok (.aload_n 0, 1) := by decide +kernel
theorem dL_law_855 : decode code 855 = .ok (.iload_n 3, 1) := by decide +kernel
theorem dL_law_856 : decode code 856 = .ok (.iconst 3, 1) := by decide +kernel
theorem dL_law_857 : decode code 857 = .ok (.iadd, 1) := by decide +kernel
theorem dL_law_858 : decode code 858 = .ok (.iaload, 1) := by decide +kernel
theorem dL_law_859 : decode code 859 = .ok (.aload_n 0, 1) := by decide +kernel
theorem dL_law_860 : decode code 860 = .ok (.iload_n 3, 1) := by decide +kernel
theorem dL_law_861 : decode code 861 = .ok (.iconst 4, 1) := by decide +kernel
theorem dL_law_862 : decode code 862 = .ok (.iadd, 1) := by decide +kernel
theorem dL_law_863 : decode code 863 = .ok (.iaload, 1) := by decide +kernel
theorem dL_law_864 : decode code 864 = .ok (.invokevirtual 114, 3) := by decide +kernel
theorem dL_law_867 : decode code 867 = .ok (.aload_n 2, 1) := by decide +kernel
theorem dL_law_868 : decode code 868 = .ok (.aload_n 0, 1) := by decide +kernel
theorem dL_law_869 : decode code 869 = .ok (.iload_n 3, 1) := by decide +kernel
theorem dL_law_870 : decode code 870 = .ok (.iconst 1, 1) := by decide +kernel
theorem dL_law_871 : decode code 871 = .ok (.iadd, 1) := by decide +kernel
theorem dL_law_872 : decode code 872 = .ok (.iaload, 1) := by decide +kernel
theorem dL_law_873 : decode code 873 = .ok (.aload_n 0, 1) := by decide +kernel
theorem dL_law_874 : decode code 874 = .ok (.iload_n 3, 1) := by decide +kernel
theorem dL_law_875 : decode code 875 = .ok (.iconst 2, 1) := by decide +kernel
theorem dL_law_876 : decode code 876 = .ok (.iadd, 1) := by decide +kernel
theorem dL_law_877 : decode code 877 = .ok (.iaload, 1) := by decide +kernel
theorem dL_law_878 : decode code 878 = .ok (.aload_n 0, 1) := by decide +kernel
theorem dL_law_879 : decode code 879 = .ok (.iload_n 3, 1) := by decide +kernel
theorem dL_law_880 : decode code 880 = .ok (.iconst 3, 1) := by decide +kernel
theorem dL_law_881 : decode code 881 = .ok (.iadd, 1) := by decide +kernel
theorem dL_law_882 : decode code 882 = .ok (.iaload, 1) := by decide +kernel
theorem dL_law_883 : decode code 883 = .ok (.aload_n 0, 1) := by decide +kernel
theorem dL_law_884 : decode code 884 = .ok (.iload_n 3, 1) := by decide +kernel
theorem dL_law_885 : decode code 885 = .ok (.iconst 4, 1) := by decide +kernel
theorem dL_law_886 : decode code 886 = .ok (.iadd, 1) := by decide +kernel
theorem dL_law_887 : decode code 887 = .ok (.iaload, 1) := by decide +kernel
theorem dL_law_888 : decode code 888 = .ok (.invokevirtual 117, 3) := by decide +kernel
theorem dL_law_891 : decode code 891 = .ok (.if_icmp .eq 5, 3) := by decide +kernel
theorem dL_law_894 : decode code 894 = .ok (.iconst 0, 1) := by decide +kernel
theorem dL_law_895 : decode code 895 = .ok (.ireturn, 1) := by decide +kernel
theorem dL_law_896 : decode code 896 = .ok (.iinc 3 6, 3) := by decide +kernel
theorem dL_law_899 : decode code 899 = .ok (.goto (-881), 3) := by decide +kernel
theorem dL_law_902 : decode code 902 = .ok (.iconst 1, 1) := by decide +kernel
theorem dL_law_903 : decode code 903 = .ok (.ireturn, 1) := by decide +kernel
theorem dX0_addEquation_0 : decode cX0_addEquation 0 = .ok (.aload_n 0, 1) := by decide +kernel
theorem dX0_addEquation_1 : decode cX0_addEquation 1 = .ok (.getfield 16, 3) := by decide +kernel
theorem dX0_addEquation_4 : decode cX0_addEquation 4 = .ok (.aload_n 0, 1) := by decide +kernel
theorem dX0_addEquation_5 : decode cX0_addEquation 5 = .ok (.getfield 36, 3) := by decide +kernel
theorem dX0_addEquation_8 : decode cX0_addEquation 8 = .ok (.iload_n 1, 1) := by decide +kernel
theorem dX0_addEquation_9 : decode cX0_addEquation 9 = .ok (.iconst 1, 1) := by decide +kernel
theorem dX0_addEquation_10 : decode cX0_addEquation 10 = .ok (.iadd, 1) := by decide +kernel
theorem dX0_addEquation_11 : decode cX0_addEquation 11 = .ok (.iload_n 3, 1) := by decide +kernel
theorem dX0_addEquation_12 : decode cX0_addEquation 12 = .ok (.invokevirtual 54, 3) := by decide +kernel
theorem dX0_addEquation_15 : decode cX0_addEquation 15 = .ok (.baload, 1) := by decide +kernel
theorem dX0_addEquation_16 : decode cX0_addEquation 16 = .ok (.ifCond .eq 4, 3) := by decide +kernel
theorem dX0_addEquation_19 : decode cX0_addEquation 19 = .ok (.return_, 1) := by decide +kernel
theorem dX0_addEquation_20 : decode cX0_addEquation 20 = .ok (.iconst 0, 1) := by decide +kernel
theorem dX0_addEquation_21 : decode cX0_addEquation 21 = .ok (.istore 5, 2) := by decide +kernel
theorem dX0_addEquation_23 : decode cX0_addEquation 23 = .ok (.iconst 0, 1) := by decide +kernel
theorem dX0_addEquation_24 : decode cX0_addEquation 24 = .ok (.istore 6, 2) := by decide +kernel
theorem dX0_addEquation_26 : decode cX0_addEquation 26 = .ok (.iload 6, 2) := by decide +kernel
theorem dX0_addEquation_28 : decode cX0_addEquation 28 = .ok (.aload_n 0, 1) := by decide +kernel
theorem dX0_addEquation_29 : decode cX0_addEquation 29 = .ok (.getfield 36, 3) := by decide +kernel
theorem dX0_addEquation_32 : decode cX0_addEquation 32 = .ok (.iload_n 1, 1) := by decide +kernel
theorem dX0_addEquation_33 : decode cX0_addEquation 33 = .ok (.invokevirtual 59, 3) := by decide +kernel
theorem dX0_addEquation_36 : decode cX0_addEquation 36 = .ok (.if_icmp .ge 83, 3) := by decide +kernel
theorem dX0_addEquation_39 : decode cX0_addEquation 39 = .ok (.aload_n 0, 1) := by decide +kernel
theorem dX0_addEquation_40 : decode cX0_addEquation 40 = .ok (.getfield 16, 3) := by decide +kernel
theorem dX0_addEquation_43 : decode cX0_addEquation 43 = .ok (.aload_n 0, 1) := by decide +kernel
theorem dX0_addEquation_44 : decode cX0_addEquation 44 = .ok (.getfield 36, 3) := by decide +kernel
theorem dX0_addEquation_47 : decode cX0_addEquation 47 = .ok (.iload_n 1, 1) := by decide +kernel
theorem dX0_addEquation_48 : decode cX0_addEquation 48 = .ok (.iload 6, 2) := by decide +kernel
theorem dX0_addEquation_50 : decode cX0_addEquation 50 = .ok (.invokevirtual 54, 3) := by decide +kernel
theorem dX0_addEquation_53 : decode cX0_addEquation 53 = .ok (.baload, 1) := by decide +kernel
theorem dX0_addEquation_54 : decode cX0_addEquation 54 = .ok (.ifCond .ne 59, 3) := by decide +kernel
theorem dX0_addEquation_57 : decode cX0_addEquation 57 = .ok (.aload_n 0, 1) := by decide +kernel
theorem dX0_addEquation_58 : decode cX0_addEquation 58 = .ok (.iload_n 1, 1) := by decide +kernel
theorem dX0_addEquation_59 : decode cX0_addEquation 59 = .ok (.iconst 1, 1) := by decide +kernel
theorem dX0_addEquation_60 : decode cX0_addEquation 60 = .ok (.iadd, 1) := by decide +kernel
theorem dX0_addEquation_61 : decode cX0_addEquation 61 = .ok (.iload_n 3, 1) := by decide +kernel
theorem dX0_addEquation_62 : decode cX0_addEquation 62 = .ok (.aload_n 0, 1) := by decide +kernel
theorem dX0_addEquation_63 : decode cX0_addEquation 63 = .ok (.getfield 36, 3) := by decide +kernel
theorem dX0_addEquation_66 : decode cX0_addEquation 66 = .ok (.iload_n 2, 1) := by decide +kernel
theorem dX0_addEquation_67 : decode cX0_addEquation 67 = .ok (.iload_n 1, 1) := by decide +kernel
theorem dX0_addEquation_68 : decode cX0_addEquation 68 = .ok (.iload 6, 2) := by decide +kernel
theorem dX0_addEquation_70 : decode cX0_addEquation 70 = .ok (.invokevirtual 93, 3) := by decide +kernel
theorem dX0_addEquation_73 : decode cX0_addEquation 73 = .ok (.invokevirtual 67, 3) := by decide +kernel
theorem dX0_addEquation_76 : decode cX0_addEquation 76 = .ok (.istore 7, 2) := by decide +kernel
theorem dX0_addEquation_78 : decode cX0_addEquation 78 = .ok (.aload_n 0, 1) := by decide +kernel
theorem dX0_addEquation_79 : decode cX0_addEquation 79 = .ok (.iload_n 1, 1) := by decide +kernel
theorem dX0_addEquation_80 : decode cX0_addEquation 80 = .ok (.iconst 1, 1) := by decide +kernel
theorem dX0_addEquation_81 : decode cX0_addEquation 81 = .ok (.iadd, 1) := by decide +kernel
theorem dX0_addEquation_82 : decode cX0_addEquation 82 = .ok (.iload_n 3, 1) := by decide +kernel
theorem dX0_addEquation_83 : decode cX0_addEquation 83 = .ok (.aload_n 0, 1) := by decide +kernel
theorem dX0_addEquation_84 : decode cX0_addEquation 84 = .ok (.getfield 36, 3) := by decide +kernel
theorem dX0_addEquation_87 : decode cX0_addEquation 87 = .ok (.iload 6, 2) := by decide +kernel
theorem dX0_addEquation_89 : decode cX0_addEquation 89 = .ok (.iload_n 2, 1) := by decide +kernel
theorem dX0_addEquation_90 : decode cX0_addEquation 90 = .ok (.invokevirtual 96, 3) := by decide +kernel
theorem dX0_addEquation_93 : decode cX0_addEquation 93 = .ok (.invokevirtual 67, 3) := by decide +kernel
theorem dX0_addEquation_96 : decode cX0_addEquation 96 = .ok (.istore 8, 2) := by decide +kernel
theorem dX0_addEquation_98 : decode cX0_addEquation 98 = .ok (.aload 4, 2) := by decide +kernel
theorem dX0_addEquation_100 : decode cX0_addEquation 100 = .ok (.iload 5, 2) := by decide +kernel
theorem dX0_addEquation_102 : decode cX0_addEquation 102 = .ok (.iload 7, 2) := by decide +kernel
theorem dX0_addEquation_104 : decode cX0_addEquation 104 = .ok (.iload 8, 2) := by decide +kernel
theorem dX0_addEquation_106 : decode cX0_addEquation 106 = .ok (.isub, 1) := by decide +kernel
theorem dX0_addEquation_107 : decode cX0_addEquation 107 = .ok (.invokevirtual 99, 3) := by decide +kernel
theorem dX0_addEquation_110 : decode cX0_addEquation 110 = .ok (.iinc 5 1, 3) := by decide +kernel
theorem dX0_addEquation_113 : decode cX0_addEquation 113 = .ok (.iinc 6 1, 3) := by decide +kernel
theorem dX0_addEquation_116 : decode cX0_addEquation 116 = .ok (.goto (-90), 3) := by decide +kernel
theorem dX0_addEquation_119 : decode cX0_addEquation 119 = .ok (.aload 4, 2) := by decide +kernel
theorem dX0_addEquation_121 : decode cX0_addEquation 121 = .ok (.invokevirtual 103, 3) := by decide +kernel
theorem dX0_addEquation_124 : decode cX0_addEquation 124 = .ok (.return_, 1) := by decide +kernel
theorem dX0_addForm_0 : decode cX0_addForm 0 = .ok (.aload_n 0, 1) := by decide +kernel
theorem dX0_addForm_1 : decode cX0_addForm 1 = .ok (.iload_n 1, 1) := by decide +kernel
theorem dX0_addForm_2 : decode cX0_addForm 2 = .ok (.invokevirtual 50, 3) := by decide +kernel
theorem dX0_addForm_5 : decode cX0_addForm 5 = .ok (.iconst 0, 1) := by decide +kernel
theorem dX0_addForm_6 : decode cX0_addForm 6 = .ok (.istore 5, 2) := by decide +kernel
theorem dX0_addForm_8 : decode cX0_addForm 8 = .ok (.iload 5, 2) := by decide +kernel
theorem dX0_addForm_10 : decode cX0_addForm 10 = .ok (.iload_n 2, 1) := by decide +kernel
theorem dX0_addForm_11 : decode cX0_addForm 11 = .ok (.if_icmp .gt 29, 3) := by decide +kernel
theorem dX0_addForm_14 : decode cX0_addForm 14 = .ok (.aload 4, 2) := by decide +kernel
theorem dX0_addForm_16 : decode cX0_addForm 16 = .ok (.iload_n 1, 1) := by decide +kernel
theorem dX0_addForm_17 : decode cX0_addForm 17 = .ok (.iload 5, 2) := by decide +kernel
theorem dX0_addForm_19 : decode cX0_addForm 19 = .ok (.iload_n 3, 1) := by decide +kernel
theorem dX0_addForm_20 : decode cX0_addForm 20 = .ok (.i2l, 1) := by decide +kernel
theorem dX0_addForm_21 : decode cX0_addForm 21 = .ok (.aload_n 0, 1) := by decide +kernel
theorem dX0_addForm_22 : decode cX0_addForm 22 = .ok (.iload_n 1, 1) := by decide +kernel
theorem dX0_addForm_23 : decode cX0_addForm 23 = .ok (.iload 5, 2) := by decide +kernel
theorem dX0_addForm_25 : decode cX0_addForm 25 = .ok (.iload_n 2, 1) := by decide +kernel
theorem dX0_addForm_26 : decode cX0_addForm 26 = .ok (.invokevirtual 67, 3) := by decide +kernel
theorem dX0_addForm_29 : decode cX0_addForm 29 = .ok (.i2l, 1) := by decide +kernel
theorem dX0_addForm_30 : decode cX0_addForm 30 = .ok (.lmul, 1) := by decide +kernel
theorem dX0_addForm_31 : decode cX0_addForm 31 = .ok (.invokevirtual 71, 3) := by decide +kernel
theorem dX0_addForm_34 : decode cX0_addForm 34 = .ok (.iinc 5 1, 3) := by decide +kernel
theorem dX0_addForm_37 : decode cX0_addForm 37 = .ok (.goto (-29), 3) := by decide +kernel
theorem dX0_addForm_40 : decode cX0_addForm 40 = .ok (.return_, 1) := by decide +kernel
theorem dX0_addHeadForm_0 : decode cX0_addHeadForm 0 = .ok (.aload_n 0, 1) := by decide +kernel
theorem dX0_addHeadForm_1 : decode cX0_addHeadForm 1 = .ok (.getfield 36, 3) := by decide +kernel
theorem dX0_addHeadForm_4 : decode cX0_addHeadForm 4 = .ok (.iload_n 2, 1) := by decide +kernel
theorem dX0_addHeadForm_5 : decode cX0_addHeadForm 5 = .ok (.invokevirtual 112, 3) := by decide +kernel
theorem dX0_addHeadForm_8 : decode cX0_addHeadForm 8 = .ok (.istore 4, 2) := by decide +kernel
theorem dX0_addHeadForm_10 : decode cX0_addHeadForm 10 = .ok (.aload_n 0, 1) := by decide +kernel
theorem dX0_addHeadForm_11 : decode cX0_addHeadForm 11 = .ok (.getfield 36, 3) := by decide +kernel
theorem dX0_addHeadForm_14 : decode cX0_addHeadForm 14 = .ok (.iload_n 2, 1) := by decide +kernel
theorem dX0_addHeadForm_15 : decode cX0_addHeadForm 15 = .ok (.invokevirtual 157, 3) := by decide +kernel
theorem dX0_addHeadForm_18 : decode cX0_addHeadForm 18 = .ok (.istore 5, 2) := by decide +kernel
theorem dX0_addHeadForm_20 : decode cX0_addHeadForm 20 = .ok (.aload_n 0, 1) := by decide +kernel
theorem dX0_addHeadForm_21 : decode cX0_addHeadForm 21 = .ok (.getfield 36, 3) := by decide +kernel
theorem dX0_addHeadForm_24 : decode cX0_addHeadForm 24 = .ok (.iload_n 1, 1) := by decide +kernel
theorem dX0_addHeadForm_25 : decode cX0_addHeadForm 25 = .ok (.iconst 1, 1) := by decide +kernel
theorem dX0_addHeadForm_26 : decode cX0_addHeadForm 26 = .ok (.isub, 1) := by decide +kernel
theorem dX0_addHeadForm_27 : decode cX0_addHeadForm 27 = .ok (.iload 4, 2) := by decide +kernel
theorem dX0_addHeadForm_29 : decode cX0_addHeadForm 29 = .ok (.invokevirtual 106, 3) := by decide +kernel
theorem dX0_addHeadForm_32 : decode cX0_addHeadForm 32 = .ok (.istore 6, 2) := by decide +kernel
theorem dX0_addHeadForm_34 : decode cX0_addHeadForm 34 = .ok (.iconst 0, 1) := by decide +kernel
theorem dX0_addHeadForm_35 : decode cX0_addHeadForm 35 = .ok (.istore 7, 2) := by decide +kernel
theorem dX0_addHeadForm_37 : decode cX0_addHeadForm 37 = .ok (.iload 7, 2) := by decide +kernel
theorem dX0_addHeadForm_39 : decode cX0_addHeadForm 39 = .ok (.iload 4, 2) := by decide +kernel
theorem dX0_addHeadForm_41 : decode cX0_addHeadForm 41 = .ok (.if_icmp .ge 50, 3) := by decide +kernel
theorem dX0_addHeadForm_44 : decode cX0_addHeadForm 44 = .ok (.aload_n 0, 1) := by decide +kernel
theorem dX0_addHeadForm_45 : decode cX0_addHeadForm 45 = .ok (.getfield 10, 3) := by decide +kernel
theorem dX0_addHeadForm_48 : decode cX0_addHeadForm 48 = .ok (.iload 6, 2) := by decide +kernel
theorem dX0_addHeadForm_50 : decode cX0_addHeadForm 50 = .ok (.iload 7, 2) := by decide +kernel
theorem dX0_addHeadForm_52 : decode cX0_addHeadForm 52 = .ok (.iadd, 1) := by decide +kernel
theorem dX0_addHeadForm_53 : decode cX0_addHeadForm 53 = .ok (.iaload, 1) := by decide +kernel
theorem dX0_addHeadForm_54 : decode cX0_addHeadForm 54 = .ok (.ifCond .eq 31, 3) := by decide +kernel
theorem dX0_addHeadForm_57 : decode cX0_addHeadForm 57 = .ok (.aload_n 0, 1) := by decide +kernel
theorem dX0_addHeadForm_58 : decode cX0_addHeadForm 58 = .ok (.iload_n 1, 1) := by decide +kernel
theorem dX0_addHeadForm_59 : decode cX0_addHeadForm 59 = .ok (.aload_n 0, 1) := by decide +kernel
theorem dX0_addHeadForm_60 : decode cX0_addHeadForm 60 = .ok (.getfield 36, 3) := by decide +kernel
theorem dX0_addHeadForm_63 : decode cX0_addHeadForm 63 = .ok (.iload 7, 2) := by decide +kernel
theorem dX0_addHeadForm_65 : decode cX0_addHeadForm 65 = .ok (.iload 5, 2) := by decide +kernel
theorem dX0_addHeadForm_67 : decode cX0_addHeadForm 67 = .ok (.invokevirtual 96, 3) := by decide +kernel
theorem dX0_addHeadForm_70 : decode cX0_addHeadForm 70 = .ok (.aload_n 0, 1) := by decide +kernel
theorem dX0_addHeadForm_71 : decode cX0_addHeadForm 71 = .ok (.getfield 10, 3) := by decide +kernel
theorem dX0_addHeadForm_74 : decode cX0_addHeadForm 74 = .ok (.iload 6, 2) := by decide +kernel
theorem dX0_addHeadForm_76 : decode cX0_addHeadForm 76 = .ok (.iload 7, 2) := by decide +kernel
theorem dX0_addHeadForm_78 : decode cX0_addHeadForm 78 = .ok (.iadd, 1) := by decide +kernel
theorem dX0_addHeadForm_79 : decode cX0_addHeadForm 79 = .ok (.iaload, 1) := by decide +kernel
theorem dX0_addHeadForm_80 : decode cX0_addHeadForm 80 = .ok (.iload_n 3, 1) := by decide +kernel
theorem dX0_addHeadForm_81 : decode cX0_addHeadForm 81 = .ok (.imul, 1) := by decide +kernel
theorem dX0_addHeadForm_82 : decode cX0_addHeadForm 82 = .ok (.invokevirtual 154, 3) := by decide +kernel
theorem dX0_addHeadForm_85 : decode cX0_addHeadForm 85 = .ok (.iinc 7 1, 3) := by decide +kernel
theorem dX0_addHeadForm_88 : decode cX0_addHeadForm 88 = .ok (.goto (-51), 3) := by decide +kernel
theorem dX0_addHeadForm_91 : decode cX0_addHeadForm 91 = .ok (.return_, 1) := by decide +kernel
theorem dX0_addRow_0 : decode cX0_addRow 0 = .ok (.aload_n 0, 1) := by decide +kernel
theorem dX0_addRow_1 : decode cX0_addRow 1 = .ok (.getfield 36, 3) := by decide +kernel
theorem dX0_addRow_4 : decode cX0_addRow 4 = .ok (.invokevirtual 145, 3) := by decide +kernel
theorem dX0_addRow_7 : decode cX0_addRow 7 = .ok (.istore 4, 2) := by decide +kernel
theorem dX0_addRow_9 : decode cX0_addRow 9 = .ok (.iload 4, 2) := by decide +kernel
theorem dX0_addRow_11 : decode cX0_addRow 11 = .ok (.iconst 2, 1) := by decide +kernel
theorem dX0_addRow_12 : decode cX0_addRow 12 = .ok (.if_icmp .ge 4, 3) := by decide +kernel
theorem dX0_addRow_15 : decode cX0_addRow 15 = .ok (.return_, 1) := by decide +kernel
theorem dX0_addRow_16 : decode cX0_addRow 16 = .ok (.aload_n 0, 1) := by decide +kernel
theorem dX0_addRow_17 : decode cX0_addRow 17 = .ok (.getfield 16, 3) := by decide +kernel
theorem dX0_addRow_20 : decode cX0_addRow 20 = .ok (.aload_n 0, 1) := by decide +kernel
theorem dX0_addRow_21 : decode cX0_addRow 21 = .ok (.getfield 36, 3) := by decide +kernel
theorem dX0_addRow_24 : decode cX0_addRow 24 = .ok (.iload_n 1, 1) := by decide +kernel
theorem dX0_addRow_25 : decode cX0_addRow 25 = .ok (.iload_n 2, 1) := by decide +kernel
theorem dX0_addRow_26 : decode cX0_addRow 26 = .ok (.invokevirtual 54, 3) := by decide +kernel
theorem dX0_addRow_29 : decode cX0_addRow 29 = .ok (.baload, 1) := by decide +kernel
theorem dX0_addRow_30 : decode cX0_addRow 30 = .ok (.ifCond .ne 21, 3) := by decide +kernel
theorem dX0_addRow_33 : decode cX0_addRow 33 = .ok (.aload_n 0, 1) := by decide +kernel
theorem dX0_addRow_34 : decode cX0_addRow 34 = .ok (.getfield 29, 3) := by decide +kernel
theorem dX0_addRow_37 : decode cX0_addRow 37 = .ok (.iload_n 2, 1) := by decide +kernel
theorem dX0_addRow_38 : decode cX0_addRow 38 = .ok (.aload_n 0, 1) := by decide +kernel
theorem dX0_addRow_39 : decode cX0_addRow 39 = .ok (.getfield 29, 3) := by decide +kernel
theorem dX0_addRow_42 : decode cX0_addRow 42 = .ok (.iload_n 2, 1) := by decide +kernel
theorem dX0_addRow_43 : decode cX0_addRow 43 = .ok (.iaload, 1) := by decide +kernel
theorem dX0_addRow_44 : decode cX0_addRow 44 = .ok (.iload_n 3, 1) := by decide +kernel
theorem dX0_addRow_45 : decode cX0_addRow 45 = .ok (.iadd, 1) := by decide +kernel
theorem dX0_addRow_46 : decode cX0_addRow 46 = .ok (.iload 4, 2) := by decide +kernel
theorem dX0_addRow_48 : decode cX0_addRow 48 = .ok (.irem, 1) := by decide +kernel
theorem dX0_addRow_49 : decode cX0_addRow 49 = .ok (.iastore, 1) := by decide +kernel
theorem dX0_addRow_50 : decode cX0_addRow 50 = .ok (.return_, 1) := by decide +kernel
theorem dX0_addRow_51 : decode cX0_addRow 51 = .ok (.aload_n 0, 1) := by decide +kernel
theorem dX0_addRow_52 : decode cX0_addRow 52 = .ok (.getfield 36, 3) := by decide +kernel
theorem dX0_addRow_55 : decode cX0_addRow 55 = .ok (.iload_n 1, 1) := by decide +kernel
theorem dX0_addRow_56 : decode cX0_addRow 56 = .ok (.iload_n 2, 1) := by decide +kernel
theorem dX0_addRow_57 : decode cX0_addRow 57 = .ok (.invokevirtual 106, 3) := by decide +kernel
theorem dX0_addRow_60 : decode cX0_addRow 60 = .ok (.istore 5, 2) := by decide +kernel
theorem dX0_addRow_62 : decode cX0_addRow 62 = .ok (.iconst 0, 1) := by decide +kernel
theorem dX0_addRow_63 : decode cX0_addRow 63 = .ok (.istore 6, 2) := by decide +kernel
theorem dX0_addRow_65 : decode cX0_addRow 65 = .ok (.iload 6, 2) := by decide +kernel
theorem dX0_addRow_67 : decode cX0_addRow 67 = .ok (.iload_n 2, 1) := by decide +kernel
theorem dX0_addRow_68 : decode cX0_addRow 68 = .ok (.if_icmp .ge 48, 3) := by decide +kernel
theorem dX0_addRow_71 : decode cX0_addRow 71 = .ok (.aload_n 0, 1) := by decide +kernel
theorem dX0_addRow_72 : decode cX0_addRow 72 = .ok (.getfield 10, 3) := by decide +kernel
theorem dX0_addRow_75 : decode cX0_addRow 75 = .ok (.iload 5, 2) := by decide +kernel
theorem dX0_addRow_77 : decode cX0_addRow 77 = .ok (.iload 6, 2) := by decide +kernel
theorem dX0_addRow_79 : decode cX0_addRow 79 = .ok (.iadd, 1) := by decide +kernel
theorem dX0_addRow_80 : decode cX0_addRow 80 = .ok (.iaload, 1) := by decide +kernel
theorem dX0_addRow_81 : decode cX0_addRow 81 = .ok (.istore 7, 2) := by decide +kernel
theorem dX0_addRow_83 : decode cX0_addRow 83 = .ok (.iload 7, 2) := by decide +kernel
theorem dX0_addRow_85 : decode cX0_addRow 85 = .ok (.ifCond .eq 25, 3) := by decide +kernel
theorem dX0_addRow_88 : decode cX0_addRow 88 = .ok (.aload_n 0, 1) := by decide +kernel
theorem dX0_addRow_89 : decode cX0_addRow 89 = .ok (.getfield 29, 3) := by decide +kernel
theorem dX0_addRow_92 : decode cX0_addRow 92 = .ok (.iload 6, 2) := by decide +kernel
theorem dX0_addRow_94 : decode cX0_addRow 94 = .ok (.aload_n 0, 1) := by decide +kernel
theorem dX0_addRow_95 : decode cX0_addRow 95 = .ok (.getfield 29, 3) := by decide +kernel
theorem dX0_addRow_98 : decode cX0_addRow 98 = .ok (.iload 6, 2) := by decide +kernel
theorem dX0_addRow_100 : decode cX0_addRow 100 = .ok (.iaload, 1) := by decide +kernel
theorem dX0_addRow_101 : decode cX0_addRow 101 = .ok (.iload_n 3, 1) := by decide +kernel
theorem dX0_addRow_102 : decode cX0_addRow 102 = .ok (.iload 7, 2) := by decide +kernel
theorem dX0_addRow_104 : decode cX0_addRow 104 = .ok (.imul, 1) := by decide +kernel
theorem dX0_addRow_105 : decode cX0_addRow 105 = .ok (.iadd, 1) := by decide +kernel
theorem dX0_addRow_106 : decode cX0_addRow 106 = .ok (.iload 4, 2) := by decide +kernel
theorem dX0_addRow_108 : decode cX0_addRow 108 = .ok (.irem, 1) := by decide +kernel
theorem dX0_addRow_109 : decode cX0_addRow 109 = .ok (.iastore, 1) := by decide +kernel
theorem dX0_addRow_110 : decode cX0_addRow 110 = .ok (.iinc 6 1, 3) := by decide +kernel
theorem dX0_addRow_113 : decode cX0_addRow 113 = .ok (.goto (-48), 3) := by decide +kernel
theorem dX0_addRow_116 : decode cX0_addRow 116 = .ok (.return_, 1) := by decide +kernel
theorem dX0_addTailForm_0 : decode cX0_addTailForm 0 = .ok (.aload_n 0, 1) := by decide +kernel
theorem dX0_addTailForm_1 : decode cX0_addTailForm 1 = .ok (.getfield 36, 3) := by decide +kernel
theorem dX0_addTailForm_4 : decode cX0_addTailForm 4 = .ok (.iload_n 1, 1) := by decide +kernel
theorem dX0_addTailForm_5 : decode cX0_addTailForm 5 = .ok (.iload_n 2, 1) := by decide +kernel
theorem dX0_addTailForm_6 : decode cX0_addTailForm 6 = .ok (.invokevirtual 109, 3) := by decide +kernel
theorem dX0_addTailForm_9 : decode cX0_addTailForm 9 = .ok (.istore_n 3, 1) := by decide +kernel
theorem dX0_addTailForm_10 : decode cX0_addTailForm 10 = .ok (.aload_n 0, 1) := by decide +kernel
theorem dX0_addTailForm_11 : decode cX0_addTailForm 11 = .ok (.getfield 36, 3) := by decide +kernel
theorem dX0_addTailForm_14 : decode cX0_addTailForm 14 = .ok (.iload_n 1, 1) := by decide +kernel
theorem dX0_addTailForm_15 : decode cX0_addTailForm 15 = .ok (.iload_n 2, 1) := by decide +kernel
theorem dX0_addTailForm_16 : decode cX0_addTailForm 16 = .ok (.invokevirtual 151, 3) := by decide +kernel
theorem dX0_addTailForm_19 : decode cX0_addTailForm 19 = .ok (.istore 4, 2) := by decide +kernel
theorem dX0_addTailForm_21 : decode cX0_addTailForm 21 = .ok (.aload_n 0, 1) := by decide +kernel
theorem dX0_addTailForm_22 : decode cX0_addTailForm 22 = .ok (.getfield 36, 3) := by decide +kernel
theorem dX0_addTailForm_25 : decode cX0_addTailForm 25 = .ok (.iload_n 1, 1) := by decide +kernel
theorem dX0_addTailForm_26 : decode cX0_addTailForm 26 = .ok (.iconst 1, 1) := by decide +kernel
theorem dX0_addTailForm_27 : decode cX0_addTailForm 27 = .ok (.isub, 1) := by decide +kernel
theorem dX0_addTailForm_28 : decode cX0_addTailForm 28 = .ok (.iload_n 3, 1) := by decide +kernel
theorem dX0_addTailForm_29 : decode cX0_addTailForm 29 = .ok (.invokevirtual 106, 3) := by decide +kernel
theorem dX0_addTailForm_32 : decode cX0_addTailForm 32 = .ok (.istore 5, 2) := by decide +kernel
theorem dX0_addTailForm_34 : decode cX0_addTailForm 34 = .ok (.iconst 0, 1) := by decide +kernel
theorem dX0_addTailForm_35 : decode cX0_addTailForm 35 = .ok (.istore 6, 2) := by decide +kernel
theorem dX0_addTailForm_37 : decode cX0_addTailForm 37 = .ok (.iload 6, 2) := by decide +kernel
theorem dX0_addTailForm_39 : decode cX0_addTailForm 39 = .ok (.iload_n 3, 1) := by decide +kernel
theorem dX0_addTailForm_40 : decode cX0_addTailForm 40 = .ok (.if_icmp .ge 51, 3) := by decide +kernel
theorem dX0_addTailForm_43 : decode cX0_addTailForm 43 = .ok (.aload_n 0, 1) := by decide +kernel
theorem dX0_addTailForm_44 : decode cX0_addTailForm 44 = .ok (.getfield 10, 3) := by decide +kernel
theorem dX0_addTailForm_47 : decode cX0_addTailForm 47 = .ok (.iload 5, 2) := by decide +kernel
theorem dX0_addTailForm_49 : decode cX0_addTailForm 49 = .ok (.iload 6, 2) := by decide +kernel
theorem dX0_addTailForm_51 : decode cX0_addTailForm 51 = .ok (.iadd, 1) := by decide +kernel
theorem dX0_addTailForm_52 : decode cX0_addTailForm 52 = .ok (.iaload, 1) := by decide +kernel
theorem dX0_addTailForm_53 : decode cX0_addTailForm 53 = .ok (.ifCond .eq 32, 3) := by decide +kernel
theorem dX0_addTailForm_56 : decode cX0_addTailForm 56 = .ok (.aload_n 0, 1) := by decide +kernel
theorem dX0_addTailForm_57 : decode cX0_addTailForm 57 = .ok (.iload_n 1, 1) := by decide +kernel
theorem dX0_addTailForm_58 : decode cX0_addTailForm 58 = .ok (.aload_n 0, 1) := by decide +kernel
theorem dX0_addTailForm_59 : decode cX0_addTailForm 59 = .ok (.getfield 36, 3) := by decide +kernel
theorem dX0_addTailForm_62 : decode cX0_addTailForm 62 = .ok (.iload 4, 2) := by decide +kernel
theorem dX0_addTailForm_64 : decode cX0_addTailForm 64 = .ok (.iload_n 1, 1) := by decide +kernel
theorem dX0_addTailForm_65 : decode cX0_addTailForm 65 = .ok (.iconst 1, 1) := by decide +kernel
theorem dX0_addTailForm_66 : decode cX0_addTailForm 66 = .ok (.isub, 1) := by decide +kernel
theorem dX0_addTailForm_67 : decode cX0_addTailForm 67 = .ok (.iload 6, 2) := by decide +kernel
theorem dX0_addTailForm_69 : decode cX0_addTailForm 69 = .ok (.invokevirtual 93, 3) := by decide +kernel
theorem dX0_addTailForm_72 : decode cX0_addTailForm 72 = .ok (.aload_n 0, 1) := by decide +kernel
theorem dX0_addTailForm_73 : decode cX0_addTailForm 73 = .ok (.getfield 10, 3) := by decide +kernel
theorem dX0_addTailForm_76 : decode cX0_addTailForm 76 = .ok (.iload 5, 2) := by decide +kernel
theorem dX0_addTailForm_78 : decode cX0_addTailForm 78 = .ok (.iload 6, 2) := by decide +kernel
theorem dX0_addTailForm_80 : decode cX0_addTailForm 80 = .ok (.iadd, 1) := by decide +kernel
theorem dX0_addTailForm_81 : decode cX0_addTailForm 81 = .ok (.iaload, 1) := by decide +kernel
theorem dX0_addTailForm_82 : decode cX0_addTailForm 82 = .ok (.invokevirtual 154, 3) := by decide +kernel
theorem dX0_addTailForm_85 : decode cX0_addTailForm 85 = .ok (.iinc 6 1, 3) := by decide +kernel
theorem dX0_addTailForm_88 : decode cX0_addTailForm 88 = .ok (.goto (-51), 3) := by decide +kernel
theorem dX0_addTailForm_91 : decode cX0_addTailForm 91 = .ok (.return_, 1) := by decide +kernel
theorem dX0_clearForm_0 : decode cX0_clearForm 0 = .ok (.iconst 0, 1) := by decide +kernel
theorem dX0_clearForm_1 : decode cX0_clearForm 1 = .ok (.istore_n 2, 1) := by decide +kernel
theorem dX0_clearForm_2 : decode cX0_clearForm 2 = .ok (.iload_n 2, 1) := by decide +kernel
theorem dX0_clearForm_3 : decode cX0_clearForm 3 = .ok (.iload_n 1, 1) := by decide +kernel
theorem dX0_clearForm_4 : decode cX0_clearForm 4 = .ok (.if_icmp .ge 16, 3) := by decide +kernel
theorem dX0_clearForm_7 : decode cX0_clearForm 7 = .ok (.aload_n 0, 1) := by decide +kernel
theorem dX0_clearForm_8 : decode cX0_clearForm 8 = .ok (.getfield 29, 3) := by decide +kernel
theorem dX0_clearForm_11 : decode cX0_clearForm 11 = .ok (.iload_n 2, 1) := by decide +kernel
theorem dX0_clearForm_12 : decode cX0_clearForm 12 = .ok (.iconst 0, 1) := by decide +kernel
theorem dX0_clearForm_13 : decode cX0_clearForm 13 = .ok (.iastore, 1) := by decide +kernel
theorem dX0_clearForm_14 : decode cX0_clearForm 14 = .ok (.iinc 2 1, 3) := by decide +kernel
theorem dX0_clearForm_17 : decode cX0_clearForm 17 = .ok (.goto (-15), 3) := by decide +kernel
theorem dX0_clearForm_20 : decode cX0_clearForm 20 = .ok (.return_, 1) := by decide +kernel
theorem dX0_followShorter_0 : decode cX0_followShorter 0 = .ok (.iload_n 1, 1) := by decide +kernel
theorem dX0_followShorter_1 : decode cX0_followShorter 1 = .ok (.ifCond .le 34, 3) := by decide +kernel
theorem dX0_followShorter_4 : decode cX0_followShorter 4 = .ok (.aload_n 0, 1) := by decide +kernel
theorem dX0_followShorter_5 : decode cX0_followShorter 5 = .ok (.getfield 16, 3) := by decide +kernel
theorem dX0_followShorter_8 : decode cX0_followShorter 8 = .ok (.aload_n 0, 1) := by decide +kernel
theorem dX0_followShorter_9 : decode cX0_followShorter 9 = .ok (.getfield 36, 3) := by decide +kernel
theorem dX0_followShorter_12 : decode cX0_followShorter 12 = .ok (.iload_n 1, 1) := by decide +kernel
theorem dX0_followShorter_13 : decode cX0_followShorter 13 = .ok (.iconst 1, 1) := by decide +kernel
theorem dX0_followShorter_14 : decode cX0_followShorter 14 = .ok (.isub, 1) := by decide +kernel
theorem dX0_followShorter_15 : decode cX0_followShorter 15 = .ok (.aload_n 0, 1) := by decide +kernel
theorem dX0_followShorter_16 : decode cX0_followShorter 16 = .ok (.getfield 36, 3) := by decide +kernel
theorem dX0_followShorter_19 : decode cX0_followShorter 19 = .ok (.iload_n 1, 1) := by decide +kernel
theorem dX0_followShorter_20 : decode cX0_followShorter 20 = .ok (.iload_n 2, 1) := by decide +kernel
theorem dX0_followShorter_21 : decode cX0_followShorter 21 = .ok (.invokevirtual 109, 3) := by decide +kernel
theorem dX0_followShorter_24 : decode cX0_followShorter 24 = .ok (.invokevirtual 54, 3) := by decide +kernel
theorem dX0_followShorter_27 : decode cX0_followShorter 27 = .ok (.baload, 1) := by decide +kernel
theorem dX0_followShorter_28 : decode cX0_followShorter 28 = .ok (.ifCond .eq 7, 3) := by decide +kernel
theorem dX0_followShorter_31 : decode cX0_followShorter 31 = .ok (.iconst 1, 1) := by decide +kernel
theorem dX0_followShorter_32 : decode cX0_followShorter 32 = .ok (.goto 4, 3) := by decide +kernel
theorem dX0_followShorter_35 : decode cX0_followShorter 35 = .ok (.iconst 0, 1) := by decide +kernel
theorem dX0_followShorter_36 : decode cX0_followShorter 36 = .ok (.istore_n 3, 1) := by decide +kernel
theorem dX0_followShorter_37 : decode cX0_followShorter 37 = .ok (.iload_n 1, 1) := by decide +kernel
theorem dX0_followShorter_38 : decode cX0_followShorter 38 = .ok (.ifCond .le 33, 3) := by decide +kernel
theorem dX0_followShorter_41 : decode cX0_followShorter 41 = .ok (.aload_n 0, 1) := by decide +kernel
theorem dX0_followShorter_42 : decode cX0_followShorter 42 = .ok (.getfield 16, 3) := by decide +kernel
theorem dX0_followShorter_45 : decode cX0_followShorter 45 = .ok (.aload_n 0, 1) := by decide +kernel
theorem dX0_followShorter_46 : decode cX0_followShorter 46 = .ok (.getfield 36, 3) := by decide +kernel
theorem dX0_followShorter_49 : decode cX0_followShorter 49 = .ok (.iload_n 1, 1) := by decide +kernel
theorem dX0_followShorter_50 : decode cX0_followShorter 50 = .ok (.iconst 1, 1) := by decide +kernel
theorem dX0_followShorter_51 : decode cX0_followShorter 51 = .ok (.isub, 1) := by decide +kernel
theorem dX0_followShorter_52 : decode cX0_followShorter 52 = .ok (.aload_n 0, 1) := by decide +kernel
theorem dX0_followShorter_53 : decode cX0_followShorter 53 = .ok (.getfield 36, 3) := by decide +kernel
theorem dX0_followShorter_56 : decode cX0_followShorter 56 = .ok (.iload_n 2, 1) := by decide +kernel
theorem dX0_followShorter_57 : decode cX0_followShorter 57 = .ok (.invokevirtual 112, 3) := by decide +kernel
theorem dX0_followShorter_60 : decode cX0_followShorter 60 = .ok (.invokevirtual 54, 3) := by decide +kernel
theorem dX0_followShorter_63 : decode cX0_followShorter 63 = .ok (.baload, 1) := by decide +kernel
theorem dX0_followShorter_64 : decode cX0_followShorter 64 = .ok (.ifCond .eq 7, 3) := by decide +kernel
theorem dX0_followShorter_67 : decode cX0_followShorter 67 = .ok (.iconst 1, 1) := by decide +kernel
theorem dX0_followShorter_68 : decode cX0_followShorter 68 = .ok (.goto 4, 3) := by decide +kernel
theorem dX0_followShorter_71 : decode cX0_followShorter 71 = .ok (.iconst 0, 1) := by decide +kernel
theorem dX0_followShorter_72 : decode cX0_followShorter 72 = .ok (.istore 4, 2) := by decide +kernel
theorem dX0_followShorter_74 : decode cX0_followShorter 74 = .ok (.aload_n 0, 1) := by decide +kernel
theorem dX0_followShorter_75 : decode cX0_followShorter 75 = .ok (.getfield 16, 3) := by decide +kernel
theorem dX0_followShorter_78 : decode cX0_followShorter 78 = .ok (.aload_n 0, 1) := by decide +kernel
theorem dX0_followShorter_79 : decode cX0_followShorter 79 = .ok (.getfield 36, 3) := by decide +kernel
theorem dX0_followShorter_82 : decode cX0_followShorter 82 = .ok (.iload_n 1, 1) := by decide +kernel
theorem dX0_followShorter_83 : decode cX0_followShorter 83 = .ok (.iload_n 2, 1) := by decide +kernel
theorem dX0_followShorter_84 : decode cX0_followShorter 84 = .ok (.invokevirtual 54, 3) := by decide +kernel
theorem dX0_followShorter_87 : decode cX0_followShorter 87 = .ok (.iload_n 3, 1) := by decide +kernel
theorem dX0_followShorter_88 : decode cX0_followShorter 88 = .ok (.ifCond .ne 8, 3) := by decide +kernel
theorem dX0_followShorter_91 : decode cX0_followShorter 91 = .ok (.iload 4, 2) := by decide +kernel
theorem dX0_followShorter_93 : decode cX0_followShorter 93 = .ok (.ifCond .eq 7, 3) := by decide +kernel
theorem dX0_followShorter_96 : decode cX0_followShorter 96 = .ok (.iconst 1, 1) := by decide +kernel
theorem dX0_followShorter_97 : decode cX0_followShorter 97 = .ok (.goto 4, 3) := by decide +kernel
theorem dX0_followShorter_100 : decode cX0_followShorter 100 = .ok (.iconst 0, 1) := by decide +kernel
theorem dX0_followShorter_101 : decode cX0_followShorter 101 = .ok (.bastore, 1) := by decide +kernel
theorem dX0_followShorter_102 : decode cX0_followShorter 102 = .ok (.iload_n 3, 1) := by decide +kernel
theorem dX0_followShorter_103 : decode cX0_followShorter 103 = .ok (.ifCond .ne 9, 3) := by decide +kernel
theorem dX0_followShorter_106 : decode cX0_followShorter 106 = .ok (.iload 4, 2) := by decide +kernel
theorem dX0_followShorter_108 : decode cX0_followShorter 108 = .ok (.ifCond .ne 4, 3) := by decide +kernel
theorem dX0_followShorter_111 : decode cX0_followShorter 111 = .ok (.return_, 1) := by decide +kernel
theorem dX0_followShorter_112 : decode cX0_followShorter 112 = .ok (.aload_n 0, 1) := by decide +kernel
theorem dX0_followShorter_113 : decode cX0_followShorter 113 = .ok (.iload_n 2, 1) := by decide +kernel
theorem dX0_followShorter_114 : decode cX0_followShorter 114 = .ok (.iconst 1, 1) := by decide +kernel
theorem dX0_followShorter_115 : decode cX0_followShorter 115 = .ok (.iadd, 1) := by decide +kernel
theorem dX0_followShorter_116 : decode cX0_followShorter 116 = .ok (.invokevirtual 129, 3) := by decide +kernel
theorem dX0_followShorter_119 : decode cX0_followShorter 119 = .ok (.iload_n 3, 1) := by decide +kernel
theorem dX0_followShorter_120 : decode cX0_followShorter 120 = .ok (.ifCond .eq 12, 3) := by decide +kernel
theorem dX0_followShorter_123 : decode cX0_followShorter 123 = .ok (.aload_n 0, 1) := by decide +kernel
theorem dX0_followShorter_124 : decode cX0_followShorter 124 = .ok (.iload_n 1, 1) := by decide +kernel
theorem dX0_followShorter_125 : decode cX0_followShorter 125 = .ok (.iload_n 2, 1) := by decide +kernel
theorem dX0_followShorter_126 : decode cX0_followShorter 126 = .ok (.invokevirtual 132, 3) := by decide +kernel
theorem dX0_followShorter_129 : decode cX0_followShorter 129 = .ok (.goto 10, 3) := by decide +kernel
theorem dX0_followShorter_132 : decode cX0_followShorter 132 = .ok (.aload_n 0, 1) := by decide +kernel
theorem dX0_followShorter_133 : decode cX0_followShorter 133 = .ok (.iload_n 1, 1) := by decide +kernel
theorem dX0_followShorter_134 : decode cX0_followShorter 134 = .ok (.iload_n 2, 1) := by decide +kernel
theorem dX0_followShorter_135 : decode cX0_followShorter 135 = .ok (.iconst 1, 1) := by decide +kernel
theorem dX0_followShorter_136 : decode cX0_followShorter 136 = .ok (.invokevirtual 135, 3) := by decide +kernel
theorem dX0_followShorter_139 : decode cX0_followShorter 139 = .ok (.aload_n 0, 1) := by decide +kernel
theorem dX0_followShorter_140 : decode cX0_followShorter 140 = .ok (.getfield 29, 3) := by decide +kernel
theorem dX0_followShorter_143 : decode cX0_followShorter 143 = .ok (.iconst 0, 1) := by decide +kernel
theorem dX0_followShorter_144 : decode cX0_followShorter 144 = .ok (.aload_n 0, 1) := by decide +kernel
theorem dX0_followShorter_145 : decode cX0_followShorter 145 = .ok (.getfield 10, 3) := by decide +kernel
theorem dX0_followShorter_148 : decode cX0_followShorter 148 = .ok (.aload_n 0, 1) := by decide +kernel
theorem dX0_followShorter_149 : decode cX0_followShorter 149 = .ok (.getfield 36, 3) := by decide +kernel
theorem dX0_followShorter_152 : decode cX0_followShorter 152 = .ok (.iload_n 1, 1) := by decide +kernel
theorem dX0_followShorter_153 : decode cX0_followShorter 153 = .ok (.iload_n 2, 1) := by decide +kernel
theorem dX0_followShorter_154 : decode cX0_followShorter 154 = .ok (.invokevirtual 106, 3) := by decide +kernel
theorem dX0_followShorter_157 : decode cX0_followShorter 157 = .ok (.iload_n 2, 1) := by decide +kernel
theorem dX0_followShorter_158 : decode cX0_followShorter 158 = .ok (.iconst 1, 1) := by decide +kernel
theorem dX0_followShorter_159 : decode cX0_followShorter 159 = .ok (.iadd, 1) := by decide +kernel
theorem dX0_followShorter_160 : decode cX0_followShorter 160 = .ok (.invokestatic 139, 3) := by decide +kernel
theorem dX0_followShorter_163 : decode cX0_followShorter 163 = .ok (.iload_n 3, 1) := by decide +kernel
theorem dX0_followShorter_164 : decode cX0_followShorter 164 = .ok (.ifCond .eq 31, 3) := by decide +kernel
theorem dX0_followShorter_167 : decode cX0_followShorter 167 = .ok (.iload 4, 2) := by decide +kernel
theorem dX0_followShorter_169 : decode cX0_followShorter 169 = .ok (.ifCond .eq 26, 3) := by decide +kernel
theorem dX0_followShorter_172 : decode cX0_followShorter 172 = .ok (.aload_n 0, 1) := by decide +kernel
theorem dX0_followShorter_173 : decode cX0_followShorter 173 = .ok (.iload_n 1, 1) := by decide +kernel
theorem dX0_followShorter_174 : decode cX0_followShorter 174 = .ok (.iload_n 2, 1) := by decide +kernel
theorem dX0_followShorter_175 : decode cX0_followShorter 175 = .ok (.aload_n 0, 1) := by decide +kernel
theorem dX0_followShorter_176 : decode cX0_followShorter 176 = .ok (.getfield 36, 3) := by decide +kernel
theorem dX0_followShorter_179 : decode cX0_followShorter 179 = .ok (.invokevirtual 145, 3) := by decide +kernel
theorem dX0_followShorter_182 : decode cX0_followShorter 182 = .ok (.iconst 1, 1) := by decide +kernel
theorem dX0_followShorter_183 : decode cX0_followShorter 183 = .ok (.isub, 1) := by decide +kernel
theorem dX0_followShorter_184 : decode cX0_followShorter 184 = .ok (.invokevirtual 135, 3) := by decide +kernel
theorem dX0_followShorter_187 : decode cX0_followShorter 187 = .ok (.aload_n 0, 1) := by decide +kernel
theorem dX0_followShorter_188 : decode cX0_followShorter 188 = .ok (.iload_n 1, 1) := by decide +kernel
theorem dX0_followShorter_189 : decode cX0_followShorter 189 = .ok (.iload_n 2, 1) := by decide +kernel
theorem dX0_followShorter_190 : decode cX0_followShorter 190 = .ok (.iconst 1, 1) := by decide +kernel
theorem dX0_followShorter_191 : decode cX0_followShorter 191 = .ok (.iadd, 1) := by decide +kernel
theorem dX0_followShorter_192 : decode cX0_followShorter 192 = .ok (.invokevirtual 148, 3) := by decide +kernel
theorem dX0_followShorter_195 : decode cX0_followShorter 195 = .ok (.return_, 1) := by decide +kernel
theorem dX0_forgetFrom_0 : decode cX0_forgetFrom 0 = .ok (.aload_n 0, 1) := by decide +kernel
theorem dX0_forgetFrom_1 : decode cX0_forgetFrom 1 = .ok (.aload_n 0, 1) := by decide +kernel
theorem dX0_forgetFrom_2 : decode cX0_forgetFrom 2 = .ok (.getfield 32, 3) := by decide +kernel
theorem dX0_forgetFrom_5 : decode cX0_forgetFrom 5 = .ok (.iload_n 1, 1) := by decide +kernel
theorem dX0_forgetFrom_6 : decode cX0_forgetFrom 6 = .ok (.iconst 1, 1) := by decide +kernel
theorem dX0_forgetFrom_7 : decode cX0_forgetFrom 7 = .ok (.isub, 1) := by decide +kernel
theorem dX0_forgetFrom_8 : decode cX0_forgetFrom 8 = .ok (.invokestatic 44, 3) := by decide +kernel
theorem dX0_forgetFrom_11 : decode cX0_forgetFrom 11 = .ok (.putfield 32, 3) := by decide +kernel
theorem dX0_forgetFrom_14 : decode cX0_forgetFrom 14 = .ok (.return_, 1) := by decide +kernel
theorem dX0_init_0 : decode cX0_init 0 = .ok (.aload_n 0, 1) := by decide +kernel
theorem dX0_init_1 : decode cX0_init 1 = .ok (.invokespecial 3, 3) := by decide +kernel
theorem dX0_init_4 : decode cX0_init 4 = .ok (.aload_n 0, 1) := by decide +kernel
theorem dX0_init_5 : decode cX0_init 5 = .ok (.ldc 9, 2) := by decide +kernel
theorem dX0_init_7 : decode cX0_init 7 = .ok (.newarray .int, 2) := by decide +kernel
theorem dX0_init_9 : decode cX0_init 9 = .ok (.putfield 10, 3) := by decide +kernel
theorem dX0_init_12 : decode cX0_init 12 = .ok (.aload_n 0, 1) := by decide +kernel
theorem dX0_init_13 : decode cX0_init 13 = .ok (.sipush 364, 3) := by decide +kernel
theorem dX0_init_16 : decode cX0_init 16 = .ok (.newarray .boolean, 2) := by decide +kernel
theorem dX0_init_18 : decode cX0_init 18 = .ok (.putfield 16, 3) := by decide +kernel
theorem dX0_init_21 : decode cX0_init 21 = .ok (.aload_n 0, 1) := by decide +kernel
theorem dX0_init_22 : decode cX0_init 22 = .ok (.bipush 9, 2) := by decide +kernel
theorem dX0_init_24 : decode cX0_init 24 = .ok (.newarray .int, 2) := by decide +kernel
theorem dX0_init_26 : decode cX0_init 26 = .ok (.putfield 20, 3) := by decide +kernel
theorem dX0_init_29 : decode cX0_init 29 = .ok (.aload_n 0, 1) := by decide +kernel
theorem dX0_init_30 : decode cX0_init 30 = .ok (.bipush 9, 2) := by decide +kernel
theorem dX0_init_32 : decode cX0_init 32 = .ok (.newarray .int, 2) := by decide +kernel
theorem dX0_init_34 : decode cX0_init 34 = .ok (.putfield 23, 3) := by decide +kernel
theorem dX0_init_37 : decode cX0_init 37 = .ok (.aload_n 0, 1) := by decide +kernel
theorem dX0_init_38 : decode cX0_init 38 = .ok (.bipush 9, 2) := by decide +kernel
theorem dX0_init_40 : decode cX0_init 40 = .ok (.newarray .int, 2) := by decide +kernel
theorem dX0_init_42 : decode cX0_init 42 = .ok (.putfield 26, 3) := by decide +kernel
theorem dX0_init_45 : decode cX0_init 45 = .ok (.aload_n 0, 1) := by decide +kernel
theorem dX0_init_46 : decode cX0_init 46 = .ok (.sipush 243, 3) := by decide +kernel
theorem dX0_init_49 : decode cX0_init 49 = .ok (.newarray .int, 2) := by decide +kernel
theorem dX0_init_51 : decode cX0_init 51 = .ok (.putfield 29, 3) := by decide +kernel
theorem dX0_init_54 : decode cX0_init 54 = .ok (.aload_n 0, 1) := by decide +kernel
theorem dX0_init_55 : decode cX0_init 55 = .ok (.iconst (-1), 1) := by decide +kernel
theorem dX0_init_56 : decode cX0_init 56 = .ok (.putfield 32, 3) := by decide +kernel
theorem dX0_init_59 : decode cX0_init 59 = .ok (.aload_n 0, 1) := by decide +kernel
theorem dX0_init_60 : decode cX0_init 60 = .ok (.aload_n 1, 1) := by decide +kernel
theorem dX0_init_61 : decode cX0_init 61 = .ok (.putfield 36, 3) := by decide +kernel
theorem dX0_init_64 : decode cX0_init 64 = .ok (.aload_n 0, 1) := by decide +kernel
theorem dX0_init_65 : decode cX0_init 65 = .ok (.aload_n 2, 1) := by decide +kernel
theorem dX0_init_66 : decode cX0_init 66 = .ok (.putfield 40, 3) := by decide +kernel
theorem dX0_init_69 : decode cX0_init 69 = .ok (.return_, 1) := by decide +kernel
theorem dX0_isLeading_0 : decode cX0_isLeading 0 = .ok (.aload_n 0, 1) := by decide +kernel
theorem dX0_isLeading_1 : decode cX0_isLeading 1 = .ok (.iload_n 1, 1) := by decide +kernel
theorem dX0_isLeading_2 : decode cX0_isLeading 2 = .ok (.invokevirtual 50, 3) := by decide +kernel
theorem dX0_isLeading_5 : decode cX0_isLeading 5 = .ok (.aload_n 0, 1) := by decide +kernel
theorem dX0_isLeading_6 : decode cX0_isLeading 6 = .ok (.getfield 16, 3) := by decide +kernel
theorem dX0_isLeading_9 : decode cX0_isLeading 9 = .ok (.aload_n 0, 1) := by decide +kernel
theorem dX0_isLeading_10 : decode cX0_isLeading 10 = .ok (.getfield 36, 3) := by decide +kernel
theorem dX0_isLeading_13 : decode cX0_isLeading 13 = .ok (.iload_n 1, 1) := by decide +kernel
theorem dX0_isLeading_14 : decode cX0_isLeading 14 = .ok (.iload_n 2, 1) := by decide +kernel
theorem dX0_isLeading_15 : decode cX0_isLeading 15 = .ok (.invokevirtual 54, 3) := by decide +kernel
theorem dX0_isLeading_18 : decode cX0_isLeading 18 = .ok (.baload, 1) := by decide +kernel
theorem dX0_isLeading_19 : decode cX0_isLeading 19 = .ok (.ireturn, 1) := by decide +kernel
theorem dX0_isLeast_0 : decode cX0_isLeast 0 = .ok (.iload_n 1, 1) := by decide +kernel
theorem dX0_isLeast_1 : decode cX0_isLeast 1 = .ok (.ifCond .le 77, 3) := by decide +kernel
theorem dX0_isLeast_4 : decode cX0_isLeast 4 = .ok (.aload_n 0, 1) := by decide +kernel
theorem dX0_isLeast_5 : decode cX0_isLeast 5 = .ok (.getfield 16, 3) := by decide +kernel
theorem dX0_isLeast_8 : decode cX0_isLeast 8 = .ok (.aload_n 0, 1) := by decide +kernel
theorem dX0_isLeast_9 : decode cX0_isLeast 9 = .ok (.getfield 36, 3) := by decide +kernel
theorem dX0_isLeast_12 : decode cX0_isLeast 12 = .ok (.iload_n 1, 1) := by decide +kernel
theorem dX0_isLeast_13 : decode cX0_isLeast 13 = .ok (.iload_n 2, 1) := by decide +kernel
theorem dX0_isLeast_14 : decode cX0_isLeast 14 = .ok (.invokevirtual 54, 3) := by decide +kernel
theorem dX0_isLeast_17 : decode cX0_isLeast 17 = .ok (.baload, 1) := by decide +kernel
theorem dX0_isLeast_18 : decode cX0_isLeast 18 = .ok (.ifCond .eq 60, 3) := by decide +kernel
theorem dX0_isLeast_21 : decode cX0_isLeast 21 = .ok (.aload_n 0, 1) := by decide +kernel
theorem dX0_isLeast_22 : decode cX0_isLeast 22 = .ok (.getfield 16, 3) := by decide +kernel
theorem dX0_isLeast_25 : decode cX0_isLeast 25 = .ok (.aload_n 0, 1) := by decide +kernel
theorem dX0_isLeast_26 : decode cX0_isLeast 26 = .ok (.getfield 36, 3) := by decide +kernel
theorem dX0_isLeast_29 : decode cX0_isLeast 29 = .ok (.iload_n 1, 1) := by decide +kernel
theorem dX0_isLeast_30 : decode cX0_isLeast 30 = .ok (.iconst 1, 1) := by decide +kernel
theorem dX0_isLeast_31 : decode cX0_isLeast 31 = .ok (.isub, 1) := by decide +kernel
theorem dX0_isLeast_32 : decode cX0_isLeast 32 = .ok (.aload_n 0, 1) := by decide +kernel
theorem dX0_isLeast_33 : decode cX0_isLeast 33 = .ok (.getfield 36, 3) := by decide +kernel
theorem dX0_isLeast_36 : decode cX0_isLeast 36 = .ok (.iload_n 1, 1) := by decide +kernel
theorem dX0_isLeast_37 : decode cX0_isLeast 37 = .ok (.iload_n 2, 1) := by decide +kernel
theorem dX0_isLeast_38 : decode cX0_isLeast 38 = .ok (.invokevirtual 109, 3) := by decide +kernel
theorem dX0_isLeast_41 : decode cX0_isLeast 41 = .ok (.invokevirtual 54, 3) := by decide +kernel
theorem dX0_isLeast_44 : decode cX0_isLeast 44 = .ok (.baload, 1) := by decide +kernel
theorem dX0_isLeast_45 : decode cX0_isLeast 45 = .ok (.ifCond .ne 33, 3) := by decide +kernel
theorem dX0_isLeast_48 : decode cX0_isLeast 48 = .ok (.aload_n 0, 1) := by decide +kernel
theorem dX0_isLeast_49 : decode cX0_isLeast 49 = .ok (.getfield 16, 3) := by decide +kernel
theorem dX0_isLeast_52 : decode cX0_isLeast 52 = .ok (.aload_n 0, 1) := by decide +kernel
theorem dX0_isLeast_53 : decode cX0_isLeast 53 = .ok (.getfield 36, 3) := by decide +kernel
theorem dX0_isLeast_56 : decode cX0_isLeast 56 = .ok (.iload_n 1, 1) := by decide +kernel
theorem dX0_isLeast_57 : decode cX0_isLeast 57 = .ok (.iconst 1, 1) := by decide +kernel
theorem dX0_isLeast_58 : decode cX0_isLeast 58 = .ok (.isub, 1) := by decide +kernel
theorem dX0_isLeast_59 : decode cX0_isLeast 59 = .ok (.aload_n 0, 1) := by decide +kernel
theorem dX0_isLeast_60 : decode cX0_isLeast 60 = .ok (.getfield 36, 3) := by decide +kernel
theorem dX0_isLeast_63 : decode cX0_isLeast 63 = .ok (.iload_n 2, 1) := by decide +kernel
theorem dX0_isLeast_64 : decode cX0_isLeast 64 = .ok (.invokevirtual 112, 3) := by decide +kernel
theorem dX0_isLeast_67 : decode cX0_isLeast 67 = .ok (.invokevirtual 54, 3) := by decide +kernel
theorem dX0_isLeast_70 : decode cX0_isLeast 70 = .ok (.baload, 1) := by decide +kernel
theorem dX0_isLeast_71 : decode cX0_isLeast 71 = .ok (.ifCond .ne 7, 3) := by decide +kernel
theorem dX0_isLeast_74 : decode cX0_isLeast 74 = .ok (.iconst 1, 1) := by decide +kernel
theorem dX0_isLeast_75 : decode cX0_isLeast 75 = .ok (.goto 4, 3) := by decide +kernel
theorem dX0_isLeast_78 : decode cX0_isLeast 78 = .ok (.iconst 0, 1) := by decide +kernel
theorem dX0_isLeast_79 : decode cX0_isLeast 79 = .ok (.ireturn, 1) := by decide +kernel
theorem dX0_leastLawsOf_0 : decode cX0_leastLawsOf 0 = .ok (.aload_n 0, 1) := by decide +kernel
theorem dX0_leastLawsOf_1 : decode cX0_leastLawsOf 1 = .ok (.iload_n 1, 1) := by decide +kernel
theorem dX0_leastLawsOf_2 : decode cX0_leastLawsOf 2 = .ok (.invokevirtual 50, 3) := by decide +kernel
theorem dX0_leastLawsOf_5 : decode cX0_leastLawsOf 5 = .ok (.aload_n 0, 1) := by decide +kernel
theorem dX0_leastLawsOf_6 : decode cX0_leastLawsOf 6 = .ok (.getfield 23, 3) := by decide +kernel
theorem dX0_leastLawsOf_9 : decode cX0_leastLawsOf 9 = .ok (.iload_n 1, 1) := by decide +kernel
theorem dX0_leastLawsOf_10 : decode cX0_leastLawsOf 10 = .ok (.iaload, 1) := by decide +kernel
theorem dX0_leastLawsOf_11 : decode cX0_leastLawsOf 11 = .ok (.ireturn, 1) := by decide +kernel
theorem dX0_leastWord_0 : decode cX0_leastWord 0 = .ok (.aload_n 0, 1) := by decide +kernel
theorem dX0_leastWord_1 : decode cX0_leastWord 1 = .ok (.iload_n 1, 1) := by decide +kernel
theorem dX0_leastWord_2 : decode cX0_leastWord 2 = .ok (.invokevirtual 50, 3) := by decide +kernel
theorem dX0_leastWord_5 : decode cX0_leastWord 5 = .ok (.iload_n 2, 1) := by decide +kernel
theorem dX0_leastWord_6 : decode cX0_leastWord 6 = .ok (.istore_n 3, 1) := by decide +kernel
theorem dX0_leastWord_7 : decode cX0_leastWord 7 = .ok (.iconst 0, 1) := by decide +kernel
theorem dX0_leastWord_8 : decode cX0_leastWord 8 = .ok (.istore 4, 2) := by decide +kernel
theorem dX0_leastWord_10 : decode cX0_leastWord 10 = .ok (.iload 4, 2) := by decide +kernel
theorem dX0_leastWord_12 : decode cX0_leastWord 12 = .ok (.aload_n 0, 1) := by decide +kernel
theorem dX0_leastWord_13 : decode cX0_leastWord 13 = .ok (.getfield 36, 3) := by decide +kernel
theorem dX0_leastWord_16 : decode cX0_leastWord 16 = .ok (.iload_n 1, 1) := by decide +kernel
theorem dX0_leastWord_17 : decode cX0_leastWord 17 = .ok (.invokevirtual 59, 3) := by decide +kernel
theorem dX0_leastWord_20 : decode cX0_leastWord 20 = .ok (.if_icmp .ge 29, 3) := by decide +kernel
theorem dX0_leastWord_23 : decode cX0_leastWord 23 = .ok (.aload_n 0, 1) := by decide +kernel
theorem dX0_leastWord_24 : decode cX0_leastWord 24 = .ok (.iload_n 1, 1) := by decide +kernel
theorem dX0_leastWord_25 : decode cX0_leastWord 25 = .ok (.iload 4, 2) := by decide +kernel
theorem dX0_leastWord_27 : decode cX0_leastWord 27 = .ok (.invokevirtual 63, 3) := by decide +kernel
theorem dX0_leastWord_30 : decode cX0_leastWord 30 = .ok (.ifCond .eq 13, 3) := by decide +kernel
theorem dX0_leastWord_33 : decode cX0_leastWord 33 = .ok (.iload_n 3, 1) := by decide +kernel
theorem dX0_leastWord_34 : decode cX0_leastWord 34 = .ok (.ifCond .ne 6, 3) := by decide +kernel
theorem dX0_leastWord_37 : decode cX0_leastWord 37 = .ok (.iload 4, 2) := by decide +kernel
theorem dX0_leastWord_39 : decode cX0_leastWord 39 = .ok (.ireturn, 1) := by decide +kernel
theorem dX0_leastWord_40 : decode cX0_leastWord 40 = .ok (.iinc 3 (-1), 3) := by decide +kernel
theorem dX0_leastWord_43 : decode cX0_leastWord 43 = .ok (.iinc 4 1, 3) := by decide +kernel
theorem dX0_leastWord_46 : decode cX0_leastWord 46 = .ok (.goto (-36), 3) := by decide +kernel
theorem dX0_leastWord_49 : decode cX0_leastWord 49 = .ok (.iconst (-1), 1) := by decide +kernel
theorem dX0_leastWord_50 : decode cX0_leastWord 50 = .ok (.ireturn, 1) := by decide +kernel
theorem dX0_middleOf_0 : decode cX0_middleOf 0 = .ok (.aload_n 0, 1) := by decide +kernel
theorem dX0_middleOf_1 : decode cX0_middleOf 1 = .ok (.iload_n 1, 1) := by decide +kernel
theorem dX0_middleOf_2 : decode cX0_middleOf 2 = .ok (.iconst 1, 1) := by decide +kernel
theorem dX0_middleOf_3 : decode cX0_middleOf 3 = .ok (.iadd, 1) := by decide +kernel
theorem dX0_middleOf_4 : decode cX0_middleOf 4 = .ok (.invokevirtual 50, 3) := by decide +kernel
theorem dX0_middleOf_7 : decode cX0_middleOf 7 = .ok (.aload_n 0, 1) := by decide +kernel
theorem dX0_middleOf_8 : decode cX0_middleOf 8 = .ok (.getfield 26, 3) := by decide +kernel
theorem dX0_middleOf_11 : decode cX0_middleOf 11 = .ok (.iload_n 1, 1) := by decide +kernel
theorem dX0_middleOf_12 : decode cX0_middleOf 12 = .ok (.iaload, 1) := by decide +kernel
theorem dX0_middleOf_13 : decode cX0_middleOf 13 = .ok (.iconst (-1), 1) := by decide +kernel
theorem dX0_middleOf_14 : decode cX0_middleOf 14 = .ok (.if_icmp .ne 95, 3) := by decide +kernel
theorem dX0_middleOf_17 : decode cX0_middleOf 17 = .ok (.aload_n 2, 1) := by decide +kernel
theorem dX0_middleOf_18 : decode cX0_middleOf 18 = .ok (.aload_n 0, 1) := by decide +kernel
theorem dX0_middleOf_19 : decode cX0_middleOf 19 = .ok (.getfield 20, 3) := by decide +kernel
theorem dX0_middleOf_22 : decode cX0_middleOf 22 = .ok (.iload_n 1, 1) := by decide +kernel
theorem dX0_middleOf_23 : decode cX0_middleOf 23 = .ok (.iaload, 1) := by decide +kernel
theorem dX0_middleOf_24 : decode cX0_middleOf 24 = .ok (.invokevirtual 77, 3) := by decide +kernel
theorem dX0_middleOf_27 : decode cX0_middleOf 27 = .ok (.iconst 0, 1) := by decide +kernel
theorem dX0_middleOf_28 : decode cX0_middleOf 28 = .ok (.istore_n 3, 1) := by decide +kernel
theorem dX0_middleOf_29 : decode cX0_middleOf 29 = .ok (.iload_n 3, 1) := by decide +kernel
theorem dX0_middleOf_30 : decode cX0_middleOf 30 = .ok (.aload_n 0, 1) := by decide +kernel
theorem dX0_middleOf_31 : decode cX0_middleOf 31 = .ok (.getfield 36, 3) := by decide +kernel
theorem dX0_middleOf_34 : decode cX0_middleOf 34 = .ok (.invokevirtual 82, 3) := by decide +kernel
theorem dX0_middleOf_37 : decode cX0_middleOf 37 = .ok (.if_icmp .ge 55, 3) := by decide +kernel
theorem dX0_middleOf_40 : decode cX0_middleOf 40 = .ok (.iconst 0, 1) := by decide +kernel
theorem dX0_middleOf_41 : decode cX0_middleOf 41 = .ok (.istore 4, 2) := by decide +kernel
theorem dX0_middleOf_43 : decode cX0_middleOf 43 = .ok (.iload 4, 2) := by decide +kernel
theorem dX0_middleOf_45 : decode cX0_middleOf 45 = .ok (.aload_n 0, 1) := by decide +kernel
theorem dX0_middleOf_46 : decode cX0_middleOf 46 = .ok (.getfield 36, 3) := by decide +kernel
theorem dX0_middleOf_49 : decode cX0_middleOf 49 = .ok (.iload_n 1, 1) := by decide +kernel
theorem dX0_middleOf_50 : decode cX0_middleOf 50 = .ok (.iconst 1, 1) := by decide +kernel
theorem dX0_middleOf_51 : decode cX0_middleOf 51 = .ok (.iadd, 1) := by decide +kernel
theorem dX0_middleOf_52 : decode cX0_middleOf 52 = .ok (.invokevirtual 59, 3) := by decide +kernel
theorem dX0_middleOf_55 : decode cX0_middleOf 55 = .ok (.if_icmp .ge 31, 3) := by decide +kernel
theorem dX0_middleOf_58 : decode cX0_middleOf 58 = .ok (.aload_n 2, 1) := by decide +kernel
theorem dX0_middleOf_59 : decode cX0_middleOf 59 = .ok (.invokevirtual 86, 3) := by decide +kernel
theorem dX0_middleOf_62 : decode cX0_middleOf 62 = .ok (.aload_n 0, 1) := by decide +kernel
theorem dX0_middleOf_63 : decode cX0_middleOf 63 = .ok (.getfield 20, 3) := by decide +kernel
theorem dX0_middleOf_66 : decode cX0_middleOf 66 = .ok (.iload_n 1, 1) := by decide +kernel
theorem dX0_middleOf_67 : decode cX0_middleOf 67 = .ok (.iaload, 1) := by decide +kernel
theorem dX0_middleOf_68 : decode cX0_middleOf 68 = .ok (.if_icmp .ge 18, 3) := by decide +kernel
theorem dX0_middleOf_71 : decode cX0_middleOf 71 = .ok (.aload_n 0, 1) := by decide +kernel
theorem dX0_middleOf_72 : decode cX0_middleOf 72 = .ok (.iload_n 1, 1) := by decide +kernel
theorem dX0_middleOf_73 : decode cX0_middleOf 73 = .ok (.iload_n 3, 1) := by decide +kernel
theorem dX0_middleOf_74 : decode cX0_middleOf 74 = .ok (.iload 4, 2) := by decide +kernel
theorem dX0_middleOf_76 : decode cX0_middleOf 76 = .ok (.aload_n 2, 1) := by decide +kernel
theorem dX0_middleOf_77 : decode cX0_middleOf 77 = .ok (.invokevirtual 89, 3) := by decide +kernel
theorem dX0_middleOf_80 : decode cX0_middleOf 80 = .ok (.iinc 4 1, 3) := by decide +kernel
theorem dX0_middleOf_83 : decode cX0_middleOf 83 = .ok (.goto (-40), 3) := by decide +kernel
theorem dX0_middleOf_86 : decode cX0_middleOf 86 = .ok (.iinc 3 1, 3) := by decide +kernel
theorem dX0_middleOf_89 : decode cX0_middleOf 89 = .ok (.goto (-60), 3) := by decide +kernel
theorem dX0_middleOf_92 : decode cX0_middleOf 92 = .ok (.aload_n 0, 1) := by decide +kernel
theorem dX0_middleOf_93 : decode cX0_middleOf 93 = .ok (.getfield 26, 3) := by decide +kernel
theorem dX0_middleOf_96 : decode cX0_middleOf 96 = .ok (.iload_n 1, 1) := by decide +kernel
theorem dX0_middleOf_97 : decode cX0_middleOf 97 = .ok (.aload_n 0, 1) := by decide +kernel
theorem dX0_middleOf_98 : decode cX0_middleOf 98 = .ok (.getfield 20, 3) := by decide +kernel
theorem dX0_middleOf_101 : decode cX0_middleOf 101 = .ok (.iload_n 1, 1) := by decide +kernel
theorem dX0_middleOf_102 : decode cX0_middleOf 102 = .ok (.iaload, 1) := by decide +kernel
theorem dX0_middleOf_103 : decode cX0_middleOf 103 = .ok (.aload_n 2, 1) := by decide +kernel
theorem dX0_middleOf_104 : decode cX0_middleOf 104 = .ok (.invokevirtual 86, 3) := by decide +kernel
theorem dX0_middleOf_107 : decode cX0_middleOf 107 = .ok (.isub, 1) := by decide +kernel
theorem dX0_middleOf_108 : decode cX0_middleOf 108 = .ok (.iastore, 1) := by decide +kernel
theorem dX0_middleOf_109 : decode cX0_middleOf 109 = .ok (.aload_n 0, 1) := by decide +kernel
theorem dX0_middleOf_110 : decode cX0_middleOf 110 = .ok (.getfield 26, 3) := by decide +kernel
theorem dX0_middleOf_113 : decode cX0_middleOf 113 = .ok (.iload_n 1, 1) := by decide +kernel
theorem dX0_middleOf_114 : decode cX0_middleOf 114 = .ok (.iaload, 1) := by decide +kernel
theorem dX0_middleOf_115 : decode cX0_middleOf 115 = .ok (.ireturn, 1) := by decide +kernel
theorem dX0_normalWord_0 : decode cX0_normalWord 0 = .ok (.aload_n 0, 1) := by decide +kernel
theorem dX0_normalWord_1 : decode cX0_normalWord 1 = .ok (.iload_n 1, 1) := by decide +kernel
theorem dX0_normalWord_2 : decode cX0_normalWord 2 = .ok (.invokevirtual 50, 3) := by decide +kernel
theorem dX0_normalWord_5 : decode cX0_normalWord 5 = .ok (.iload_n 2, 1) := by decide +kernel
theorem dX0_normalWord_6 : decode cX0_normalWord 6 = .ok (.istore_n 3, 1) := by decide +kernel
theorem dX0_normalWord_7 : decode cX0_normalWord 7 = .ok (.iconst 0, 1) := by decide +kernel
theorem dX0_normalWord_8 : decode cX0_normalWord 8 = .ok (.istore 4, 2) := by decide +kernel
theorem dX0_normalWord_10 : decode cX0_normalWord 10 = .ok (.iload 4, 2) := by decide +kernel
theorem dX0_normalWord_12 : decode cX0_normalWord 12 = .ok (.aload_n 0, 1) := by decide +kernel
theorem dX0_normalWord_13 : decode cX0_normalWord 13 = .ok (.getfield 36, 3) := by decide +kernel
theorem dX0_normalWord_16 : decode cX0_normalWord 16 = .ok (.iload_n 1, 1) := by decide +kernel
theorem dX0_normalWord_17 : decode cX0_normalWord 17 = .ok (.invokevirtual 59, 3) := by decide +kernel
theorem dX0_normalWord_20 : decode cX0_normalWord 20 = .ok (.if_icmp .ge 37, 3) := by decide +kernel
theorem dX0_normalWord_23 : decode cX0_normalWord 23 = .ok (.aload_n 0, 1) := by decide +kernel
theorem dX0_normalWord_24 : decode cX0_normalWord 24 = .ok (.getfield 16, 3) := by decide +kernel
theorem dX0_normalWord_27 : decode cX0_normalWord 27 = .ok (.aload_n 0, 1) := by decide +kernel
theorem dX0_normalWord_28 : decode cX0_normalWord 28 = .ok (.getfield 36, 3) := by decide +kernel
theorem dX0_normalWord_31 : decode cX0_normalWord 31 = .ok (.iload_n 1, 1) := by decide +kernel
theorem dX0_normalWord_32 : decode cX0_normalWord 32 = .ok (.iload 4, 2) := by decide +kernel
theorem dX0_normalWord_34 : decode cX0_normalWord 34 = .ok (.invokevirtual 54, 3) := by decide +kernel
theorem dX0_normalWord_37 : decode cX0_normalWord 37 = .ok (.baload, 1) := by decide +kernel
theorem dX0_normalWord_38 : decode cX0_normalWord 38 = .ok (.ifCond .ne 13, 3) := by decide +kernel
theorem dX0_normalWord_41 : decode cX0_normalWord 41 = .ok (.iload_n 3, 1) := by decide +kernel
theorem dX0_normalWord_42 : decode cX0_normalWord 42 = .ok (.ifCond .ne 6, 3) := by decide +kernel
theorem dX0_normalWord_45 : decode cX0_normalWord 45 = .ok (.iload 4, 2) := by decide +kernel
theorem dX0_normalWord_47 : decode cX0_normalWord 47 = .ok (.ireturn, 1) := by decide +kernel
theorem dX0_normalWord_48 : decode cX0_normalWord 48 = .ok (.iinc 3 (-1), 3) := by decide +kernel
theorem dX0_normalWord_51 : decode cX0_normalWord 51 = .ok (.iinc 4 1, 3) := by decide +kernel
theorem dX0_normalWord_54 : decode cX0_normalWord 54 = .ok (.goto (-44), 3) := by decide +kernel
theorem dX0_normalWord_57 : decode cX0_normalWord 57 = .ok (.iconst (-1), 1) := by decide +kernel
theorem dX0_normalWord_58 : decode cX0_normalWord 58 = .ok (.ireturn, 1) := by decide +kernel
theorem dX0_normalsOf_0 : decode cX0_normalsOf 0 = .ok (.aload_n 0, 1) := by decide +kernel
theorem dX0_normalsOf_1 : decode cX0_normalsOf 1 = .ok (.iload_n 1, 1) := by decide +kernel
theorem dX0_normalsOf_2 : decode cX0_normalsOf 2 = .ok (.invokevirtual 50, 3) := by decide +kernel
theorem dX0_normalsOf_5 : decode cX0_normalsOf 5 = .ok (.aload_n 0, 1) := by decide +kernel
theorem dX0_normalsOf_6 : decode cX0_normalsOf 6 = .ok (.getfield 20, 3) := by decide +kernel
theorem dX0_normalsOf_9 : decode cX0_normalsOf 9 = .ok (.iload_n 1, 1) := by decide +kernel
theorem dX0_normalsOf_10 : decode cX0_normalsOf 10 = .ok (.iaload, 1) := by decide +kernel
theorem dX0_normalsOf_11 : decode cX0_normalsOf 11 = .ok (.ireturn, 1) := by decide +kernel
theorem dX0_numberAt_0 : decode cX0_numberAt 0 = .ok (.aload_n 0, 1) := by decide +kernel
theorem dX0_numberAt_1 : decode cX0_numberAt 1 = .ok (.getfield 16, 3) := by decide +kernel
theorem dX0_numberAt_4 : decode cX0_numberAt 4 = .ok (.aload_n 0, 1) := by decide +kernel
theorem dX0_numberAt_5 : decode cX0_numberAt 5 = .ok (.getfield 36, 3) := by decide +kernel
theorem dX0_numberAt_8 : decode cX0_numberAt 8 = .ok (.iload_n 1, 1) := by decide +kernel
theorem dX0_numberAt_9 : decode cX0_numberAt 9 = .ok (.iload_n 3, 1) := by decide +kernel
theorem dX0_numberAt_10 : decode cX0_numberAt 10 = .ok (.invokevirtual 54, 3) := by decide +kernel
theorem dX0_numberAt_13 : decode cX0_numberAt 13 = .ok (.baload, 1) := by decide +kernel
theorem dX0_numberAt_14 : decode cX0_numberAt 14 = .ok (.ifCond .ne 14, 3) := by decide +kernel
theorem dX0_numberAt_17 : decode cX0_numberAt 17 = .ok (.iload_n 2, 1) := by decide +kernel
theorem dX0_numberAt_18 : decode cX0_numberAt 18 = .ok (.iload_n 3, 1) := by decide +kernel
theorem dX0_numberAt_19 : decode cX0_numberAt 19 = .ok (.if_icmp .ne 7, 3) := by decide +kernel
theorem dX0_numberAt_22 : decode cX0_numberAt 22 = .ok (.iconst 1, 1) := by decide +kernel
theorem dX0_numberAt_23 : decode cX0_numberAt 23 = .ok (.goto 4, 3) := by decide +kernel
theorem dX0_numberAt_26 : decode cX0_numberAt 26 = .ok (.iconst 0, 1) := by decide +kernel
theorem dX0_numberAt_27 : decode cX0_numberAt 27 = .ok (.ireturn, 1) := by decide +kernel
theorem dX0_numberAt_28 : decode cX0_numberAt 28 = .ok (.iload_n 2, 1) := by decide +kernel
theorem dX0_numberAt_29 : decode cX0_numberAt 29 = .ok (.iload_n 3, 1) := by decide +kernel
theorem dX0_numberAt_30 : decode cX0_numberAt 30 = .ok (.if_icmp .gt 22, 3) := by decide +kernel
theorem dX0_numberAt_33 : decode cX0_numberAt 33 = .ok (.aload_n 0, 1) := by decide +kernel
theorem dX0_numberAt_34 : decode cX0_numberAt 34 = .ok (.getfield 10, 3) := by decide +kernel
theorem dX0_numberAt_37 : decode cX0_numberAt 37 = .ok (.aload_n 0, 1) := by decide +kernel
theorem dX0_numberAt_38 : decode cX0_numberAt 38 = .ok (.getfield 36, 3) := by decide +kernel
theorem dX0_numberAt_41 : decode cX0_numberAt 41 = .ok (.iload_n 1, 1) := by decide +kernel
theorem dX0_numberAt_42 : decode cX0_numberAt 42 = .ok (.iload_n 3, 1) := by decide +kernel
theorem dX0_numberAt_43 : decode cX0_numberAt 43 = .ok (.invokevirtual 106, 3) := by decide +kernel
theorem dX0_numberAt_46 : decode cX0_numberAt 46 = .ok (.iload_n 2, 1) := by decide +kernel
theorem dX0_numberAt_47 : decode cX0_numberAt 47 = .ok (.iadd, 1) := by decide +kernel
theorem dX0_numberAt_48 : decode cX0_numberAt 48 = .ok (.iaload, 1) := by decide +kernel
theorem dX0_numberAt_49 : decode cX0_numberAt 49 = .ok (.goto 4, 3) := by decide +kernel
theorem dX0_numberAt_52 : decode cX0_numberAt 52 = .ok (.iconst 0, 1) := by decide +kernel
theorem dX0_numberAt_53 : decode cX0_numberAt 53 = .ok (.ireturn, 1) := by decide +kernel
theorem dX0_numberInForm_0 : decode cX0_numberInForm 0 = .ok (.aload_n 0, 1) := by decide +kernel
theorem dX0_numberInForm_1 : decode cX0_numberInForm 1 = .ok (.iload_n 1, 1) := by decide +kernel
theorem dX0_numberInForm_2 : decode cX0_numberInForm 2 = .ok (.invokevirtual 50, 3) := by decide +kernel
theorem dX0_numberInForm_5 : decode cX0_numberInForm 5 = .ok (.aload_n 0, 1) := by decide +kernel
theorem dX0_numberInForm_6 : decode cX0_numberInForm 6 = .ok (.iload_n 1, 1) := by decide +kernel
theorem dX0_numberInForm_7 : decode cX0_numberInForm 7 = .ok (.iload_n 2, 1) := by decide +kernel
theorem dX0_numberInForm_8 : decode cX0_numberInForm 8 = .ok (.iload_n 3, 1) := by decide +kernel
theorem dX0_numberInForm_9 : decode cX0_numberInForm 9 = .ok (.invokevirtual 67, 3) := by decide +kernel
theorem dX0_numberInForm_12 : decode cX0_numberInForm 12 = .ok (.ireturn, 1) := by decide +kernel
theorem dX0_prepare_0 : decode cX0_prepare 0 = .ok (.aload_n 0, 1) := by decide +kernel
theorem dX0_prepare_1 : decode cX0_prepare 1 = .ok (.getfield 32, 3) := by decide +kernel
theorem dX0_prepare_4 : decode cX0_prepare 4 = .ok (.iconst 1, 1) := by decide +kernel
theorem dX0_prepare_5 : decode cX0_prepare 5 = .ok (.iadd, 1) := by decide +kernel
theorem dX0_prepare_6 : decode cX0_prepare 6 = .ok (.istore_n 2, 1) := by decide +kernel
theorem dX0_prepare_7 : decode cX0_prepare 7 = .ok (.iload_n 2, 1) := by decide +kernel
theorem dX0_prepare_8 : decode cX0_prepare 8 = .ok (.iload_n 1, 1) := by decide +kernel
theorem dX0_prepare_9 : decode cX0_prepare 9 = .ok (.if_icmp .gt 70, 3) := by decide +kernel
theorem dX0_prepare_12 : decode cX0_prepare 12 = .ok (.iconst 0, 1) := by decide +kernel
theorem dX0_prepare_13 : decode cX0_prepare 13 = .ok (.istore_n 3, 1) := by decide +kernel
theorem dX0_prepare_14 : decode cX0_prepare 14 = .ok (.iload_n 3, 1) := by decide +kernel
theorem dX0_prepare_15 : decode cX0_prepare 15 = .ok (.aload_n 0, 1) := by decide +kernel
theorem dX0_prepare_16 : decode cX0_prepare 16 = .ok (.getfield 36, 3) := by decide +kernel
theorem dX0_prepare_19 : decode cX0_prepare 19 = .ok (.iload_n 2, 1) := by decide +kernel
theorem dX0_prepare_20 : decode cX0_prepare 20 = .ok (.invokevirtual 59, 3) := by decide +kernel
theorem dX0_prepare_23 : decode cX0_prepare 23 = .ok (.if_icmp .ge 15, 3) := by decide +kernel
theorem dX0_prepare_26 : decode cX0_prepare 26 = .ok (.aload_n 0, 1) := by decide +kernel
theorem dX0_prepare_27 : decode cX0_prepare 27 = .ok (.iload_n 2, 1) := by decide +kernel
theorem dX0_prepare_28 : decode cX0_prepare 28 = .ok (.iload_n 3, 1) := by decide +kernel
theorem dX0_prepare_29 : decode cX0_prepare 29 = .ok (.invokevirtual 115, 3) := by decide +kernel
theorem dX0_prepare_32 : decode cX0_prepare 32 = .ok (.iinc 3 1, 3) := by decide +kernel
theorem dX0_prepare_35 : decode cX0_prepare 35 = .ok (.goto (-21), 3) := by decide +kernel
theorem dX0_prepare_38 : decode cX0_prepare 38 = .ok (.iconst 0, 1) := by decide +kernel
theorem dX0_prepare_39 : decode cX0_prepare 39 = .ok (.istore_n 3, 1) := by decide +kernel
theorem dX0_prepare_40 : decode cX0_prepare 40 = .ok (.iload_n 3, 1) := by decide +kernel
theorem dX0_prepare_41 : decode cX0_prepare 41 = .ok (.aload_n 0, 1) := by decide +kernel
theorem dX0_prepare_42 : decode cX0_prepare 42 = .ok (.getfield 40, 3) := by decide +kernel
theorem dX0_prepare_45 : decode cX0_prepare 45 = .ok (.invokevirtual 118, 3) := by decide +kernel
theorem dX0_prepare_48 : decode cX0_prepare 48 = .ok (.if_icmp .ge 15, 3) := by decide +kernel
theorem dX0_prepare_51 : decode cX0_prepare 51 = .ok (.aload_n 0, 1) := by decide +kernel
theorem dX0_prepare_52 : decode cX0_prepare 52 = .ok (.iload_n 2, 1) := by decide +kernel
theorem dX0_prepare_53 : decode cX0_prepare 53 = .ok (.iload_n 3, 1) := by decide +kernel
theorem dX0_prepare_54 : decode cX0_prepare 54 = .ok (.invokevirtual 123, 3) := by decide +kernel
theorem dX0_prepare_57 : decode cX0_prepare 57 = .ok (.iinc 3 1, 3) := by decide +kernel
theorem dX0_prepare_60 : decode cX0_prepare 60 = .ok (.goto (-20), 3) := by decide +kernel
theorem dX0_prepare_63 : decode cX0_prepare 63 = .ok (.aload_n 0, 1) := by decide +kernel
theorem dX0_prepare_64 : decode cX0_prepare 64 = .ok (.iload_n 2, 1) := by decide +kernel
theorem dX0_prepare_65 : decode cX0_prepare 65 = .ok (.invokevirtual 126, 3) := by decide +kernel
theorem dX0_prepare_68 : decode cX0_prepare 68 = .ok (.aload_n 0, 1) := by decide +kernel
theorem dX0_prepare_69 : decode cX0_prepare 69 = .ok (.iload_n 2, 1) := by decide +kernel
theorem dX0_prepare_70 : decode cX0_prepare 70 = .ok (.putfield 32, 3) := by decide +kernel
theorem dX0_prepare_73 : decode cX0_prepare 73 = .ok (.iinc 2 1, 3) := by decide +kernel
theorem dX0_prepare_76 : decode cX0_prepare 76 = .ok (.goto (-69), 3) := by decide +kernel
theorem dX0_prepare_79 : decode cX0_prepare 79 = .ok (.return_, 1) := by decide +kernel
theorem dX0_replaceLead_0 : decode cX0_replaceLead 0 = .ok (.aload_n 0, 1) := by decide +kernel
theorem dX0_replaceLead_1 : decode cX0_replaceLead 1 = .ok (.getfield 16, 3) := by decide +kernel
theorem dX0_replaceLead_4 : decode cX0_replaceLead 4 = .ok (.aload_n 0, 1) := by decide +kernel
theorem dX0_replaceLead_5 : decode cX0_replaceLead 5 = .ok (.getfield 36, 3) := by decide +kernel
theorem dX0_replaceLead_8 : decode cX0_replaceLead 8 = .ok (.iload_n 1, 1) := by decide +kernel
theorem dX0_replaceLead_9 : decode cX0_replaceLead 9 = .ok (.iload_n 2, 1) := by decide +kernel
theorem dX0_replaceLead_10 : decode cX0_replaceLead 10 = .ok (.invokevirtual 54, 3) := by decide +kernel
theorem dX0_replaceLead_13 : decode cX0_replaceLead 13 = .ok (.baload, 1) := by decide +kernel
theorem dX0_replaceLead_14 : decode cX0_replaceLead 14 = .ok (.ifCond .ne 4, 3) := by decide +kernel
theorem dX0_replaceLead_17 : decode cX0_replaceLead 17 = .ok (.return_, 1) := by decide +kernel
theorem dX0_replaceLead_18 : decode cX0_replaceLead 18 = .ok (.aload_n 0, 1) := by decide +kernel
theorem dX0_replaceLead_19 : decode cX0_replaceLead 19 = .ok (.getfield 36, 3) := by decide +kernel
theorem dX0_replaceLead_22 : decode cX0_replaceLead 22 = .ok (.iload_n 1, 1) := by decide +kernel
theorem dX0_replaceLead_23 : decode cX0_replaceLead 23 = .ok (.iload_n 2, 1) := by decide +kernel
theorem dX0_replaceLead_24 : decode cX0_replaceLead 24 = .ok (.invokevirtual 106, 3) := by decide +kernel
theorem dX0_replaceLead_27 : decode cX0_replaceLead 27 = .ok (.istore 4, 2) := by decide +kernel
theorem dX0_replaceLead_29 : decode cX0_replaceLead 29 = .ok (.aload_n 0, 1) := by decide +kernel
theorem dX0_replaceLead_30 : decode cX0_replaceLead 30 = .ok (.getfield 10, 3) := by decide +kernel
theorem dX0_replaceLead_33 : decode cX0_replaceLead 33 = .ok (.iload 4, 2) := by decide +kernel
theorem dX0_replaceLead_35 : decode cX0_replaceLead 35 = .ok (.iload_n 3, 1) := by decide +kernel
theorem dX0_replaceLead_36 : decode cX0_replaceLead 36 = .ok (.iadd, 1) := by decide +kernel
theorem dX0_replaceLead_37 : decode cX0_replaceLead 37 = .ok (.iaload, 1) := by decide +kernel
theorem dX0_replaceLead_38 : decode cX0_replaceLead 38 = .ok (.istore 5, 2) := by decide +kernel
theorem dX0_replaceLead_40 : decode cX0_replaceLead 40 = .ok (.iload 5, 2) := by decide +kernel
theorem dX0_replaceLead_42 : decode cX0_replaceLead 42 = .ok (.ifCond .ne 4, 3) := by decide +kernel
theorem dX0_replaceLead_45 : decode cX0_replaceLead 45 = .ok (.return_, 1) := by decide +kernel
theorem dX0_replaceLead_46 : decode cX0_replaceLead 46 = .ok (.aload_n 0, 1) := by decide +kernel
theorem dX0_replaceLead_47 : decode cX0_replaceLead 47 = .ok (.getfield 10, 3) := by decide +kernel
theorem dX0_replaceLead_50 : decode cX0_replaceLead 50 = .ok (.iload 4, 2) := by decide +kernel
theorem dX0_replaceLead_52 : decode cX0_replaceLead 52 = .ok (.iload_n 3, 1) := by decide +kernel
theorem dX0_replaceLead_53 : decode cX0_replaceLead 53 = .ok (.iadd, 1) := by decide +kernel
theorem dX0_replaceLead_54 : decode cX0_replaceLead 54 = .ok (.iconst 0, 1) := by decide +kernel
theorem dX0_replaceLead_55 : decode cX0_replaceLead 55 = .ok (.iastore, 1) := by decide +kernel
theorem dX0_replaceLead_56 : decode cX0_replaceLead 56 = .ok (.iconst 0, 1) := by decide +kernel
theorem dX0_replaceLead_57 : decode cX0_replaceLead 57 = .ok (.istore 6, 2) := by decide +kernel
theorem dX0_replaceLead_59 : decode cX0_replaceLead 59 = .ok (.iload 6, 2) := by decide +kernel
theorem dX0_replaceLead_61 : decode cX0_replaceLead 61 = .ok (.iload_n 3, 1) := by decide +kernel
theorem dX0_replaceLead_62 : decode cX0_replaceLead 62 = .ok (.if_icmp .ge 60, 3) := by decide +kernel
theorem dX0_replaceLead_65 : decode cX0_replaceLead 65 = .ok (.aload_n 0, 1) := by decide +kernel
theorem dX0_replaceLead_66 : decode cX0_replaceLead 66 = .ok (.getfield 29, 3) := by decide +kernel
theorem dX0_replaceLead_69 : decode cX0_replaceLead 69 = .ok (.iload 6, 2) := by decide +kernel
theorem dX0_replaceLead_71 : decode cX0_replaceLead 71 = .ok (.iaload, 1) := by decide +kernel
theorem dX0_replaceLead_72 : decode cX0_replaceLead 72 = .ok (.ifCond .eq 44, 3) := by decide +kernel
theorem dX0_replaceLead_75 : decode cX0_replaceLead 75 = .ok (.aload_n 0, 1) := by decide +kernel
theorem dX0_replaceLead_76 : decode cX0_replaceLead 76 = .ok (.getfield 10, 3) := by decide +kernel
theorem dX0_replaceLead_79 : decode cX0_replaceLead 79 = .ok (.iload 4, 2) := by decide +kernel
theorem dX0_replaceLead_81 : decode cX0_replaceLead 81 = .ok (.iload 6, 2) := by decide +kernel
theorem dX0_replaceLead_83 : decode cX0_replaceLead 83 = .ok (.iadd, 1) := by decide +kernel
theorem dX0_replaceLead_84 : decode cX0_replaceLead 84 = .ok (.aload_n 0, 1) := by decide +kernel
theorem dX0_replaceLead_85 : decode cX0_replaceLead 85 = .ok (.getfield 36, 3) := by decide +kernel
theorem dX0_replaceLead_88 : decode cX0_replaceLead 88 = .ok (.aload_n 0, 1) := by decide +kernel
theorem dX0_replaceLead_89 : decode cX0_replaceLead 89 = .ok (.getfield 10, 3) := by decide +kernel
theorem dX0_replaceLead_92 : decode cX0_replaceLead 92 = .ok (.iload 4, 2) := by decide +kernel
theorem dX0_replaceLead_94 : decode cX0_replaceLead 94 = .ok (.iload 6, 2) := by decide +kernel
theorem dX0_replaceLead_96 : decode cX0_replaceLead 96 = .ok (.iadd, 1) := by decide +kernel
theorem dX0_replaceLead_97 : decode cX0_replaceLead 97 = .ok (.iaload, 1) := by decide +kernel
theorem dX0_replaceLead_98 : decode cX0_replaceLead 98 = .ok (.i2l, 1) := by decide +kernel
theorem dX0_replaceLead_99 : decode cX0_replaceLead 99 = .ok (.iload 5, 2) := by decide +kernel
theorem dX0_replaceLead_101 : decode cX0_replaceLead 101 = .ok (.i2l, 1) := by decide +kernel
theorem dX0_replaceLead_102 : decode cX0_replaceLead 102 = .ok (.aload_n 0, 1) := by decide +kernel
theorem dX0_replaceLead_103 : decode cX0_replaceLead 103 = .ok (.getfield 29, 3) := by decide +kernel
theorem dX0_replaceLead_106 : decode cX0_replaceLead 106 = .ok (.iload 6, 2) := by decide +kernel
theorem dX0_replaceLead_108 : decode cX0_replaceLead 108 = .ok (.iaload, 1) := by decide +kernel
theorem dX0_replaceLead_109 : decode cX0_replaceLead 109 = .ok (.i2l, 1) := by decide +kernel
theorem dX0_replaceLead_110 : decode cX0_replaceLead 110 = .ok (.lmul, 1) := by decide +kernel
theorem dX0_replaceLead_111 : decode cX0_replaceLead 111 = .ok (.ladd, 1) := by decide +kernel
theorem dX0_replaceLead_112 : decode cX0_replaceLead 112 = .ok (.invokevirtual 169, 3) := by decide +kernel
theorem dX0_replaceLead_115 : decode cX0_replaceLead 115 = .ok (.iastore, 1) := by decide +kernel
theorem dX0_replaceLead_116 : decode cX0_replaceLead 116 = .ok (.iinc 6 1, 3) := by decide +kernel
theorem dX0_replaceLead_119 : decode cX0_replaceLead 119 = .ok (.goto (-60), 3) := by decide +kernel
theorem dX0_replaceLead_122 : decode cX0_replaceLead 122 = .ok (.return_, 1) := by decide +kernel
theorem dX0_settle_0 : decode cX0_settle 0 = .ok (.aload_n 0, 1) := by decide +kernel
theorem dX0_settle_1 : decode cX0_settle 1 = .ok (.getfield 20, 3) := by decide +kernel
theorem dX0_settle_4 : decode cX0_settle 4 = .ok (.iload_n 1, 1) := by decide +kernel
theorem dX0_settle_5 : decode cX0_settle 5 = .ok (.iconst 0, 1) := by decide +kernel
theorem dX0_settle_6 : decode cX0_settle 6 = .ok (.iastore, 1) := by decide +kernel
theorem dX0_settle_7 : decode cX0_settle 7 = .ok (.aload_n 0, 1) := by decide +kernel
theorem dX0_settle_8 : decode cX0_settle 8 = .ok (.getfield 23, 3) := by decide +kernel
theorem dX0_settle_11 : decode cX0_settle 11 = .ok (.iload_n 1, 1) := by decide +kernel
theorem dX0_settle_12 : decode cX0_settle 12 = .ok (.iconst 0, 1) := by decide +kernel
theorem dX0_settle_13 : decode cX0_settle 13 = .ok (.iastore, 1) := by decide +kernel
theorem dX0_settle_14 : decode cX0_settle 14 = .ok (.iconst 0, 1) := by decide +kernel
theorem dX0_settle_15 : decode cX0_settle 15 = .ok (.istore_n 2, 1) := by decide +kernel
theorem dX0_settle_16 : decode cX0_settle 16 = .ok (.iload_n 2, 1) := by decide +kernel
theorem dX0_settle_17 : decode cX0_settle 17 = .ok (.aload_n 0, 1) := by decide +kernel
theorem dX0_settle_18 : decode cX0_settle 18 = .ok (.getfield 36, 3) := by decide +kernel
theorem dX0_settle_21 : decode cX0_settle 21 = .ok (.iload_n 1, 1) := by decide +kernel
theorem dX0_settle_22 : decode cX0_settle 22 = .ok (.invokevirtual 59, 3) := by decide +kernel
theorem dX0_settle_25 : decode cX0_settle 25 = .ok (.if_icmp .ge 58, 3) := by decide +kernel
theorem dX0_settle_28 : decode cX0_settle 28 = .ok (.aload_n 0, 1) := by decide +kernel
theorem dX0_settle_29 : decode cX0_settle 29 = .ok (.getfield 16, 3) := by decide +kernel
theorem dX0_settle_32 : decode cX0_settle 32 = .ok (.aload_n 0, 1) := by decide +kernel
theorem dX0_settle_33 : decode cX0_settle 33 = .ok (.getfield 36, 3) := by decide +kernel
theorem dX0_settle_36 : decode cX0_settle 36 = .ok (.iload_n 1, 1) := by decide +kernel
theorem dX0_settle_37 : decode cX0_settle 37 = .ok (.iload_n 2, 1) := by decide +kernel
theorem dX0_settle_38 : decode cX0_settle 38 = .ok (.invokevirtual 54, 3) := by decide +kernel
theorem dX0_settle_41 : decode cX0_settle 41 = .ok (.baload, 1) := by decide +kernel
theorem dX0_settle_42 : decode cX0_settle 42 = .ok (.ifCond .ne 16, 3) := by decide +kernel
theorem dX0_settle_45 : decode cX0_settle 45 = .ok (.aload_n 0, 1) := by decide +kernel
theorem dX0_settle_46 : decode cX0_settle 46 = .ok (.getfield 20, 3) := by decide +kernel
theorem dX0_settle_49 : decode cX0_settle 49 = .ok (.iload_n 1, 1) := by decide +kernel
theorem dX0_settle_50 : decode cX0_settle 50 = .ok (.dup2, 1) := by decide +kernel
theorem dX0_settle_51 : decode cX0_settle 51 = .ok (.iaload, 1) := by decide +kernel
theorem dX0_settle_52 : decode cX0_settle 52 = .ok (.iconst 1, 1) := by decide +kernel
theorem dX0_settle_53 : decode cX0_settle 53 = .ok (.iadd, 1) := by decide +kernel
theorem dX0_settle_54 : decode cX0_settle 54 = .ok (.iastore, 1) := by decide +kernel
theorem dX0_settle_55 : decode cX0_settle 55 = .ok (.goto 22, 3) := by decide +kernel
theorem dX0_settle_58 : decode cX0_settle 58 = .ok (.aload_n 0, 1) := by decide +kernel
theorem dX0_settle_59 : decode cX0_settle 59 = .ok (.iload_n 1, 1) := by decide +kernel
theorem dX0_settle_60 : decode cX0_settle 60 = .ok (.iload_n 2, 1) := by decide +kernel
theorem dX0_settle_61 : decode cX0_settle 61 = .ok (.invokevirtual 63, 3) := by decide +kernel
theorem dX0_settle_64 : decode cX0_settle 64 = .ok (.ifCond .eq 13, 3) := by decide +kernel
theorem dX0_settle_67 : decode cX0_settle 67 = .ok (.aload_n 0, 1) := by decide +kernel
theorem dX0_settle_68 : decode cX0_settle 68 = .ok (.getfield 23, 3) := by decide +kernel
theorem dX0_settle_71 : decode cX0_settle 71 = .ok (.iload_n 1, 1) := by decide +kernel
theorem dX0_settle_72 : decode cX0_settle 72 = .ok (.dup2, 1) := by decide +kernel
theorem dX0_settle_73 : decode cX0_settle 73 = .ok (.iaload, 1) := by decide +kernel
theorem dX0_settle_74 : decode cX0_settle 74 = .ok (.iconst 1, 1) := by decide +kernel
theorem dX0_settle_75 : decode cX0_settle 75 = .ok (.iadd, 1) := by decide +kernel
theorem dX0_settle_76 : decode cX0_settle 76 = .ok (.iastore, 1) := by decide +kernel
theorem dX0_settle_77 : decode cX0_settle 77 = .ok (.iinc 2 1, 3) := by decide +kernel
theorem dX0_settle_80 : decode cX0_settle 80 = .ok (.goto (-64), 3) := by decide +kernel
theorem dX0_settle_83 : decode cX0_settle 83 = .ok (.iload_n 1, 1) := by decide +kernel
theorem dX0_settle_84 : decode cX0_settle 84 = .ok (.ifCond .le 12, 3) := by decide +kernel
theorem dX0_settle_87 : decode cX0_settle 87 = .ok (.aload_n 0, 1) := by decide +kernel
theorem dX0_settle_88 : decode cX0_settle 88 = .ok (.getfield 26, 3) := by decide +kernel
theorem dX0_settle_91 : decode cX0_settle 91 = .ok (.iload_n 1, 1) := by decide +kernel
theorem dX0_settle_92 : decode cX0_settle 92 = .ok (.iconst 1, 1) := by decide +kernel
theorem dX0_settle_93 : decode cX0_settle 93 = .ok (.isub, 1) := by decide +kernel
theorem dX0_settle_94 : decode cX0_settle 94 = .ok (.iconst (-1), 1) := by decide +kernel
theorem dX0_settle_95 : decode cX0_settle 95 = .ok (.iastore, 1) := by decide +kernel
theorem dX0_settle_96 : decode cX0_settle 96 = .ok (.return_, 1) := by decide +kernel
theorem dX0_takeLaw_0 : decode cX0_takeLaw 0 = .ok (.aload_n 0, 1) := by decide +kernel
theorem dX0_takeLaw_1 : decode cX0_takeLaw 1 = .ok (.getfield 40, 3) := by decide +kernel
theorem dX0_takeLaw_4 : decode cX0_takeLaw 4 = .ok (.iload_n 2, 1) := by decide +kernel
theorem dX0_takeLaw_5 : decode cX0_takeLaw 5 = .ok (.invokevirtual 160, 3) := by decide +kernel
theorem dX0_takeLaw_8 : decode cX0_takeLaw 8 = .ok (.iload_n 1, 1) := by decide +kernel
theorem dX0_takeLaw_9 : decode cX0_takeLaw 9 = .ok (.if_icmp .eq 4, 3) := by decide +kernel
theorem dX0_takeLaw_12 : decode cX0_takeLaw 12 = .ok (.return_, 1) := by decide +kernel
theorem dX0_takeLaw_13 : decode cX0_takeLaw 13 = .ok (.aload_n 0, 1) := by decide +kernel
theorem dX0_takeLaw_14 : decode cX0_takeLaw 14 = .ok (.getfield 36, 3) := by decide +kernel
theorem dX0_takeLaw_17 : decode cX0_takeLaw 17 = .ok (.iload_n 1, 1) := by decide +kernel
theorem dX0_takeLaw_18 : decode cX0_takeLaw 18 = .ok (.invokevirtual 59, 3) := by decide +kernel
theorem dX0_takeLaw_21 : decode cX0_takeLaw 21 = .ok (.istore_n 3, 1) := by decide +kernel
theorem dX0_takeLaw_22 : decode cX0_takeLaw 22 = .ok (.aload_n 0, 1) := by decide +kernel
theorem dX0_takeLaw_23 : decode cX0_takeLaw 23 = .ok (.iload_n 3, 1) := by decide +kernel
theorem dX0_takeLaw_24 : decode cX0_takeLaw 24 = .ok (.invokevirtual 129, 3) := by decide +kernel
theorem dX0_takeLaw_27 : decode cX0_takeLaw 27 = .ok (.iconst 0, 1) := by decide +kernel
theorem dX0_takeLaw_28 : decode cX0_takeLaw 28 = .ok (.istore 4, 2) := by decide +kernel
theorem dX0_takeLaw_30 : decode cX0_takeLaw 30 = .ok (.iload 4, 2) := by decide +kernel
theorem dX0_takeLaw_32 : decode cX0_takeLaw 32 = .ok (.iload_n 3, 1) := by decide +kernel
theorem dX0_takeLaw_33 : decode cX0_takeLaw 33 = .ok (.if_icmp .ge 39, 3) := by decide +kernel
theorem dX0_takeLaw_36 : decode cX0_takeLaw 36 = .ok (.aload_n 0, 1) := by decide +kernel
theorem dX0_takeLaw_37 : decode cX0_takeLaw 37 = .ok (.getfield 40, 3) := by decide +kernel
theorem dX0_takeLaw_40 : decode cX0_takeLaw 40 = .ok (.iload_n 2, 1) := by decide +kernel
theorem dX0_takeLaw_41 : decode cX0_takeLaw 41 = .ok (.iload 4, 2) := by decide +kernel
theorem dX0_takeLaw_43 : decode cX0_takeLaw 43 = .ok (.invokevirtual 163, 3) := by decide +kernel
theorem dX0_takeLaw_46 : decode cX0_takeLaw 46 = .ok (.ifCond .eq 20, 3) := by decide +kernel
theorem dX0_takeLaw_49 : decode cX0_takeLaw 49 = .ok (.aload_n 0, 1) := by decide +kernel
theorem dX0_takeLaw_50 : decode cX0_takeLaw 50 = .ok (.iload_n 1, 1) := by decide +kernel
theorem dX0_takeLaw_51 : decode cX0_takeLaw 51 = .ok (.iload 4, 2) := by decide +kernel
theorem dX0_takeLaw_53 : decode cX0_takeLaw 53 = .ok (.aload_n 0, 1) := by decide +kernel
theorem dX0_takeLaw_54 : decode cX0_takeLaw 54 = .ok (.getfield 40, 3) := by decide +kernel
theorem dX0_takeLaw_57 : decode cX0_takeLaw 57 = .ok (.iload_n 2, 1) := by decide +kernel
theorem dX0_takeLaw_58 : decode cX0_takeLaw 58 = .ok (.iload 4, 2) := by decide +kernel
theorem dX0_takeLaw_60 : decode cX0_takeLaw 60 = .ok (.invokevirtual 163, 3) := by decide +kernel
theorem dX0_takeLaw_63 : decode cX0_takeLaw 63 = .ok (.invokevirtual 154, 3) := by decide +kernel
theorem dX0_takeLaw_66 : decode cX0_takeLaw 66 = .ok (.iinc 4 1, 3) := by decide +kernel
theorem dX0_takeLaw_69 : decode cX0_takeLaw 69 = .ok (.goto (-39), 3) := by decide +kernel
theorem dX0_takeLaw_72 : decode cX0_takeLaw 72 = .ok (.aload_n 0, 1) := by decide +kernel
theorem dX0_takeLaw_73 : decode cX0_takeLaw 73 = .ok (.iload_n 1, 1) := by decide +kernel
theorem dX0_takeLaw_74 : decode cX0_takeLaw 74 = .ok (.iload_n 3, 1) := by decide +kernel
theorem dX0_takeLaw_75 : decode cX0_takeLaw 75 = .ok (.invokevirtual 148, 3) := by decide +kernel
theorem dX0_takeLaw_78 : decode cX0_takeLaw 78 = .ok (.return_, 1) := by decide +kernel
theorem dX0_takeNought_0 : decode cX0_takeNought 0 = .ok (.iload_n 2, 1) := by decide +kernel
theorem dX0_takeNought_1 : decode cX0_takeNought 1 = .ok (.iconst 1, 1) := by decide +kernel
theorem dX0_takeNought_2 : decode cX0_takeNought 2 = .ok (.isub, 1) := by decide +kernel
theorem dX0_takeNought_3 : decode cX0_takeNought 3 = .ok (.istore_n 3, 1) := by decide +kernel
theorem dX0_takeNought_4 : decode cX0_takeNought 4 = .ok (.iload_n 3, 1) := by decide +kernel
theorem dX0_takeNought_5 : decode cX0_takeNought 5 = .ok (.ifCond .lt 18, 3) := by decide +kernel
theorem dX0_takeNought_8 : decode cX0_takeNought 8 = .ok (.aload_n 0, 1) := by decide +kernel
theorem dX0_takeNought_9 : decode cX0_takeNought 9 = .ok (.getfield 29, 3) := by decide +kernel
theorem dX0_takeNought_12 : decode cX0_takeNought 12 = .ok (.iload_n 3, 1) := by decide +kernel
theorem dX0_takeNought_13 : decode cX0_takeNought 13 = .ok (.iaload, 1) := by decide +kernel
theorem dX0_takeNought_14 : decode cX0_takeNought 14 = .ok (.ifCond .ne 9, 3) := by decide +kernel
theorem dX0_takeNought_17 : decode cX0_takeNought 17 = .ok (.iinc 3 (-1), 3) := by decide +kernel
theorem dX0_takeNought_20 : decode cX0_takeNought 20 = .ok (.goto (-16), 3) := by decide +kernel
theorem dX0_takeNought_23 : decode cX0_takeNought 23 = .ok (.iload_n 3, 1) := by decide +kernel
theorem dX0_takeNought_24 : decode cX0_takeNought 24 = .ok (.ifCond .ge 4, 3) := by decide +kernel
theorem dX0_takeNought_27 : decode cX0_takeNought 27 = .ok (.return_, 1) := by decide +kernel
theorem dX0_takeNought_28 : decode cX0_takeNought 28 = .ok (.aload_n 0, 1) := by decide +kernel
theorem dX0_takeNought_29 : decode cX0_takeNought 29 = .ok (.getfield 36, 3) := by decide +kernel
theorem dX0_takeNought_32 : decode cX0_takeNought 32 = .ok (.invokevirtual 145, 3) := by decide +kernel
theorem dX0_takeNought_35 : decode cX0_takeNought 35 = .ok (.aload_n 0, 1) := by decide +kernel
theorem dX0_takeNought_36 : decode cX0_takeNought 36 = .ok (.getfield 36, 3) := by decide +kernel
theorem dX0_takeNought_39 : decode cX0_takeNought 39 = .ok (.aload_n 0, 1) := by decide +kernel
theorem dX0_takeNought_40 : decode cX0_takeNought 40 = .ok (.getfield 29, 3) := by decide +kernel
theorem dX0_takeNought_43 : decode cX0_takeNought 43 = .ok (.iload_n 3, 1) := by decide +kernel
theorem dX0_takeNought_44 : decode cX0_takeNought 44 = .ok (.iaload, 1) := by decide +kernel
theorem dX0_takeNought_45 : decode cX0_takeNought 45 = .ok (.invokevirtual 166, 3) := by decide +kernel
theorem dX0_takeNought_48 : decode cX0_takeNought 48 = .ok (.isub, 1) := by decide +kernel
theorem dX0_takeNought_49 : decode cX0_takeNought 49 = .ok (.istore 4, 2) := by decide +kernel
theorem dX0_takeNought_51 : decode cX0_takeNought 51 = .ok (.aload_n 0, 1) := by decide +kernel
theorem dX0_takeNought_52 : decode cX0_takeNought 52 = .ok (.getfield 29, 3) := by decide +kernel
theorem dX0_takeNought_55 : decode cX0_takeNought 55 = .ok (.iload_n 3, 1) := by decide +kernel
theorem dX0_takeNought_56 : decode cX0_takeNought 56 = .ok (.iconst 0, 1) := by decide +kernel
theorem dX0_takeNought_57 : decode cX0_takeNought 57 = .ok (.iastore, 1) := by decide +kernel
theorem dX0_takeNought_58 : decode cX0_takeNought 58 = .ok (.iconst 0, 1) := by decide +kernel
theorem dX0_takeNought_59 : decode cX0_takeNought 59 = .ok (.istore 5, 2) := by decide +kernel
theorem dX0_takeNought_61 : decode cX0_takeNought 61 = .ok (.iload 5, 2) := by decide +kernel
theorem dX0_takeNought_63 : decode cX0_takeNought 63 = .ok (.iload_n 3, 1) := by decide +kernel
theorem dX0_takeNought_64 : decode cX0_takeNought 64 = .ok (.if_icmp .ge 35, 3) := by decide +kernel
theorem dX0_takeNought_67 : decode cX0_takeNought 67 = .ok (.aload_n 0, 1) := by decide +kernel
theorem dX0_takeNought_68 : decode cX0_takeNought 68 = .ok (.getfield 29, 3) := by decide +kernel
theorem dX0_takeNought_71 : decode cX0_takeNought 71 = .ok (.iload 5, 2) := by decide +kernel
theorem dX0_takeNought_73 : decode cX0_takeNought 73 = .ok (.aload_n 0, 1) := by decide +kernel
theorem dX0_takeNought_74 : decode cX0_takeNought 74 = .ok (.getfield 36, 3) := by decide +kernel
theorem dX0_takeNought_77 : decode cX0_takeNought 77 = .ok (.aload_n 0, 1) := by decide +kernel
theorem dX0_takeNought_78 : decode cX0_takeNought 78 = .ok (.getfield 29, 3) := by decide +kernel
theorem dX0_takeNought_81 : decode cX0_takeNought 81 = .ok (.iload 5, 2) := by decide +kernel
theorem dX0_takeNought_83 : decode cX0_takeNought 83 = .ok (.iaload, 1) := by decide +kernel
theorem dX0_takeNought_84 : decode cX0_takeNought 84 = .ok (.i2l, 1) := by decide +kernel
theorem dX0_takeNought_85 : decode cX0_takeNought 85 = .ok (.iload 4, 2) := by decide +kernel
theorem dX0_takeNought_87 : decode cX0_takeNought 87 = .ok (.i2l, 1) := by decide +kernel
theorem dX0_takeNought_88 : decode cX0_takeNought 88 = .ok (.lmul, 1) := by decide +kernel
theorem dX0_takeNought_89 : decode cX0_takeNought 89 = .ok (.invokevirtual 169, 3) := by decide +kernel
theorem dX0_takeNought_92 : decode cX0_takeNought 92 = .ok (.iastore, 1) := by decide +kernel
theorem dX0_takeNought_93 : decode cX0_takeNought 93 = .ok (.iinc 5 1, 3) := by decide +kernel
theorem dX0_takeNought_96 : decode cX0_takeNought 96 = .ok (.goto (-35), 3) := by decide +kernel
theorem dX0_takeNought_99 : decode cX0_takeNought 99 = .ok (.aload_n 0, 1) := by decide +kernel
theorem dX0_takeNought_100 : decode cX0_takeNought 100 = .ok (.getfield 29, 3) := by decide +kernel
theorem dX0_takeNought_103 : decode cX0_takeNought 103 = .ok (.iconst 0, 1) := by decide +kernel
theorem dX0_takeNought_104 : decode cX0_takeNought 104 = .ok (.aload_n 0, 1) := by decide +kernel
theorem dX0_takeNought_105 : decode cX0_takeNought 105 = .ok (.getfield 10, 3) := by decide +kernel
theorem dX0_takeNought_108 : decode cX0_takeNought 108 = .ok (.aload_n 0, 1) := by decide +kernel
theorem dX0_takeNought_109 : decode cX0_takeNought 109 = .ok (.getfield 36, 3) := by decide +kernel
theorem dX0_takeNought_112 : decode cX0_takeNought 112 = .ok (.iload_n 1, 1) := by decide +kernel
theorem dX0_takeNought_113 : decode cX0_takeNought 113 = .ok (.iload_n 3, 1) := by decide +kernel
theorem dX0_takeNought_114 : decode cX0_takeNought 114 = .ok (.invokevirtual 106, 3) := by decide +kernel
theorem dX0_takeNought_117 : decode cX0_takeNought 117 = .ok (.iload_n 3, 1) := by decide +kernel
theorem dX0_takeNought_118 : decode cX0_takeNought 118 = .ok (.iconst 1, 1) := by decide +kernel
theorem dX0_takeNought_119 : decode cX0_takeNought 119 = .ok (.iadd, 1) := by decide +kernel
theorem dX0_takeNought_120 : decode cX0_takeNought 120 = .ok (.invokestatic 139, 3) := by decide +kernel
theorem dX0_takeNought_123 : decode cX0_takeNought 123 = .ok (.aload_n 0, 1) := by decide +kernel
theorem dX0_takeNought_124 : decode cX0_takeNought 124 = .ok (.getfield 16, 3) := by decide +kernel
theorem dX0_takeNought_127 : decode cX0_takeNought 127 = .ok (.aload_n 0, 1) := by decide +kernel
theorem dX0_takeNought_128 : decode cX0_takeNought 128 = .ok (.getfield 36, 3) := by decide +kernel
theorem dX0_takeNought_131 : decode cX0_takeNought 131 = .ok (.iload_n 1, 1) := by decide +kernel
theorem dX0_takeNought_132 : decode cX0_takeNought 132 = .ok (.iload_n 3, 1) := by decide +kernel
theorem dX0_takeNought_133 : decode cX0_takeNought 133 = .ok (.invokevirtual 54, 3) := by decide +kernel
theorem dX0_takeNought_136 : decode cX0_takeNought 136 = .ok (.iconst 1, 1) := by decide +kernel
theorem dX0_takeNought_137 : decode cX0_takeNought 137 = .ok (.bastore, 1) := by decide +kernel
theorem dX0_takeNought_138 : decode cX0_takeNought 138 = .ok (.iload_n 3, 1) := by decide +kernel
theorem dX0_takeNought_139 : decode cX0_takeNought 139 = .ok (.iconst 1, 1) := by decide +kernel
theorem dX0_takeNought_140 : decode cX0_takeNought 140 = .ok (.iadd, 1) := by decide +kernel
theorem dX0_takeNought_141 : decode cX0_takeNought 141 = .ok (.istore 5, 2) := by decide +kernel
theorem dX0_takeNought_143 : decode cX0_takeNought 143 = .ok (.iload 5, 2) := by decide +kernel
theorem dX0_takeNought_145 : decode cX0_takeNought 145 = .ok (.iload_n 2, 1) := by decide +kernel
theorem dX0_takeNought_146 : decode cX0_takeNought 146 = .ok (.if_icmp .ge 17, 3) := by decide +kernel
theorem dX0_takeNought_149 : decode cX0_takeNought 149 = .ok (.aload_n 0, 1) := by decide +kernel
theorem dX0_takeNought_150 : decode cX0_takeNought 150 = .ok (.iload_n 1, 1) := by decide +kernel
theorem dX0_takeNought_151 : decode cX0_takeNought 151 = .ok (.iload 5, 2) := by decide +kernel
theorem dX0_takeNought_153 : decode cX0_takeNought 153 = .ok (.iload_n 3, 1) := by decide +kernel
theorem dX0_takeNought_154 : decode cX0_takeNought 154 = .ok (.invokevirtual 173, 3) := by decide +kernel
theorem dX0_takeNought_157 : decode cX0_takeNought 157 = .ok (.iinc 5 1, 3) := by decide +kernel
theorem dX0_takeNought_160 : decode cX0_takeNought 160 = .ok (.goto (-17), 3) := by decide +kernel
theorem dX0_takeNought_163 : decode cX0_takeNought 163 = .ok (.return_, 1) := by decide +kernel
theorem dX0_termsInForm_0 : decode cX0_termsInForm 0 = .ok (.aload_n 0, 1) := by decide +kernel
theorem dX0_termsInForm_1 : decode cX0_termsInForm 1 = .ok (.iload_n 1, 1) := by decide +kernel
theorem dX0_termsInForm_2 : decode cX0_termsInForm 2 = .ok (.invokevirtual 50, 3) := by decide +kernel
theorem dX0_termsInForm_5 : decode cX0_termsInForm 5 = .ok (.iconst 0, 1) := by decide +kernel
theorem dX0_termsInForm_6 : decode cX0_termsInForm 6 = .ok (.istore_n 3, 1) := by decide +kernel
theorem dX0_termsInForm_7 : decode cX0_termsInForm 7 = .ok (.iconst 0, 1) := by decide +kernel
theorem dX0_termsInForm_8 : decode cX0_termsInForm 8 = .ok (.istore 4, 2) := by decide +kernel
theorem dX0_termsInForm_10 : decode cX0_termsInForm 10 = .ok (.iload 4, 2) := by decide +kernel
theorem dX0_termsInForm_12 : decode cX0_termsInForm 12 = .ok (.iload_n 2, 1) := by decide +kernel
theorem dX0_termsInForm_13 : decode cX0_termsInForm 13 = .ok (.if_icmp .gt 23, 3) := by decide +kernel
theorem dX0_termsInForm_16 : decode cX0_termsInForm 16 = .ok (.aload_n 0, 1) := by decide +kernel
theorem dX0_termsInForm_17 : decode cX0_termsInForm 17 = .ok (.iload_n 1, 1) := by decide +kernel
theorem dX0_termsInForm_18 : decode cX0_termsInForm 18 = .ok (.iload 4, 2) := by decide +kernel
theorem dX0_termsInForm_20 : decode cX0_termsInForm 20 = .ok (.iload_n 2, 1) := by decide +kernel
theorem dX0_termsInForm_21 : decode cX0_termsInForm 21 = .ok (.invokevirtual 67, 3) := by decide +kernel
theorem dX0_termsInForm_24 : decode cX0_termsInForm 24 = .ok (.ifCond .eq 6, 3) := by decide +kernel
theorem dX0_termsInForm_27 : decode cX0_termsInForm 27 = .ok (.iinc 3 1, 3) := by decide +kernel
theorem dX0_termsInForm_30 : decode cX0_termsInForm 30 = .ok (.iinc 4 1, 3) := by decide +kernel
theorem dX0_termsInForm_33 : decode cX0_termsInForm 33 = .ok (.goto (-23), 3) := by decide +kernel
theorem dX0_termsInForm_36 : decode cX0_termsInForm 36 = .ok (.iload_n 3, 1) := by decide +kernel
theorem dX0_termsInForm_37 : decode cX0_termsInForm 37 = .ok (.ireturn, 1) := by decide +kernel
theorem dX1_ahead_0 : decode cX1_ahead 0 = .ok (.iload_n 1, 1) := by decide +kernel
theorem dX1_ahead_1 : decode cX1_ahead 1 = .ok (.aload_n 0, 1) := by decide +kernel
theorem dX1_ahead_2 : decode cX1_ahead 2 = .ok (.getfield 9, 3) := by decide +kernel
theorem dX1_ahead_5 : decode cX1_ahead 5 = .ok (.iload_n 2, 1) := by decide +kernel
theorem dX1_ahead_6 : decode cX1_ahead 6 = .ok (.iaload, 1) := by decide +kernel
theorem dX1_ahead_7 : decode cX1_ahead 7 = .ok (.imul, 1) := by decide +kernel
theorem dX1_ahead_8 : decode cX1_ahead 8 = .ok (.iload_n 3, 1) := by decide +kernel
theorem dX1_ahead_9 : decode cX1_ahead 9 = .ok (.iadd, 1) := by decide +kernel
theorem dX1_ahead_10 : decode cX1_ahead 10 = .ok (.ireturn, 1) := by decide +kernel
theorem dX1_behind_0 : decode cX1_behind 0 = .ok (.iload_n 1, 1) := by decide +kernel
theorem dX1_behind_1 : decode cX1_behind 1 = .ok (.aload_n 0, 1) := by decide +kernel
theorem dX1_behind_2 : decode cX1_behind 2 = .ok (.getfield 25, 3) := by decide +kernel
theorem dX1_behind_5 : decode cX1_behind 5 = .ok (.imul, 1) := by decide +kernel
theorem dX1_behind_6 : decode cX1_behind 6 = .ok (.iload_n 2, 1) := by decide +kernel
theorem dX1_behind_7 : decode cX1_behind 7 = .ok (.iadd, 1) := by decide +kernel
theorem dX1_behind_8 : decode cX1_behind 8 = .ok (.ireturn, 1) := by decide +kernel
theorem dX1_choose_0 : decode cX1_choose 0 = .ok (.aload_n 0, 1) := by decide +kernel
theorem dX1_choose_1 : decode cX1_choose 1 = .ok (.iload_n 1, 1) := by decide +kernel
theorem dX1_choose_2 : decode cX1_choose 2 = .ok (.putfield 25, 3) := by decide +kernel
theorem dX1_choose_5 : decode cX1_choose 5 = .ok (.aload_n 0, 1) := by decide +kernel
theorem dX1_choose_6 : decode cX1_choose 6 = .ok (.iload_n 2, 1) := by decide +kernel
theorem dX1_choose_7 : decode cX1_choose 7 = .ok (.putfield 29, 3) := by decide +kernel
theorem dX1_choose_10 : decode cX1_choose 10 = .ok (.aload_n 0, 1) := by decide +kernel
theorem dX1_choose_11 : decode cX1_choose 11 = .ok (.getstatic 32, 3) := by decide +kernel
theorem dX1_choose_14 : decode cX1_choose 14 = .ok (.iload_n 1, 1) := by decide +kernel
theorem dX1_choose_15 : decode cX1_choose 15 = .ok (.iaload, 1) := by decide +kernel
theorem dX1_choose_16 : decode cX1_choose 16 = .ok (.putfield 35, 3) := by decide +kernel
theorem dX1_choose_19 : decode cX1_choose 19 = .ok (.iconst 1, 1) := by decide +kernel
theorem dX1_choose_20 : decode cX1_choose 20 = .ok (.istore_n 3, 1) := by decide +kernel
theorem dX1_choose_21 : decode cX1_choose 21 = .ok (.iconst 0, 1) := by decide +kernel
theorem dX1_choose_22 : decode cX1_choose 22 = .ok (.istore 4, 2) := by decide +kernel
theorem dX1_choose_24 : decode cX1_choose 24 = .ok (.iconst 0, 1) := by decide +kernel
theorem dX1_choose_25 : decode cX1_choose 25 = .ok (.istore 5, 2) := by decide +kernel
theorem dX1_choose_27 : decode cX1_choose 27 = .ok (.iconst 0, 1) := by decide +kernel
theorem dX1_choose_28 : decode cX1_choose 28 = .ok (.istore 6, 2) := by decide +kernel
theorem dX1_choose_30 : decode cX1_choose 30 = .ok (.iload 6, 2) := by decide +kernel
theorem dX1_choose_32 : decode cX1_choose 32 = .ok (.aload_n 0, 1) := by decide +kernel
theorem dX1_choose_33 : decode cX1_choose 33 = .ok (.getfield 35, 3) := by decide +kernel
theorem dX1_choose_36 : decode cX1_choose 36 = .ok (.if_icmp .gt 57, 3) := by decide +kernel
theorem dX1_choose_39 : decode cX1_choose 39 = .ok (.aload_n 0, 1) := by decide +kernel
theorem dX1_choose_40 : decode cX1_choose 40 = .ok (.getfield 9, 3) := by decide +kernel
theorem dX1_choose_43 : decode cX1_choose 43 = .ok (.iload 6, 2) := by decide +kernel
