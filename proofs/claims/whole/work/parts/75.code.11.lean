theorem dX10_reader_0 : decode cX10_reader 0 = .ok (.iload_n 1, 1) := by decide +kernel
theorem dX10_reader_1 : decode cX10_reader 1 = .ok (.invokestatic 64, 3) := by decide +kernel
theorem dX10_reader_4 : decode cX10_reader 4 = .ok (.ifCond .ne 5, 3) := by decide +kernel
theorem dX10_reader_7 : decode cX10_reader 7 = .ok (.iconst (-1), 1) := by decide +kernel
theorem dX10_reader_8 : decode cX10_reader 8 = .ok (.ireturn, 1) := by decide +kernel
theorem dX10_reader_9 : decode cX10_reader 9 = .ok (.aload_n 0, 1) := by decide +kernel
theorem dX10_reader_10 : decode cX10_reader 10 = .ok (.getfield 10, 3) := by decide +kernel
theorem dX10_reader_13 : decode cX10_reader 13 = .ok (.sipush 278, 3) := by decide +kernel
theorem dX10_reader_16 : decode cX10_reader 16 = .ok (.iload_n 1, 1) := by decide +kernel
theorem dX10_reader_17 : decode cX10_reader 17 = .ok (.iadd, 1) := by decide +kernel
theorem dX10_reader_18 : decode cX10_reader 18 = .ok (.iaload, 1) := by decide +kernel
theorem dX10_reader_19 : decode cX10_reader 19 = .ok (.iconst 1, 1) := by decide +kernel
theorem dX10_reader_20 : decode cX10_reader 20 = .ok (.if_icmp .ne 7, 3) := by decide +kernel
theorem dX10_reader_23 : decode cX10_reader 23 = .ok (.iconst 1, 1) := by decide +kernel
theorem dX10_reader_24 : decode cX10_reader 24 = .ok (.goto 4, 3) := by decide +kernel
theorem dX10_reader_27 : decode cX10_reader 27 = .ok (.iconst 0, 1) := by decide +kernel
theorem dX10_reader_28 : decode cX10_reader 28 = .ok (.istore_n 3, 1) := by decide +kernel
theorem dX10_reader_29 : decode cX10_reader 29 = .ok (.iload_n 2, 1) := by decide +kernel
theorem dX10_reader_30 : decode cX10_reader 30 = .ok (.tableswitch 407 0 20 #[98, 109, 120, 131, 142, 153, 164, 175, 186, 197, 216, 222, 241, 252, 263, 274, 285, 296, 307, 318, 365], 98) := by decide +kernel
theorem dX10_reader_128 : decode cX10_reader 128 = .ok (.aload_n 0, 1) := by decide +kernel
theorem dX10_reader_129 : decode cX10_reader 129 = .ok (.getfield 10, 3) := by decide +kernel
theorem dX10_reader_132 : decode cX10_reader 132 = .ok (.sipush 262, 3) := by decide +kernel
theorem dX10_reader_135 : decode cX10_reader 135 = .ok (.iload_n 1, 1) := by decide +kernel
theorem dX10_reader_136 : decode cX10_reader 136 = .ok (.iadd, 1) := by decide +kernel
theorem dX10_reader_137 : decode cX10_reader 137 = .ok (.iaload, 1) := by decide +kernel
theorem dX10_reader_138 : decode cX10_reader 138 = .ok (.ireturn, 1) := by decide +kernel
theorem dX10_reader_139 : decode cX10_reader 139 = .ok (.aload_n 0, 1) := by decide +kernel
theorem dX10_reader_140 : decode cX10_reader 140 = .ok (.getfield 10, 3) := by decide +kernel
theorem dX10_reader_143 : decode cX10_reader 143 = .ok (.sipush 278, 3) := by decide +kernel
theorem dX10_reader_146 : decode cX10_reader 146 = .ok (.iload_n 1, 1) := by decide +kernel
theorem dX10_reader_147 : decode cX10_reader 147 = .ok (.iadd, 1) := by decide +kernel
theorem dX10_reader_148 : decode cX10_reader 148 = .ok (.iaload, 1) := by decide +kernel
theorem dX10_reader_149 : decode cX10_reader 149 = .ok (.ireturn, 1) := by decide +kernel
theorem dX10_reader_150 : decode cX10_reader 150 = .ok (.aload_n 0, 1) := by decide +kernel
theorem dX10_reader_151 : decode cX10_reader 151 = .ok (.getfield 10, 3) := by decide +kernel
theorem dX10_reader_154 : decode cX10_reader 154 = .ok (.sipush 266, 3) := by decide +kernel
theorem dX10_reader_157 : decode cX10_reader 157 = .ok (.iload_n 1, 1) := by decide +kernel
theorem dX10_reader_158 : decode cX10_reader 158 = .ok (.iadd, 1) := by decide +kernel
theorem dX10_reader_159 : decode cX10_reader 159 = .ok (.iaload, 1) := by decide +kernel
theorem dX10_reader_160 : decode cX10_reader 160 = .ok (.ireturn, 1) := by decide +kernel
theorem dX10_reader_161 : decode cX10_reader 161 = .ok (.aload_n 0, 1) := by decide +kernel
theorem dX10_reader_162 : decode cX10_reader 162 = .ok (.getfield 10, 3) := by decide +kernel
theorem dX10_reader_165 : decode cX10_reader 165 = .ok (.sipush 270, 3) := by decide +kernel
theorem dX10_reader_168 : decode cX10_reader 168 = .ok (.iload_n 1, 1) := by decide +kernel
theorem dX10_reader_169 : decode cX10_reader 169 = .ok (.iadd, 1) := by decide +kernel
theorem dX10_reader_170 : decode cX10_reader 170 = .ok (.iaload, 1) := by decide +kernel
theorem dX10_reader_171 : decode cX10_reader 171 = .ok (.ireturn, 1) := by decide +kernel
theorem dX10_reader_172 : decode cX10_reader 172 = .ok (.aload_n 0, 1) := by decide +kernel
theorem dX10_reader_173 : decode cX10_reader 173 = .ok (.getfield 10, 3) := by decide +kernel
theorem dX10_reader_176 : decode cX10_reader 176 = .ok (.sipush 282, 3) := by decide +kernel
theorem dX10_reader_179 : decode cX10_reader 179 = .ok (.iload_n 1, 1) := by decide +kernel
theorem dX10_reader_180 : decode cX10_reader 180 = .ok (.iadd, 1) := by decide +kernel
theorem dX10_reader_181 : decode cX10_reader 181 = .ok (.iaload, 1) := by decide +kernel
theorem dX10_reader_182 : decode cX10_reader 182 = .ok (.ireturn, 1) := by decide +kernel
theorem dX10_reader_183 : decode cX10_reader 183 = .ok (.aload_n 0, 1) := by decide +kernel
theorem dX10_reader_184 : decode cX10_reader 184 = .ok (.getfield 10, 3) := by decide +kernel
theorem dX10_reader_187 : decode cX10_reader 187 = .ok (.sipush 286, 3) := by decide +kernel
theorem dX10_reader_190 : decode cX10_reader 190 = .ok (.iload_n 1, 1) := by decide +kernel
theorem dX10_reader_191 : decode cX10_reader 191 = .ok (.iadd, 1) := by decide +kernel
theorem dX10_reader_192 : decode cX10_reader 192 = .ok (.iaload, 1) := by decide +kernel
theorem dX10_reader_193 : decode cX10_reader 193 = .ok (.ireturn, 1) := by decide +kernel
theorem dX10_reader_194 : decode cX10_reader 194 = .ok (.aload_n 0, 1) := by decide +kernel
theorem dX10_reader_195 : decode cX10_reader 195 = .ok (.getfield 10, 3) := by decide +kernel
theorem dX10_reader_198 : decode cX10_reader 198 = .ok (.sipush 290, 3) := by decide +kernel
theorem dX10_reader_201 : decode cX10_reader 201 = .ok (.iload_n 1, 1) := by decide +kernel
theorem dX10_reader_202 : decode cX10_reader 202 = .ok (.iadd, 1) := by decide +kernel
theorem dX10_reader_203 : decode cX10_reader 203 = .ok (.iaload, 1) := by decide +kernel
theorem dX10_reader_204 : decode cX10_reader 204 = .ok (.ireturn, 1) := by decide +kernel
theorem dX10_reader_205 : decode cX10_reader 205 = .ok (.aload_n 0, 1) := by decide +kernel
theorem dX10_reader_206 : decode cX10_reader 206 = .ok (.getfield 10, 3) := by decide +kernel
theorem dX10_reader_209 : decode cX10_reader 209 = .ok (.sipush 294, 3) := by decide +kernel
theorem dX10_reader_212 : decode cX10_reader 212 = .ok (.iload_n 1, 1) := by decide +kernel
theorem dX10_reader_213 : decode cX10_reader 213 = .ok (.iadd, 1) := by decide +kernel
theorem dX10_reader_214 : decode cX10_reader 214 = .ok (.iaload, 1) := by decide +kernel
theorem dX10_reader_215 : decode cX10_reader 215 = .ok (.ireturn, 1) := by decide +kernel
theorem dX10_reader_216 : decode cX10_reader 216 = .ok (.aload_n 0, 1) := by decide +kernel
theorem dX10_reader_217 : decode cX10_reader 217 = .ok (.getfield 10, 3) := by decide +kernel
theorem dX10_reader_220 : decode cX10_reader 220 = .ok (.sipush 298, 3) := by decide +kernel
theorem dX10_reader_223 : decode cX10_reader 223 = .ok (.iload_n 1, 1) := by decide +kernel
theorem dX10_reader_224 : decode cX10_reader 224 = .ok (.iadd, 1) := by decide +kernel
theorem dX10_reader_225 : decode cX10_reader 225 = .ok (.iaload, 1) := by decide +kernel
theorem dX10_reader_226 : decode cX10_reader 226 = .ok (.ireturn, 1) := by decide +kernel
theorem dX10_reader_227 : decode cX10_reader 227 = .ok (.iload_n 3, 1) := by decide +kernel
theorem dX10_reader_228 : decode cX10_reader 228 = .ok (.ifCond .eq 16, 3) := by decide +kernel
theorem dX10_reader_231 : decode cX10_reader 231 = .ok (.aload_n 0, 1) := by decide +kernel
theorem dX10_reader_232 : decode cX10_reader 232 = .ok (.getfield 10, 3) := by decide +kernel
theorem dX10_reader_235 : decode cX10_reader 235 = .ok (.sipush 302, 3) := by decide +kernel
theorem dX10_reader_238 : decode cX10_reader 238 = .ok (.iload_n 1, 1) := by decide +kernel
theorem dX10_reader_239 : decode cX10_reader 239 = .ok (.iadd, 1) := by decide +kernel
theorem dX10_reader_240 : decode cX10_reader 240 = .ok (.iaload, 1) := by decide +kernel
theorem dX10_reader_241 : decode cX10_reader 241 = .ok (.goto 4, 3) := by decide +kernel
theorem dX10_reader_244 : decode cX10_reader 244 = .ok (.iconst 0, 1) := by decide +kernel
theorem dX10_reader_245 : decode cX10_reader 245 = .ok (.ireturn, 1) := by decide +kernel
theorem dX10_reader_246 : decode cX10_reader 246 = .ok (.aload_n 0, 1) := by decide +kernel
theorem dX10_reader_247 : decode cX10_reader 247 = .ok (.iload_n 1, 1) := by decide +kernel
theorem dX10_reader_248 : decode cX10_reader 248 = .ok (.invokevirtual 139, 3) := by decide +kernel
theorem dX10_reader_251 : decode cX10_reader 251 = .ok (.ireturn, 1) := by decide +kernel
theorem dX10_reader_252 : decode cX10_reader 252 = .ok (.iload_n 3, 1) := by decide +kernel
theorem dX10_reader_253 : decode cX10_reader 253 = .ok (.ifCond .eq 16, 3) := by decide +kernel
theorem dX10_reader_256 : decode cX10_reader 256 = .ok (.aload_n 0, 1) := by decide +kernel
theorem dX10_reader_257 : decode cX10_reader 257 = .ok (.getfield 10, 3) := by decide +kernel
theorem dX10_reader_260 : decode cX10_reader 260 = .ok (.sipush 326, 3) := by decide +kernel
theorem dX10_reader_263 : decode cX10_reader 263 = .ok (.iload_n 1, 1) := by decide +kernel
theorem dX10_reader_264 : decode cX10_reader 264 = .ok (.iadd, 1) := by decide +kernel
theorem dX10_reader_265 : decode cX10_reader 265 = .ok (.iaload, 1) := by decide +kernel
theorem dX10_reader_266 : decode cX10_reader 266 = .ok (.goto 4, 3) := by decide +kernel
theorem dX10_reader_269 : decode cX10_reader 269 = .ok (.iconst 0, 1) := by decide +kernel
theorem dX10_reader_270 : decode cX10_reader 270 = .ok (.ireturn, 1) := by decide +kernel
theorem dX10_reader_271 : decode cX10_reader 271 = .ok (.aload_n 0, 1) := by decide +kernel
theorem dX10_reader_272 : decode cX10_reader 272 = .ok (.getfield 10, 3) := by decide +kernel
theorem dX10_reader_275 : decode cX10_reader 275 = .ok (.sipush 306, 3) := by decide +kernel
theorem dX10_reader_278 : decode cX10_reader 278 = .ok (.iload_n 1, 1) := by decide +kernel
theorem dX10_reader_279 : decode cX10_reader 279 = .ok (.iadd, 1) := by decide +kernel
theorem dX10_reader_280 : decode cX10_reader 280 = .ok (.iaload, 1) := by decide +kernel
theorem dX10_reader_281 : decode cX10_reader 281 = .ok (.ireturn, 1) := by decide +kernel
theorem dX10_reader_282 : decode cX10_reader 282 = .ok (.aload_n 0, 1) := by decide +kernel
theorem dX10_reader_283 : decode cX10_reader 283 = .ok (.getfield 10, 3) := by decide +kernel
theorem dX10_reader_286 : decode cX10_reader 286 = .ok (.sipush 310, 3) := by decide +kernel
theorem dX10_reader_289 : decode cX10_reader 289 = .ok (.iload_n 1, 1) := by decide +kernel
theorem dX10_reader_290 : decode cX10_reader 290 = .ok (.iadd, 1) := by decide +kernel
theorem dX10_reader_291 : decode cX10_reader 291 = .ok (.iaload, 1) := by decide +kernel
theorem dX10_reader_292 : decode cX10_reader 292 = .ok (.ireturn, 1) := by decide +kernel
theorem dX10_reader_293 : decode cX10_reader 293 = .ok (.aload_n 0, 1) := by decide +kernel
theorem dX10_reader_294 : decode cX10_reader 294 = .ok (.getfield 10, 3) := by decide +kernel
theorem dX10_reader_297 : decode cX10_reader 297 = .ok (.sipush 314, 3) := by decide +kernel
theorem dX10_reader_300 : decode cX10_reader 300 = .ok (.iload_n 1, 1) := by decide +kernel
theorem dX10_reader_301 : decode cX10_reader 301 = .ok (.iadd, 1) := by decide +kernel
theorem dX10_reader_302 : decode cX10_reader 302 = .ok (.iaload, 1) := by decide +kernel
theorem dX10_reader_303 : decode cX10_reader 303 = .ok (.ireturn, 1) := by decide +kernel
theorem dX10_reader_304 : decode cX10_reader 304 = .ok (.aload_n 0, 1) := by decide +kernel
theorem dX10_reader_305 : decode cX10_reader 305 = .ok (.getfield 10, 3) := by decide +kernel
theorem dX10_reader_308 : decode cX10_reader 308 = .ok (.sipush 318, 3) := by decide +kernel
theorem dX10_reader_311 : decode cX10_reader 311 = .ok (.iload_n 1, 1) := by decide +kernel
theorem dX10_reader_312 : decode cX10_reader 312 = .ok (.iadd, 1) := by decide +kernel
theorem dX10_reader_313 : decode cX10_reader 313 = .ok (.iaload, 1) := by decide +kernel
theorem dX10_reader_314 : decode cX10_reader 314 = .ok (.ireturn, 1) := by decide +kernel
theorem dX10_reader_315 : decode cX10_reader 315 = .ok (.aload_n 0, 1) := by decide +kernel
theorem dX10_reader_316 : decode cX10_reader 316 = .ok (.getfield 10, 3) := by decide +kernel
theorem dX10_reader_319 : decode cX10_reader 319 = .ok (.sipush 322, 3) := by decide +kernel
theorem dX10_reader_322 : decode cX10_reader 322 = .ok (.iload_n 1, 1) := by decide +kernel
theorem dX10_reader_323 : decode cX10_reader 323 = .ok (.iadd, 1) := by decide +kernel
theorem dX10_reader_324 : decode cX10_reader 324 = .ok (.iaload, 1) := by decide +kernel
theorem dX10_reader_325 : decode cX10_reader 325 = .ok (.ireturn, 1) := by decide +kernel
theorem dX10_reader_326 : decode cX10_reader 326 = .ok (.aload_n 0, 1) := by decide +kernel
theorem dX10_reader_327 : decode cX10_reader 327 = .ok (.getfield 10, 3) := by decide +kernel
theorem dX10_reader_330 : decode cX10_reader 330 = .ok (.sipush 274, 3) := by decide +kernel
theorem dX10_reader_333 : decode cX10_reader 333 = .ok (.iload_n 1, 1) := by decide +kernel
theorem dX10_reader_334 : decode cX10_reader 334 = .ok (.iadd, 1) := by decide +kernel
theorem dX10_reader_335 : decode cX10_reader 335 = .ok (.iaload, 1) := by decide +kernel
theorem dX10_reader_336 : decode cX10_reader 336 = .ok (.ireturn, 1) := by decide +kernel
theorem dX10_reader_337 : decode cX10_reader 337 = .ok (.aload_n 0, 1) := by decide +kernel
theorem dX10_reader_338 : decode cX10_reader 338 = .ok (.getfield 10, 3) := by decide +kernel
theorem dX10_reader_341 : decode cX10_reader 341 = .ok (.sipush 330, 3) := by decide +kernel
theorem dX10_reader_344 : decode cX10_reader 344 = .ok (.iload_n 1, 1) := by decide +kernel
theorem dX10_reader_345 : decode cX10_reader 345 = .ok (.iadd, 1) := by decide +kernel
theorem dX10_reader_346 : decode cX10_reader 346 = .ok (.iaload, 1) := by decide +kernel
theorem dX10_reader_347 : decode cX10_reader 347 = .ok (.ireturn, 1) := by decide +kernel
theorem dX10_reader_348 : decode cX10_reader 348 = .ok (.aload_n 0, 1) := by decide +kernel
theorem dX10_reader_349 : decode cX10_reader 349 = .ok (.getfield 10, 3) := by decide +kernel
theorem dX10_reader_352 : decode cX10_reader 352 = .ok (.sipush 306, 3) := by decide +kernel
theorem dX10_reader_355 : decode cX10_reader 355 = .ok (.iload_n 1, 1) := by decide +kernel
theorem dX10_reader_356 : decode cX10_reader 356 = .ok (.iadd, 1) := by decide +kernel
theorem dX10_reader_357 : decode cX10_reader 357 = .ok (.iaload, 1) := by decide +kernel
theorem dX10_reader_358 : decode cX10_reader 358 = .ok (.ifCond .ne 7, 3) := by decide +kernel
theorem dX10_reader_361 : decode cX10_reader 361 = .ok (.iconst 0, 1) := by decide +kernel
theorem dX10_reader_362 : decode cX10_reader 362 = .ok (.goto 32, 3) := by decide +kernel
theorem dX10_reader_365 : decode cX10_reader 365 = .ok (.aload_n 0, 1) := by decide +kernel
theorem dX10_reader_366 : decode cX10_reader 366 = .ok (.getfield 10, 3) := by decide +kernel
theorem dX10_reader_369 : decode cX10_reader 369 = .ok (.sipush 306, 3) := by decide +kernel
theorem dX10_reader_372 : decode cX10_reader 372 = .ok (.iload_n 1, 1) := by decide +kernel
theorem dX10_reader_373 : decode cX10_reader 373 = .ok (.iadd, 1) := by decide +kernel
theorem dX10_reader_374 : decode cX10_reader 374 = .ok (.iaload, 1) := by decide +kernel
theorem dX10_reader_375 : decode cX10_reader 375 = .ok (.aload_n 0, 1) := by decide +kernel
theorem dX10_reader_376 : decode cX10_reader 376 = .ok (.getfield 10, 3) := by decide +kernel
theorem dX10_reader_379 : decode cX10_reader 379 = .ok (.sipush 306, 3) := by decide +kernel
theorem dX10_reader_382 : decode cX10_reader 382 = .ok (.iload_n 1, 1) := by decide +kernel
theorem dX10_reader_383 : decode cX10_reader 383 = .ok (.iadd, 1) := by decide +kernel
theorem dX10_reader_384 : decode cX10_reader 384 = .ok (.iaload, 1) := by decide +kernel
theorem dX10_reader_385 : decode cX10_reader 385 = .ok (.aload_n 0, 1) := by decide +kernel
theorem dX10_reader_386 : decode cX10_reader 386 = .ok (.iload_n 1, 1) := by decide +kernel
theorem dX10_reader_387 : decode cX10_reader 387 = .ok (.invokevirtual 200, 3) := by decide +kernel
theorem dX10_reader_390 : decode cX10_reader 390 = .ok (.invokestatic 197, 3) := by decide +kernel
theorem dX10_reader_393 : decode cX10_reader 393 = .ok (.idiv, 1) := by decide +kernel
theorem dX10_reader_394 : decode cX10_reader 394 = .ok (.ireturn, 1) := by decide +kernel
theorem dX10_reader_395 : decode cX10_reader 395 = .ok (.aload_n 0, 1) := by decide +kernel
theorem dX10_reader_396 : decode cX10_reader 396 = .ok (.getfield 10, 3) := by decide +kernel
theorem dX10_reader_399 : decode cX10_reader 399 = .ok (.sipush 306, 3) := by decide +kernel
theorem dX10_reader_402 : decode cX10_reader 402 = .ok (.iload_n 1, 1) := by decide +kernel
theorem dX10_reader_403 : decode cX10_reader 403 = .ok (.iadd, 1) := by decide +kernel
theorem dX10_reader_404 : decode cX10_reader 404 = .ok (.iaload, 1) := by decide +kernel
theorem dX10_reader_405 : decode cX10_reader 405 = .ok (.ifCond .ne 7, 3) := by decide +kernel
theorem dX10_reader_408 : decode cX10_reader 408 = .ok (.iconst 1, 1) := by decide +kernel
theorem dX10_reader_409 : decode cX10_reader 409 = .ok (.goto 27, 3) := by decide +kernel
theorem dX10_reader_412 : decode cX10_reader 412 = .ok (.aload_n 0, 1) := by decide +kernel
theorem dX10_reader_413 : decode cX10_reader 413 = .ok (.iload_n 1, 1) := by decide +kernel
theorem dX10_reader_414 : decode cX10_reader 414 = .ok (.invokevirtual 200, 3) := by decide +kernel
theorem dX10_reader_417 : decode cX10_reader 417 = .ok (.aload_n 0, 1) := by decide +kernel
theorem dX10_reader_418 : decode cX10_reader 418 = .ok (.getfield 10, 3) := by decide +kernel
theorem dX10_reader_421 : decode cX10_reader 421 = .ok (.sipush 306, 3) := by decide +kernel
theorem dX10_reader_424 : decode cX10_reader 424 = .ok (.iload_n 1, 1) := by decide +kernel
theorem dX10_reader_425 : decode cX10_reader 425 = .ok (.iadd, 1) := by decide +kernel
theorem dX10_reader_426 : decode cX10_reader 426 = .ok (.iaload, 1) := by decide +kernel
theorem dX10_reader_427 : decode cX10_reader 427 = .ok (.aload_n 0, 1) := by decide +kernel
theorem dX10_reader_428 : decode cX10_reader 428 = .ok (.iload_n 1, 1) := by decide +kernel
theorem dX10_reader_429 : decode cX10_reader 429 = .ok (.invokevirtual 200, 3) := by decide +kernel
theorem dX10_reader_432 : decode cX10_reader 432 = .ok (.invokestatic 197, 3) := by decide +kernel
theorem dX10_reader_435 : decode cX10_reader 435 = .ok (.idiv, 1) := by decide +kernel
theorem dX10_reader_436 : decode cX10_reader 436 = .ok (.ireturn, 1) := by decide +kernel
theorem dX10_reader_437 : decode cX10_reader 437 = .ok (.iconst (-1), 1) := by decide +kernel
theorem dX10_reader_438 : decode cX10_reader 438 = .ok (.ireturn, 1) := by decide +kernel
set_option maxRecDepth 20000 in
theorem zl_X10_reader_5 : z_All z_tab cX10_reader 4 (some .int) RX10 pc_X10_reader 200 (k_X10_reader.drop 200) := z_cons (ok_iadd dX10_reader_425 rfl rfl) <| z_cons (ok_iald dX10_reader_426 rfl rfl) <| z_cons (ok_aload_n dX10_reader_427 rfl rfl) <| z_cons (ok_iload_n dX10_reader_428 rfl rfl) <| z_cons (ok_callv ⟨by decide, by decide, by decide⟩ (ci := 8) (C := RX10) (T := TX10) rfl go_11 (k := 225) (n := 1) qw_813 qw_618 ⟨by decide +kernel, by decide +kernel, by decide +kernel⟩ (Nat.le_of_ble_eq_true rfl) qw_814 qw_815 qw_816 dX10_reader_429 rfl rfl) <| z_cons (ok_callS (k := 224) (n := 2) qw_810 qw_618 ⟨by decide +kernel, by decide +kernel, by decide +kernel⟩ (Nat.le_of_ble_eq_true rfl) qw_812 qw_811 dX10_reader_432 rfl rfl) <| z_cons (ok_idiv dX10_reader_435 rfl rfl) <| z_cons (ok_iret rfl dX10_reader_436 rfl) <| z_cons (ok_iconst (by decide) dX10_reader_437 rfl rfl) <| z_cons (ok_iret rfl dX10_reader_438 rfl) <| z_nil
set_option maxRecDepth 20000 in
theorem zl_X10_reader_4 : z_All z_tab cX10_reader 4 (some .int) RX10 pc_X10_reader 160 (k_X10_reader.drop 160) := z_cons (ok_iload_n dX10_reader_355 rfl rfl) <| z_cons (ok_iadd dX10_reader_356 rfl rfl) <| z_cons (ok_iald dX10_reader_357 rfl rfl) <| z_cons (ok_if_ne (tgt := 365) (by decide) rfl dX10_reader_358 rfl rfl) <| z_cons (ok_iconst (by decide) dX10_reader_361 rfl rfl) <| z_cons (ok_goto (tgt := 394) (by decide) rfl dX10_reader_362 rfl) <| z_cons (ok_aload_n dX10_reader_365 rfl rfl) <| z_cons (ok_getr (k := 0) ⟨by decide, by decide, by decide⟩ (ci := 8) (T := TX10) rfl rfl (Nat.le_of_ble_eq_true rfl) iw_X10 qw_616 gr_11_0 (fun _ _ => by simp) (fun w i => List.mem_of_getElem? (i := 0) rfl) dX10_reader_366 rfl rfl) <| z_cons (ok_sipush (by decide) dX10_reader_369 rfl rfl) <| z_cons (ok_iload_n dX10_reader_372 rfl rfl) <| z_cons (ok_iadd dX10_reader_373 rfl rfl) <| z_cons (ok_iald dX10_reader_374 rfl rfl) <| z_cons (ok_aload_n dX10_reader_375 rfl rfl) <| z_cons (ok_getr (k := 0) ⟨by decide, by decide, by decide⟩ (ci := 8) (T := TX10) rfl rfl (Nat.le_of_ble_eq_true rfl) iw_X10 qw_616 gr_11_0 (fun _ _ => by simp) (fun w i => List.mem_of_getElem? (i := 0) rfl) dX10_reader_376 rfl rfl) <| z_cons (ok_sipush (by decide) dX10_reader_379 rfl rfl) <| z_cons (ok_iload_n dX10_reader_382 rfl rfl) <| z_cons (ok_iadd dX10_reader_383 rfl rfl) <| z_cons (ok_iald dX10_reader_384 rfl rfl) <| z_cons (ok_aload_n dX10_reader_385 rfl rfl) <| z_cons (ok_iload_n dX10_reader_386 rfl rfl) <| z_cons (ok_callv ⟨by decide, by decide, by decide⟩ (ci := 8) (C := RX10) (T := TX10) rfl go_11 (k := 225) (n := 1) qw_813 qw_618 ⟨by decide +kernel, by decide +kernel, by decide +kernel⟩ (Nat.le_of_ble_eq_true rfl) qw_814 qw_815 qw_816 dX10_reader_387 rfl rfl) <| z_cons (ok_callS (k := 224) (n := 2) qw_810 qw_618 ⟨by decide +kernel, by decide +kernel, by decide +kernel⟩ (Nat.le_of_ble_eq_true rfl) qw_812 qw_811 dX10_reader_390 rfl rfl) <| z_cons (ok_idiv dX10_reader_393 rfl rfl) <| z_cons (ok_iret rfl dX10_reader_394 rfl) <| z_cons (ok_aload_n dX10_reader_395 rfl rfl) <| z_cons (ok_getr (k := 0) ⟨by decide, by decide, by decide⟩ (ci := 8) (T := TX10) rfl rfl (Nat.le_of_ble_eq_true rfl) iw_X10 qw_616 gr_11_0 (fun _ _ => by simp) (fun w i => List.mem_of_getElem? (i := 0) rfl) dX10_reader_396 rfl rfl) <| z_cons (ok_sipush (by decide) dX10_reader_399 rfl rfl) <| z_cons (ok_iload_n dX10_reader_402 rfl rfl) <| z_cons (ok_iadd dX10_reader_403 rfl rfl) <| z_cons (ok_iald dX10_reader_404 rfl rfl) <| z_cons (ok_if_ne (tgt := 412) (by decide) rfl dX10_reader_405 rfl rfl) <| z_cons (ok_iconst (by decide) dX10_reader_408 rfl rfl) <| z_cons (ok_goto (tgt := 436) (by decide) rfl dX10_reader_409 rfl) <| z_cons (ok_aload_n dX10_reader_412 rfl rfl) <| z_cons (ok_iload_n dX10_reader_413 rfl rfl) <| z_cons (ok_callv ⟨by decide, by decide, by decide⟩ (ci := 8) (C := RX10) (T := TX10) rfl go_11 (k := 225) (n := 1) qw_813 qw_618 ⟨by decide +kernel, by decide +kernel, by decide +kernel⟩ (Nat.le_of_ble_eq_true rfl) qw_814 qw_815 qw_816 dX10_reader_414 rfl rfl) <| z_cons (ok_aload_n dX10_reader_417 rfl rfl) <| z_cons (ok_getr (k := 0) ⟨by decide, by decide, by decide⟩ (ci := 8) (T := TX10) rfl rfl (Nat.le_of_ble_eq_true rfl) iw_X10 qw_616 gr_11_0 (fun _ _ => by simp) (fun w i => List.mem_of_getElem? (i := 0) rfl) dX10_reader_418 rfl rfl) <| z_cons (ok_sipush (by decide) dX10_reader_421 rfl rfl) <| z_cons (ok_iload_n dX10_reader_424 rfl rfl) <| zl_X10_reader_5
set_option maxRecDepth 20000 in
theorem zl_X10_reader_3 : z_All z_tab cX10_reader 4 (some .int) RX10 pc_X10_reader 120 (k_X10_reader.drop 120) := z_cons (ok_iald dX10_reader_291 rfl rfl) <| z_cons (ok_iret rfl dX10_reader_292 rfl) <| z_cons (ok_aload_n dX10_reader_293 rfl rfl) <| z_cons (ok_getr (k := 0) ⟨by decide, by decide, by decide⟩ (ci := 8) (T := TX10) rfl rfl (Nat.le_of_ble_eq_true rfl) iw_X10 qw_616 gr_11_0 (fun _ _ => by simp) (fun w i => List.mem_of_getElem? (i := 0) rfl) dX10_reader_294 rfl rfl) <| z_cons (ok_sipush (by decide) dX10_reader_297 rfl rfl) <| z_cons (ok_iload_n dX10_reader_300 rfl rfl) <| z_cons (ok_iadd dX10_reader_301 rfl rfl) <| z_cons (ok_iald dX10_reader_302 rfl rfl) <| z_cons (ok_iret rfl dX10_reader_303 rfl) <| z_cons (ok_aload_n dX10_reader_304 rfl rfl) <| z_cons (ok_getr (k := 0) ⟨by decide, by decide, by decide⟩ (ci := 8) (T := TX10) rfl rfl (Nat.le_of_ble_eq_true rfl) iw_X10 qw_616 gr_11_0 (fun _ _ => by simp) (fun w i => List.mem_of_getElem? (i := 0) rfl) dX10_reader_305 rfl rfl) <| z_cons (ok_sipush (by decide) dX10_reader_308 rfl rfl) <| z_cons (ok_iload_n dX10_reader_311 rfl rfl) <| z_cons (ok_iadd dX10_reader_312 rfl rfl) <| z_cons (ok_iald dX10_reader_313 rfl rfl) <| z_cons (ok_iret rfl dX10_reader_314 rfl) <| z_cons (ok_aload_n dX10_reader_315 rfl rfl) <| z_cons (ok_getr (k := 0) ⟨by decide, by decide, by decide⟩ (ci := 8) (T := TX10) rfl rfl (Nat.le_of_ble_eq_true rfl) iw_X10 qw_616 gr_11_0 (fun _ _ => by simp) (fun w i => List.mem_of_getElem? (i := 0) rfl) dX10_reader_316 rfl rfl) <| z_cons (ok_sipush (by decide) dX10_reader_319 rfl rfl) <| z_cons (ok_iload_n dX10_reader_322 rfl rfl) <| z_cons (ok_iadd dX10_reader_323 rfl rfl) <| z_cons (ok_iald dX10_reader_324 rfl rfl) <| z_cons (ok_iret rfl dX10_reader_325 rfl) <| z_cons (ok_aload_n dX10_reader_326 rfl rfl) <| z_cons (ok_getr (k := 0) ⟨by decide, by decide, by decide⟩ (ci := 8) (T := TX10) rfl rfl (Nat.le_of_ble_eq_true rfl) iw_X10 qw_616 gr_11_0 (fun _ _ => by simp) (fun w i => List.mem_of_getElem? (i := 0) rfl) dX10_reader_327 rfl rfl) <| z_cons (ok_sipush (by decide) dX10_reader_330 rfl rfl) <| z_cons (ok_iload_n dX10_reader_333 rfl rfl) <| z_cons (ok_iadd dX10_reader_334 rfl rfl) <| z_cons (ok_iald dX10_reader_335 rfl rfl) <| z_cons (ok_iret rfl dX10_reader_336 rfl) <| z_cons (ok_aload_n dX10_reader_337 rfl rfl) <| z_cons (ok_getr (k := 0) ⟨by decide, by decide, by decide⟩ (ci := 8) (T := TX10) rfl rfl (Nat.le_of_ble_eq_true rfl) iw_X10 qw_616 gr_11_0 (fun _ _ => by simp) (fun w i => List.mem_of_getElem? (i := 0) rfl) dX10_reader_338 rfl rfl) <| z_cons (ok_sipush (by decide) dX10_reader_341 rfl rfl) <| z_cons (ok_iload_n dX10_reader_344 rfl rfl) <| z_cons (ok_iadd dX10_reader_345 rfl rfl) <| z_cons (ok_iald dX10_reader_346 rfl rfl) <| z_cons (ok_iret rfl dX10_reader_347 rfl) <| z_cons (ok_aload_n dX10_reader_348 rfl rfl) <| z_cons (ok_getr (k := 0) ⟨by decide, by decide, by decide⟩ (ci := 8) (T := TX10) rfl rfl (Nat.le_of_ble_eq_true rfl) iw_X10 qw_616 gr_11_0 (fun _ _ => by simp) (fun w i => List.mem_of_getElem? (i := 0) rfl) dX10_reader_349 rfl rfl) <| z_cons (ok_sipush (by decide) dX10_reader_352 rfl rfl) <| zl_X10_reader_4
set_option maxRecDepth 20000 in
theorem zl_X10_reader_2 : z_All z_tab cX10_reader 4 (some .int) RX10 pc_X10_reader 80 (k_X10_reader.drop 80) := z_cons (ok_iald dX10_reader_225 rfl rfl) <| z_cons (ok_iret rfl dX10_reader_226 rfl) <| z_cons (ok_iload_n dX10_reader_227 rfl rfl) <| z_cons (ok_if_eq (tgt := 244) (by decide) rfl dX10_reader_228 rfl rfl) <| z_cons (ok_aload_n dX10_reader_231 rfl rfl) <| z_cons (ok_getr (k := 0) ⟨by decide, by decide, by decide⟩ (ci := 8) (T := TX10) rfl rfl (Nat.le_of_ble_eq_true rfl) iw_X10 qw_616 gr_11_0 (fun _ _ => by simp) (fun w i => List.mem_of_getElem? (i := 0) rfl) dX10_reader_232 rfl rfl) <| z_cons (ok_sipush (by decide) dX10_reader_235 rfl rfl) <| z_cons (ok_iload_n dX10_reader_238 rfl rfl) <| z_cons (ok_iadd dX10_reader_239 rfl rfl) <| z_cons (ok_iald dX10_reader_240 rfl rfl) <| z_cons (ok_goto (tgt := 245) (by decide) rfl dX10_reader_241 rfl) <| z_cons (ok_iconst (by decide) dX10_reader_244 rfl rfl) <| z_cons (ok_iret rfl dX10_reader_245 rfl) <| z_cons (ok_aload_n dX10_reader_246 rfl rfl) <| z_cons (ok_iload_n dX10_reader_247 rfl rfl) <| z_cons (ok_callv ⟨by decide, by decide, by decide⟩ (ci := 8) (C := RX10) (T := TX10) rfl go_11 (k := 187) (n := 1) qw_741 qw_618 ⟨by decide +kernel, by decide +kernel, by decide +kernel⟩ (Nat.le_of_ble_eq_true rfl) qw_742 qw_743 qw_744 dX10_reader_248 rfl rfl) <| z_cons (ok_iret rfl dX10_reader_251 rfl) <| z_cons (ok_iload_n dX10_reader_252 rfl rfl) <| z_cons (ok_if_eq (tgt := 269) (by decide) rfl dX10_reader_253 rfl rfl) <| z_cons (ok_aload_n dX10_reader_256 rfl rfl) <| z_cons (ok_getr (k := 0) ⟨by decide, by decide, by decide⟩ (ci := 8) (T := TX10) rfl rfl (Nat.le_of_ble_eq_true rfl) iw_X10 qw_616 gr_11_0 (fun _ _ => by simp) (fun w i => List.mem_of_getElem? (i := 0) rfl) dX10_reader_257 rfl rfl) <| z_cons (ok_sipush (by decide) dX10_reader_260 rfl rfl) <| z_cons (ok_iload_n dX10_reader_263 rfl rfl) <| z_cons (ok_iadd dX10_reader_264 rfl rfl) <| z_cons (ok_iald dX10_reader_265 rfl rfl) <| z_cons (ok_goto (tgt := 270) (by decide) rfl dX10_reader_266 rfl) <| z_cons (ok_iconst (by decide) dX10_reader_269 rfl rfl) <| z_cons (ok_iret rfl dX10_reader_270 rfl) <| z_cons (ok_aload_n dX10_reader_271 rfl rfl) <| z_cons (ok_getr (k := 0) ⟨by decide, by decide, by decide⟩ (ci := 8) (T := TX10) rfl rfl (Nat.le_of_ble_eq_true rfl) iw_X10 qw_616 gr_11_0 (fun _ _ => by simp) (fun w i => List.mem_of_getElem? (i := 0) rfl) dX10_reader_272 rfl rfl) <| z_cons (ok_sipush (by decide) dX10_reader_275 rfl rfl) <| z_cons (ok_iload_n dX10_reader_278 rfl rfl) <| z_cons (ok_iadd dX10_reader_279 rfl rfl) <| z_cons (ok_iald dX10_reader_280 rfl rfl) <| z_cons (ok_iret rfl dX10_reader_281 rfl) <| z_cons (ok_aload_n dX10_reader_282 rfl rfl) <| z_cons (ok_getr (k := 0) ⟨by decide, by decide, by decide⟩ (ci := 8) (T := TX10) rfl rfl (Nat.le_of_ble_eq_true rfl) iw_X10 qw_616 gr_11_0 (fun _ _ => by simp) (fun w i => List.mem_of_getElem? (i := 0) rfl) dX10_reader_283 rfl rfl) <| z_cons (ok_sipush (by decide) dX10_reader_286 rfl rfl) <| z_cons (ok_iload_n dX10_reader_289 rfl rfl) <| z_cons (ok_iadd dX10_reader_290 rfl rfl) <| zl_X10_reader_3
set_option maxRecDepth 20000 in
theorem zl_X10_reader_1 : z_All z_tab cX10_reader 4 (some .int) RX10 pc_X10_reader 40 (k_X10_reader.drop 40) := z_cons (ok_aload_n dX10_reader_161 rfl rfl) <| z_cons (ok_getr (k := 0) ⟨by decide, by decide, by decide⟩ (ci := 8) (T := TX10) rfl rfl (Nat.le_of_ble_eq_true rfl) iw_X10 qw_616 gr_11_0 (fun _ _ => by simp) (fun w i => List.mem_of_getElem? (i := 0) rfl) dX10_reader_162 rfl rfl) <| z_cons (ok_sipush (by decide) dX10_reader_165 rfl rfl) <| z_cons (ok_iload_n dX10_reader_168 rfl rfl) <| z_cons (ok_iadd dX10_reader_169 rfl rfl) <| z_cons (ok_iald dX10_reader_170 rfl rfl) <| z_cons (ok_iret rfl dX10_reader_171 rfl) <| z_cons (ok_aload_n dX10_reader_172 rfl rfl) <| z_cons (ok_getr (k := 0) ⟨by decide, by decide, by decide⟩ (ci := 8) (T := TX10) rfl rfl (Nat.le_of_ble_eq_true rfl) iw_X10 qw_616 gr_11_0 (fun _ _ => by simp) (fun w i => List.mem_of_getElem? (i := 0) rfl) dX10_reader_173 rfl rfl) <| z_cons (ok_sipush (by decide) dX10_reader_176 rfl rfl) <| z_cons (ok_iload_n dX10_reader_179 rfl rfl) <| z_cons (ok_iadd dX10_reader_180 rfl rfl) <| z_cons (ok_iald dX10_reader_181 rfl rfl) <| z_cons (ok_iret rfl dX10_reader_182 rfl) <| z_cons (ok_aload_n dX10_reader_183 rfl rfl) <| z_cons (ok_getr (k := 0) ⟨by decide, by decide, by decide⟩ (ci := 8) (T := TX10) rfl rfl (Nat.le_of_ble_eq_true rfl) iw_X10 qw_616 gr_11_0 (fun _ _ => by simp) (fun w i => List.mem_of_getElem? (i := 0) rfl) dX10_reader_184 rfl rfl) <| z_cons (ok_sipush (by decide) dX10_reader_187 rfl rfl) <| z_cons (ok_iload_n dX10_reader_190 rfl rfl) <| z_cons (ok_iadd dX10_reader_191 rfl rfl) <| z_cons (ok_iald dX10_reader_192 rfl rfl) <| z_cons (ok_iret rfl dX10_reader_193 rfl) <| z_cons (ok_aload_n dX10_reader_194 rfl rfl) <| z_cons (ok_getr (k := 0) ⟨by decide, by decide, by decide⟩ (ci := 8) (T := TX10) rfl rfl (Nat.le_of_ble_eq_true rfl) iw_X10 qw_616 gr_11_0 (fun _ _ => by simp) (fun w i => List.mem_of_getElem? (i := 0) rfl) dX10_reader_195 rfl rfl) <| z_cons (ok_sipush (by decide) dX10_reader_198 rfl rfl) <| z_cons (ok_iload_n dX10_reader_201 rfl rfl) <| z_cons (ok_iadd dX10_reader_202 rfl rfl) <| z_cons (ok_iald dX10_reader_203 rfl rfl) <| z_cons (ok_iret rfl dX10_reader_204 rfl) <| z_cons (ok_aload_n dX10_reader_205 rfl rfl) <| z_cons (ok_getr (k := 0) ⟨by decide, by decide, by decide⟩ (ci := 8) (T := TX10) rfl rfl (Nat.le_of_ble_eq_true rfl) iw_X10 qw_616 gr_11_0 (fun _ _ => by simp) (fun w i => List.mem_of_getElem? (i := 0) rfl) dX10_reader_206 rfl rfl) <| z_cons (ok_sipush (by decide) dX10_reader_209 rfl rfl) <| z_cons (ok_iload_n dX10_reader_212 rfl rfl) <| z_cons (ok_iadd dX10_reader_213 rfl rfl) <| z_cons (ok_iald dX10_reader_214 rfl rfl) <| z_cons (ok_iret rfl dX10_reader_215 rfl) <| z_cons (ok_aload_n dX10_reader_216 rfl rfl) <| z_cons (ok_getr (k := 0) ⟨by decide, by decide, by decide⟩ (ci := 8) (T := TX10) rfl rfl (Nat.le_of_ble_eq_true rfl) iw_X10 qw_616 gr_11_0 (fun _ _ => by simp) (fun w i => List.mem_of_getElem? (i := 0) rfl) dX10_reader_217 rfl rfl) <| z_cons (ok_sipush (by decide) dX10_reader_220 rfl rfl) <| z_cons (ok_iload_n dX10_reader_223 rfl rfl) <| z_cons (ok_iadd dX10_reader_224 rfl rfl) <| zl_X10_reader_2
set_option maxRecDepth 20000 in
theorem zl_X10_reader_0 : z_All z_tab cX10_reader 4 (some .int) RX10 pc_X10_reader 0 (k_X10_reader.drop 0) := z_cons (ok_iload_n dX10_reader_0 rfl rfl) <| z_cons (ok_callS (k := 166) (n := 1) qw_650 qw_618 ⟨by decide +kernel, by decide +kernel, by decide +kernel⟩ (Nat.le_of_ble_eq_true rfl) qw_652 qw_651 dX10_reader_1 rfl rfl) <| z_cons (ok_if_ne (tgt := 9) (by decide) rfl dX10_reader_4 rfl rfl) <| z_cons (ok_iconst (by decide) dX10_reader_7 rfl rfl) <| z_cons (ok_iret rfl dX10_reader_8 rfl) <| z_cons (ok_aload_n dX10_reader_9 rfl rfl) <| z_cons (ok_getr (k := 0) ⟨by decide, by decide, by decide⟩ (ci := 8) (T := TX10) rfl rfl (Nat.le_of_ble_eq_true rfl) iw_X10 qw_616 gr_11_0 (fun _ _ => by simp) (fun w i => List.mem_of_getElem? (i := 0) rfl) dX10_reader_10 rfl rfl) <| z_cons (ok_sipush (by decide) dX10_reader_13 rfl rfl) <| z_cons (ok_iload_n dX10_reader_16 rfl rfl) <| z_cons (ok_iadd dX10_reader_17 rfl rfl) <| z_cons (ok_iald dX10_reader_18 rfl rfl) <| z_cons (ok_iconst (by decide) dX10_reader_19 rfl rfl) <| z_cons (ok_icmp_ne (tgt := 27) (by decide) rfl dX10_reader_20 rfl rfl) <| z_cons (ok_iconst (by decide) dX10_reader_23 rfl rfl) <| z_cons (ok_goto (tgt := 28) (by decide) rfl dX10_reader_24 rfl) <| z_cons (ok_iconst (by decide) dX10_reader_27 rfl rfl) <| z_cons (ok_istore_n (Nat.le_of_ble_eq_true rfl) dX10_reader_28 rfl rfl) <| z_cons (ok_iload_n dX10_reader_29 rfl rfl) <| z_cons (ok_tsw (lo := 0) dX10_reader_30 rfl (Nat.le_of_ble_eq_true rfl) (by decide) (by decide +kernel) (by decide)) <| z_cons (ok_aload_n dX10_reader_128 rfl rfl) <| z_cons (ok_getr (k := 0) ⟨by decide, by decide, by decide⟩ (ci := 8) (T := TX10) rfl rfl (Nat.le_of_ble_eq_true rfl) iw_X10 qw_616 gr_11_0 (fun _ _ => by simp) (fun w i => List.mem_of_getElem? (i := 0) rfl) dX10_reader_129 rfl rfl) <| z_cons (ok_sipush (by decide) dX10_reader_132 rfl rfl) <| z_cons (ok_iload_n dX10_reader_135 rfl rfl) <| z_cons (ok_iadd dX10_reader_136 rfl rfl) <| z_cons (ok_iald dX10_reader_137 rfl rfl) <| z_cons (ok_iret rfl dX10_reader_138 rfl) <| z_cons (ok_aload_n dX10_reader_139 rfl rfl) <| z_cons (ok_getr (k := 0) ⟨by decide, by decide, by decide⟩ (ci := 8) (T := TX10) rfl rfl (Nat.le_of_ble_eq_true rfl) iw_X10 qw_616 gr_11_0 (fun _ _ => by simp) (fun w i => List.mem_of_getElem? (i := 0) rfl) dX10_reader_140 rfl rfl) <| z_cons (ok_sipush (by decide) dX10_reader_143 rfl rfl) <| z_cons (ok_iload_n dX10_reader_146 rfl rfl) <| z_cons (ok_iadd dX10_reader_147 rfl rfl) <| z_cons (ok_iald dX10_reader_148 rfl rfl) <| z_cons (ok_iret rfl dX10_reader_149 rfl) <| z_cons (ok_aload_n dX10_reader_150 rfl rfl) <| z_cons (ok_getr (k := 0) ⟨by decide, by decide, by decide⟩ (ci := 8) (T := TX10) rfl rfl (Nat.le_of_ble_eq_true rfl) iw_X10 qw_616 gr_11_0 (fun _ _ => by simp) (fun w i => List.mem_of_getElem? (i := 0) rfl) dX10_reader_151 rfl rfl) <| z_cons (ok_sipush (by decide) dX10_reader_154 rfl rfl) <| z_cons (ok_iload_n dX10_reader_157 rfl rfl) <| z_cons (ok_iadd dX10_reader_158 rfl rfl) <| z_cons (ok_iald dX10_reader_159 rfl rfl) <| z_cons (ok_iret rfl dX10_reader_160 rfl) <| zl_X10_reader_1
theorem dX10_prefix_0 : decode cX10_prefix 0 = .ok (.iload_n 1, 1) := by decide +kernel
theorem dX10_prefix_1 : decode cX10_prefix 1 = .ok (.invokestatic 64, 3) := by decide +kernel
theorem dX10_prefix_4 : decode cX10_prefix 4 = .ok (.ifCond .eq 36, 3) := by decide +kernel
theorem dX10_prefix_7 : decode cX10_prefix 7 = .ok (.aload_n 0, 1) := by decide +kernel
theorem dX10_prefix_8 : decode cX10_prefix 8 = .ok (.getfield 10, 3) := by decide +kernel
theorem dX10_prefix_11 : decode cX10_prefix 11 = .ok (.sipush 278, 3) := by decide +kernel
theorem dX10_prefix_14 : decode cX10_prefix 14 = .ok (.iload_n 1, 1) := by decide +kernel
theorem dX10_prefix_15 : decode cX10_prefix 15 = .ok (.iadd, 1) := by decide +kernel
theorem dX10_prefix_16 : decode cX10_prefix 16 = .ok (.iaload, 1) := by decide +kernel
theorem dX10_prefix_17 : decode cX10_prefix 17 = .ok (.ifCond .eq 23, 3) := by decide +kernel
theorem dX10_prefix_20 : decode cX10_prefix 20 = .ok (.iload_n 2, 1) := by decide +kernel
theorem dX10_prefix_21 : decode cX10_prefix 21 = .ok (.iconst 0, 1) := by decide +kernel
theorem dX10_prefix_22 : decode cX10_prefix 22 = .ok (.aload_n 0, 1) := by decide +kernel
theorem dX10_prefix_23 : decode cX10_prefix 23 = .ok (.getfield 10, 3) := by decide +kernel
theorem dX10_prefix_26 : decode cX10_prefix 26 = .ok (.sipush 326, 3) := by decide +kernel
theorem dX10_prefix_29 : decode cX10_prefix 29 = .ok (.iload_n 1, 1) := by decide +kernel
theorem dX10_prefix_30 : decode cX10_prefix 30 = .ok (.iadd, 1) := by decide +kernel
theorem dX10_prefix_31 : decode cX10_prefix 31 = .ok (.iaload, 1) := by decide +kernel
theorem dX10_prefix_32 : decode cX10_prefix 32 = .ok (.iconst 1, 1) := by decide +kernel
theorem dX10_prefix_33 : decode cX10_prefix 33 = .ok (.isub, 1) := by decide +kernel
theorem dX10_prefix_34 : decode cX10_prefix 34 = .ok (.invokestatic 32, 3) := by decide +kernel
theorem dX10_prefix_37 : decode cX10_prefix 37 = .ok (.ifCond .ne 5, 3) := by decide +kernel
theorem dX10_prefix_40 : decode cX10_prefix 40 = .ok (.iconst (-1), 1) := by decide +kernel
theorem dX10_prefix_41 : decode cX10_prefix 41 = .ok (.ireturn, 1) := by decide +kernel
theorem dX10_prefix_42 : decode cX10_prefix 42 = .ok (.iload_n 3, 1) := by decide +kernel
theorem dX10_prefix_43 : decode cX10_prefix 43 = .ok (.iconst 0, 1) := by decide +kernel
theorem dX10_prefix_44 : decode cX10_prefix 44 = .ok (.iconst 1, 1) := by decide +kernel
theorem dX10_prefix_45 : decode cX10_prefix 45 = .ok (.invokestatic 32, 3) := by decide +kernel
theorem dX10_prefix_48 : decode cX10_prefix 48 = .ok (.ifCond .eq 21, 3) := by decide +kernel
theorem dX10_prefix_51 : decode cX10_prefix 51 = .ok (.aload_n 0, 1) := by decide +kernel
theorem dX10_prefix_52 : decode cX10_prefix 52 = .ok (.getfield 10, 3) := by decide +kernel
theorem dX10_prefix_55 : decode cX10_prefix 55 = .ok (.sipush 814, 3) := by decide +kernel
theorem dX10_prefix_58 : decode cX10_prefix 58 = .ok (.iload_n 1, 1) := by decide +kernel
theorem dX10_prefix_59 : decode cX10_prefix 59 = .ok (.iload_n 2, 1) := by decide +kernel
theorem dX10_prefix_60 : decode cX10_prefix 60 = .ok (.invokestatic 136, 3) := by decide +kernel
theorem dX10_prefix_63 : decode cX10_prefix 63 = .ok (.iload_n 3, 1) := by decide +kernel
theorem dX10_prefix_64 : decode cX10_prefix 64 = .ok (.iadd, 1) := by decide +kernel
theorem dX10_prefix_65 : decode cX10_prefix 65 = .ok (.iaload, 1) := by decide +kernel
theorem dX10_prefix_66 : decode cX10_prefix 66 = .ok (.goto 4, 3) := by decide +kernel
theorem dX10_prefix_69 : decode cX10_prefix 69 = .ok (.iconst (-1), 1) := by decide +kernel
theorem dX10_prefix_70 : decode cX10_prefix 70 = .ok (.ireturn, 1) := by decide +kernel
set_option maxRecDepth 20000 in
theorem zl_X10_prefix_1 : z_All z_tab cX10_prefix 4 (some .int) RX10 pc_X10_prefix 40 (k_X10_prefix.drop 40) := z_cons (ok_iret rfl dX10_prefix_70 rfl) <| z_nil
set_option maxRecDepth 20000 in
theorem zl_X10_prefix_0 : z_All z_tab cX10_prefix 4 (some .int) RX10 pc_X10_prefix 0 (k_X10_prefix.drop 0) := z_cons (ok_iload_n dX10_prefix_0 rfl rfl) <| z_cons (ok_callS (k := 166) (n := 1) qw_650 qw_618 ⟨by decide +kernel, by decide +kernel, by decide +kernel⟩ (Nat.le_of_ble_eq_true rfl) qw_652 qw_651 dX10_prefix_1 rfl rfl) <| z_cons (ok_if_eq (tgt := 40) (by decide) rfl dX10_prefix_4 rfl rfl) <| z_cons (ok_aload_n dX10_prefix_7 rfl rfl) <| z_cons (ok_getr (k := 0) ⟨by decide, by decide, by decide⟩ (ci := 8) (T := TX10) rfl rfl (Nat.le_of_ble_eq_true rfl) iw_X10 qw_616 gr_11_0 (fun _ _ => by simp) (fun w i => List.mem_of_getElem? (i := 0) rfl) dX10_prefix_8 rfl rfl) <| z_cons (ok_sipush (by decide) dX10_prefix_11 rfl rfl) <| z_cons (ok_iload_n dX10_prefix_14 rfl rfl) <| z_cons (ok_iadd dX10_prefix_15 rfl rfl) <| z_cons (ok_iald dX10_prefix_16 rfl rfl) <| z_cons (ok_if_eq (tgt := 40) (by decide) rfl dX10_prefix_17 rfl rfl) <| z_cons (ok_iload_n dX10_prefix_20 rfl rfl) <| z_cons (ok_iconst (by decide) dX10_prefix_21 rfl rfl) <| z_cons (ok_aload_n dX10_prefix_22 rfl rfl) <| z_cons (ok_getr (k := 0) ⟨by decide, by decide, by decide⟩ (ci := 8) (T := TX10) rfl rfl (Nat.le_of_ble_eq_true rfl) iw_X10 qw_616 gr_11_0 (fun _ _ => by simp) (fun w i => List.mem_of_getElem? (i := 0) rfl) dX10_prefix_23 rfl rfl) <| z_cons (ok_sipush (by decide) dX10_prefix_26 rfl rfl) <| z_cons (ok_iload_n dX10_prefix_29 rfl rfl) <| z_cons (ok_iadd dX10_prefix_30 rfl rfl) <| z_cons (ok_iald dX10_prefix_31 rfl rfl) <| z_cons (ok_iconst (by decide) dX10_prefix_32 rfl rfl) <| z_cons (ok_isub dX10_prefix_33 rfl rfl) <| z_cons (ok_callS (k := 162) (n := 3) qw_617 qw_618 ⟨by decide +kernel, by decide +kernel, by decide +kernel⟩ (Nat.le_of_ble_eq_true rfl) qw_620 qw_619 dX10_prefix_34 rfl rfl) <| z_cons (ok_if_ne (tgt := 42) (by decide) rfl dX10_prefix_37 rfl rfl) <| z_cons (ok_iconst (by decide) dX10_prefix_40 rfl rfl) <| z_cons (ok_iret rfl dX10_prefix_41 rfl) <| z_cons (ok_iload_n dX10_prefix_42 rfl rfl) <| z_cons (ok_iconst (by decide) dX10_prefix_43 rfl rfl) <| z_cons (ok_iconst (by decide) dX10_prefix_44 rfl rfl) <| z_cons (ok_callS (k := 162) (n := 3) qw_617 qw_618 ⟨by decide +kernel, by decide +kernel, by decide +kernel⟩ (Nat.le_of_ble_eq_true rfl) qw_620 qw_619 dX10_prefix_45 rfl rfl) <| z_cons (ok_if_eq (tgt := 69) (by decide) rfl dX10_prefix_48 rfl rfl) <| z_cons (ok_aload_n dX10_prefix_51 rfl rfl) <| z_cons (ok_getr (k := 0) ⟨by decide, by decide, by decide⟩ (ci := 8) (T := TX10) rfl rfl (Nat.le_of_ble_eq_true rfl) iw_X10 qw_616 gr_11_0 (fun _ _ => by simp) (fun w i => List.mem_of_getElem? (i := 0) rfl) dX10_prefix_52 rfl rfl) <| z_cons (ok_sipush (by decide) dX10_prefix_55 rfl rfl) <| z_cons (ok_iload_n dX10_prefix_58 rfl rfl) <| z_cons (ok_iload_n dX10_prefix_59 rfl rfl) <| z_cons (ok_callS (k := 207) (n := 3) qw_738 qw_618 ⟨by decide +kernel, by decide +kernel, by decide +kernel⟩ (Nat.le_of_ble_eq_true rfl) qw_740 qw_739 dX10_prefix_60 rfl rfl) <| z_cons (ok_iload_n dX10_prefix_63 rfl rfl) <| z_cons (ok_iadd dX10_prefix_64 rfl rfl) <| z_cons (ok_iald dX10_prefix_65 rfl rfl) <| z_cons (ok_goto (tgt := 70) (by decide) rfl dX10_prefix_66 rfl) <| z_cons (ok_iconst (by decide) dX10_prefix_69 rfl rfl) <| zl_X10_prefix_1
theorem dX10_learnt_0 : decode cX10_learnt 0 = .ok (.iload_n 1, 1) := by decide +kernel
theorem dX10_learnt_1 : decode cX10_learnt 1 = .ok (.invokestatic 64, 3) := by decide +kernel
theorem dX10_learnt_4 : decode cX10_learnt 4 = .ok (.ifCond .eq 50, 3) := by decide +kernel
theorem dX10_learnt_7 : decode cX10_learnt 7 = .ok (.iload_n 2, 1) := by decide +kernel
theorem dX10_learnt_8 : decode cX10_learnt 8 = .ok (.iconst 0, 1) := by decide +kernel
theorem dX10_learnt_9 : decode cX10_learnt 9 = .ok (.aload_n 0, 1) := by decide +kernel
theorem dX10_learnt_10 : decode cX10_learnt 10 = .ok (.getfield 10, 3) := by decide +kernel
theorem dX10_learnt_13 : decode cX10_learnt 13 = .ok (.sipush 330, 3) := by decide +kernel
theorem dX10_learnt_16 : decode cX10_learnt 16 = .ok (.iload_n 1, 1) := by decide +kernel
theorem dX10_learnt_17 : decode cX10_learnt 17 = .ok (.iadd, 1) := by decide +kernel
theorem dX10_learnt_18 : decode cX10_learnt 18 = .ok (.iaload, 1) := by decide +kernel
theorem dX10_learnt_19 : decode cX10_learnt 19 = .ok (.iconst 1, 1) := by decide +kernel
theorem dX10_learnt_20 : decode cX10_learnt 20 = .ok (.isub, 1) := by decide +kernel
theorem dX10_learnt_21 : decode cX10_learnt 21 = .ok (.invokestatic 32, 3) := by decide +kernel
theorem dX10_learnt_24 : decode cX10_learnt 24 = .ok (.ifCond .eq 30, 3) := by decide +kernel
theorem dX10_learnt_27 : decode cX10_learnt 27 = .ok (.iload_n 3, 1) := by decide +kernel
theorem dX10_learnt_28 : decode cX10_learnt 28 = .ok (.iconst 0, 1) := by decide +kernel
theorem dX10_learnt_29 : decode cX10_learnt 29 = .ok (.iconst 2, 1) := by decide +kernel
theorem dX10_learnt_30 : decode cX10_learnt 30 = .ok (.invokestatic 32, 3) := by decide +kernel
theorem dX10_learnt_33 : decode cX10_learnt 33 = .ok (.ifCond .eq 21, 3) := by decide +kernel
theorem dX10_learnt_36 : decode cX10_learnt 36 = .ok (.aload_n 0, 1) := by decide +kernel
theorem dX10_learnt_37 : decode cX10_learnt 37 = .ok (.getfield 10, 3) := by decide +kernel
theorem dX10_learnt_40 : decode cX10_learnt 40 = .ok (.sipush 11614, 3) := by decide +kernel
theorem dX10_learnt_43 : decode cX10_learnt 43 = .ok (.iload_n 1, 1) := by decide +kernel
theorem dX10_learnt_44 : decode cX10_learnt 44 = .ok (.iload_n 2, 1) := by decide +kernel
theorem dX10_learnt_45 : decode cX10_learnt 45 = .ok (.invokestatic 136, 3) := by decide +kernel
theorem dX10_learnt_48 : decode cX10_learnt 48 = .ok (.iload_n 3, 1) := by decide +kernel
theorem dX10_learnt_49 : decode cX10_learnt 49 = .ok (.iadd, 1) := by decide +kernel
theorem dX10_learnt_50 : decode cX10_learnt 50 = .ok (.iaload, 1) := by decide +kernel
theorem dX10_learnt_51 : decode cX10_learnt 51 = .ok (.goto 4, 3) := by decide +kernel
theorem dX10_learnt_54 : decode cX10_learnt 54 = .ok (.iconst (-1), 1) := by decide +kernel
theorem dX10_learnt_55 : decode cX10_learnt 55 = .ok (.ireturn, 1) := by decide +kernel
set_option maxRecDepth 20000 in
theorem zl_X10_learnt_0 : z_All z_tab cX10_learnt 4 (some .int) RX10 pc_X10_learnt 0 (k_X10_learnt.drop 0) := z_cons (ok_iload_n dX10_learnt_0 rfl rfl) <| z_cons (ok_callS (k := 166) (n := 1) qw_650 qw_618 ⟨by decide +kernel, by decide +kernel, by decide +kernel⟩ (Nat.le_of_ble_eq_true rfl) qw_652 qw_651 dX10_learnt_1 rfl rfl) <| z_cons (ok_if_eq (tgt := 54) (by decide) rfl dX10_learnt_4 rfl rfl) <| z_cons (ok_iload_n dX10_learnt_7 rfl rfl) <| z_cons (ok_iconst (by decide) dX10_learnt_8 rfl rfl) <| z_cons (ok_aload_n dX10_learnt_9 rfl rfl) <| z_cons (ok_getr (k := 0) ⟨by decide, by decide, by decide⟩ (ci := 8) (T := TX10) rfl rfl (Nat.le_of_ble_eq_true rfl) iw_X10 qw_616 gr_11_0 (fun _ _ => by simp) (fun w i => List.mem_of_getElem? (i := 0) rfl) dX10_learnt_10 rfl rfl) <| z_cons (ok_sipush (by decide) dX10_learnt_13 rfl rfl) <| z_cons (ok_iload_n dX10_learnt_16 rfl rfl) <| z_cons (ok_iadd dX10_learnt_17 rfl rfl) <| z_cons (ok_iald dX10_learnt_18 rfl rfl) <| z_cons (ok_iconst (by decide) dX10_learnt_19 rfl rfl) <| z_cons (ok_isub dX10_learnt_20 rfl rfl) <| z_cons (ok_callS (k := 162) (n := 3) qw_617 qw_618 ⟨by decide +kernel, by decide +kernel, by decide +kernel⟩ (Nat.le_of_ble_eq_true rfl) qw_620 qw_619 dX10_learnt_21 rfl rfl) <| z_cons (ok_if_eq (tgt := 54) (by decide) rfl dX10_learnt_24 rfl rfl) <| z_cons (ok_iload_n dX10_learnt_27 rfl rfl) <| z_cons (ok_iconst (by decide) dX10_learnt_28 rfl rfl) <| z_cons (ok_iconst (by decide) dX10_learnt_29 rfl rfl) <| z_cons (ok_callS (k := 162) (n := 3) qw_617 qw_618 ⟨by decide +kernel, by decide +kernel, by decide +kernel⟩ (Nat.le_of_ble_eq_true rfl) qw_620 qw_619 dX10_learnt_30 rfl rfl) <| z_cons (ok_if_eq (tgt := 54) (by decide) rfl dX10_learnt_33 rfl rfl) <| z_cons (ok_aload_n dX10_learnt_36 rfl rfl) <| z_cons (ok_getr (k := 0) ⟨by decide, by decide, by decide⟩ (ci := 8) (T := TX10) rfl rfl (Nat.le_of_ble_eq_true rfl) iw_X10 qw_616 gr_11_0 (fun _ _ => by simp) (fun w i => List.mem_of_getElem? (i := 0) rfl) dX10_learnt_37 rfl rfl) <| z_cons (ok_sipush (by decide) dX10_learnt_40 rfl rfl) <| z_cons (ok_iload_n dX10_learnt_43 rfl rfl) <| z_cons (ok_iload_n dX10_learnt_44 rfl rfl) <| z_cons (ok_callS (k := 207) (n := 3) qw_738 qw_618 ⟨by decide +kernel, by decide +kernel, by decide +kernel⟩ (Nat.le_of_ble_eq_true rfl) qw_740 qw_739 dX10_learnt_45 rfl rfl) <| z_cons (ok_iload_n dX10_learnt_48 rfl rfl) <| z_cons (ok_iadd dX10_learnt_49 rfl rfl) <| z_cons (ok_iald dX10_learnt_50 rfl rfl) <| z_cons (ok_goto (tgt := 55) (by decide) rfl dX10_learnt_51 rfl) <| z_cons (ok_iconst (by decide) dX10_learnt_54 rfl rfl) <| z_cons (ok_iret rfl dX10_learnt_55 rfl) <| z_nil
theorem dX10_jammed_0 : decode cX10_jammed 0 = .ok (.aload_n 0, 1) := by decide +kernel
theorem dX10_jammed_1 : decode cX10_jammed 1 = .ok (.iload_n 1, 1) := by decide +kernel
theorem dX10_jammed_2 : decode cX10_jammed 2 = .ok (.invokevirtual 74, 3) := by decide +kernel
theorem dX10_jammed_5 : decode cX10_jammed 5 = .ok (.ifCond .eq 33, 3) := by decide +kernel
theorem dX10_jammed_8 : decode cX10_jammed 8 = .ok (.aload_n 0, 1) := by decide +kernel
theorem dX10_jammed_9 : decode cX10_jammed 9 = .ok (.getfield 10, 3) := by decide +kernel
theorem dX10_jammed_12 : decode cX10_jammed 12 = .ok (.sipush 550, 3) := by decide +kernel
theorem dX10_jammed_15 : decode cX10_jammed 15 = .ok (.iload_n 1, 1) := by decide +kernel
theorem dX10_jammed_16 : decode cX10_jammed 16 = .ok (.iadd, 1) := by decide +kernel
theorem dX10_jammed_17 : decode cX10_jammed 17 = .ok (.iaload, 1) := by decide +kernel
theorem dX10_jammed_18 : decode cX10_jammed 18 = .ok (.iconst (-1), 1) := by decide +kernel
theorem dX10_jammed_19 : decode cX10_jammed 19 = .ok (.if_icmp .eq 19, 3) := by decide +kernel
theorem dX10_jammed_22 : decode cX10_jammed 22 = .ok (.aload_n 0, 1) := by decide +kernel
theorem dX10_jammed_23 : decode cX10_jammed 23 = .ok (.iload_n 1, 1) := by decide +kernel
theorem dX10_jammed_24 : decode cX10_jammed 24 = .ok (.invokevirtual 182, 3) := by decide +kernel
theorem dX10_jammed_27 : decode cX10_jammed 27 = .ok (.ifCond .eq 7, 3) := by decide +kernel
theorem dX10_jammed_30 : decode cX10_jammed 30 = .ok (.iconst 1, 1) := by decide +kernel
theorem dX10_jammed_31 : decode cX10_jammed 31 = .ok (.goto 8, 3) := by decide +kernel
theorem dX10_jammed_34 : decode cX10_jammed 34 = .ok (.iconst 0, 1) := by decide +kernel
theorem dX10_jammed_35 : decode cX10_jammed 35 = .ok (.goto 4, 3) := by decide +kernel
theorem dX10_jammed_38 : decode cX10_jammed 38 = .ok (.iconst (-1), 1) := by decide +kernel
theorem dX10_jammed_39 : decode cX10_jammed 39 = .ok (.ireturn, 1) := by decide +kernel
set_option maxRecDepth 20000 in
theorem zl_X10_jammed_0 : z_All z_tab cX10_jammed 2 (some .int) RX10 pc_X10_jammed 0 (k_X10_jammed.drop 0) := z_cons (ok_aload_n dX10_jammed_0 rfl rfl) <| z_cons (ok_iload_n dX10_jammed_1 rfl rfl) <| z_cons (ok_callv ⟨by decide, by decide, by decide⟩ (ci := 8) (C := RX10) (T := TX10) rfl go_11 (k := 167) (n := 1) qw_665 qw_618 ⟨by decide +kernel, by decide +kernel, by decide +kernel⟩ (Nat.le_of_ble_eq_true rfl) qw_666 qw_667 qw_668 dX10_jammed_2 rfl rfl) <| z_cons (ok_if_eq (tgt := 38) (by decide) rfl dX10_jammed_5 rfl rfl) <| z_cons (ok_aload_n dX10_jammed_8 rfl rfl) <| z_cons (ok_getr (k := 0) ⟨by decide, by decide, by decide⟩ (ci := 8) (T := TX10) rfl rfl (Nat.le_of_ble_eq_true rfl) iw_X10 qw_616 gr_11_0 (fun _ _ => by simp) (fun w i => List.mem_of_getElem? (i := 0) rfl) dX10_jammed_9 rfl rfl) <| z_cons (ok_sipush (by decide) dX10_jammed_12 rfl rfl) <| z_cons (ok_iload_n dX10_jammed_15 rfl rfl) <| z_cons (ok_iadd dX10_jammed_16 rfl rfl) <| z_cons (ok_iald dX10_jammed_17 rfl rfl) <| z_cons (ok_iconst (by decide) dX10_jammed_18 rfl rfl) <| z_cons (ok_icmp_eq (tgt := 38) (by decide) rfl dX10_jammed_19 rfl rfl) <| z_cons (ok_aload_n dX10_jammed_22 rfl rfl) <| z_cons (ok_iload_n dX10_jammed_23 rfl rfl) <| z_cons (ok_callv ⟨by decide, by decide, by decide⟩ (ci := 8) (C := RX10) (T := TX10) rfl go_11 (k := 219) (n := 1) qw_790 qw_618 ⟨by decide +kernel, by decide +kernel, by decide +kernel⟩ (Nat.le_of_ble_eq_true rfl) qw_791 qw_792 qw_793 dX10_jammed_24 rfl rfl) <| z_cons (ok_if_eq (tgt := 34) (by decide) rfl dX10_jammed_27 rfl rfl) <| z_cons (ok_iconst (by decide) dX10_jammed_30 rfl rfl) <| z_cons (ok_goto (tgt := 39) (by decide) rfl dX10_jammed_31 rfl) <| z_cons (ok_iconst (by decide) dX10_jammed_34 rfl rfl) <| z_cons (ok_goto (tgt := 39) (by decide) rfl dX10_jammed_35 rfl) <| z_cons (ok_iconst (by decide) dX10_jammed_38 rfl rfl) <| z_cons (ok_iret rfl dX10_jammed_39 rfl) <| z_nil
theorem dX10_clash_0 : decode cX10_clash 0 = .ok (.iconst 0, 1) := by decide +kernel
theorem dX10_clash_1 : decode cX10_clash 1 = .ok (.istore_n 3, 1) := by decide +kernel
theorem dX10_clash_2 : decode cX10_clash 2 = .ok (.iload_n 3, 1) := by decide +kernel
theorem dX10_clash_3 : decode cX10_clash 3 = .ok (.bipush 24, 2) := by decide +kernel
theorem dX10_clash_5 : decode cX10_clash 5 = .ok (.if_icmp .ge 43, 3) := by decide +kernel
theorem dX10_clash_8 : decode cX10_clash 8 = .ok (.aload_n 0, 1) := by decide +kernel
theorem dX10_clash_9 : decode cX10_clash 9 = .ok (.getfield 10, 3) := by decide +kernel
theorem dX10_clash_12 : decode cX10_clash 12 = .ok (.sipush 454, 3) := by decide +kernel
theorem dX10_clash_15 : decode cX10_clash 15 = .ok (.iload_n 3, 1) := by decide +kernel
theorem dX10_clash_16 : decode cX10_clash 16 = .ok (.iadd, 1) := by decide +kernel
theorem dX10_clash_17 : decode cX10_clash 17 = .ok (.iaload, 1) := by decide +kernel
theorem dX10_clash_18 : decode cX10_clash 18 = .ok (.iconst 1, 1) := by decide +kernel
theorem dX10_clash_19 : decode cX10_clash 19 = .ok (.if_icmp .ne 23, 3) := by decide +kernel
theorem dX10_clash_22 : decode cX10_clash 22 = .ok (.aload_n 0, 1) := by decide +kernel
theorem dX10_clash_23 : decode cX10_clash 23 = .ok (.iload_n 1, 1) := by decide +kernel
theorem dX10_clash_24 : decode cX10_clash 24 = .ok (.iload_n 3, 1) := by decide +kernel
theorem dX10_clash_25 : decode cX10_clash 25 = .ok (.invokevirtual 42, 3) := by decide +kernel
theorem dX10_clash_28 : decode cX10_clash 28 = .ok (.ifCond .eq 14, 3) := by decide +kernel
theorem dX10_clash_31 : decode cX10_clash 31 = .ok (.aload_n 0, 1) := by decide +kernel
theorem dX10_clash_32 : decode cX10_clash 32 = .ok (.iload_n 2, 1) := by decide +kernel
theorem dX10_clash_33 : decode cX10_clash 33 = .ok (.iload_n 3, 1) := by decide +kernel
theorem dX10_clash_34 : decode cX10_clash 34 = .ok (.invokevirtual 42, 3) := by decide +kernel
theorem dX10_clash_37 : decode cX10_clash 37 = .ok (.ifCond .eq 5, 3) := by decide +kernel
theorem dX10_clash_40 : decode cX10_clash 40 = .ok (.iconst 1, 1) := by decide +kernel
theorem dX10_clash_41 : decode cX10_clash 41 = .ok (.ireturn, 1) := by decide +kernel
theorem dX10_clash_42 : decode cX10_clash 42 = .ok (.iinc 3 1, 3) := by decide +kernel
theorem dX10_clash_45 : decode cX10_clash 45 = .ok (.goto (-43), 3) := by decide +kernel
theorem dX10_clash_48 : decode cX10_clash 48 = .ok (.iconst 0, 1) := by decide +kernel
theorem dX10_clash_49 : decode cX10_clash 49 = .ok (.ireturn, 1) := by decide +kernel
set_option maxRecDepth 20000 in
theorem zl_X10_clash_0 : z_All z_tab cX10_clash 4 (some .boolean) RX10 pc_X10_clash 0 (k_X10_clash.drop 0) := z_cons (ok_iconst (by decide) dX10_clash_0 rfl rfl) <| z_cons (ok_istore_n (Nat.le_of_ble_eq_true rfl) dX10_clash_1 rfl rfl) <| z_cons (ok_iload_n dX10_clash_2 rfl rfl) <| z_cons (ok_bipush (by decide) dX10_clash_3 rfl rfl) <| z_cons (ok_icmp_ge (tgt := 48) (by decide) rfl dX10_clash_5 rfl rfl) <| z_cons (ok_aload_n dX10_clash_8 rfl rfl) <| z_cons (ok_getr (k := 0) ⟨by decide, by decide, by decide⟩ (ci := 8) (T := TX10) rfl rfl (Nat.le_of_ble_eq_true rfl) iw_X10 qw_616 gr_11_0 (fun _ _ => by simp) (fun w i => List.mem_of_getElem? (i := 0) rfl) dX10_clash_9 rfl rfl) <| z_cons (ok_sipush (by decide) dX10_clash_12 rfl rfl) <| z_cons (ok_iload_n dX10_clash_15 rfl rfl) <| z_cons (ok_iadd dX10_clash_16 rfl rfl) <| z_cons (ok_iald dX10_clash_17 rfl rfl) <| z_cons (ok_iconst (by decide) dX10_clash_18 rfl rfl) <| z_cons (ok_icmp_ne (tgt := 42) (by decide) rfl dX10_clash_19 rfl rfl) <| z_cons (ok_aload_n dX10_clash_22 rfl rfl) <| z_cons (ok_iload_n dX10_clash_23 rfl rfl) <| z_cons (ok_iload_n dX10_clash_24 rfl rfl) <| z_cons (ok_callv ⟨by decide, by decide, by decide⟩ (ci := 8) (C := RX10) (T := TX10) rfl go_11 (k := 172) (n := 2) qw_626 qw_618 ⟨by decide +kernel, by decide +kernel, by decide +kernel⟩ (Nat.le_of_ble_eq_true rfl) qw_627 qw_628 qw_629 dX10_clash_25 rfl rfl) <| z_cons (ok_if_eq (tgt := 42) (by decide) rfl dX10_clash_28 rfl rfl) <| z_cons (ok_aload_n dX10_clash_31 rfl rfl) <| z_cons (ok_iload_n dX10_clash_32 rfl rfl) <| z_cons (ok_iload_n dX10_clash_33 rfl rfl) <| z_cons (ok_callv ⟨by decide, by decide, by decide⟩ (ci := 8) (C := RX10) (T := TX10) rfl go_11 (k := 172) (n := 2) qw_626 qw_618 ⟨by decide +kernel, by decide +kernel, by decide +kernel⟩ (Nat.le_of_ble_eq_true rfl) qw_627 qw_628 qw_629 dX10_clash_34 rfl rfl) <| z_cons (ok_if_eq (tgt := 42) (by decide) rfl dX10_clash_37 rfl rfl) <| z_cons (ok_iconst (by decide) dX10_clash_40 rfl rfl) <| z_cons (ok_zret rfl dX10_clash_41 rfl) <| z_cons (ok_iinc (by decide) (Nat.le_of_ble_eq_true rfl) dX10_clash_42 rfl rfl) <| z_cons (ok_goto (tgt := 2) (by decide) rfl dX10_clash_45 rfl) <| z_cons (ok_iconst (by decide) dX10_clash_48 rfl rfl) <| z_cons (ok_zret rfl dX10_clash_49 rfl) <| z_nil
theorem dX10_channelOf_0 : decode cX10_channelOf 0 = .ok (.iload_n 0, 1) := by decide +kernel
theorem dX10_channelOf_1 : decode cX10_channelOf 1 = .ok (.iconst 2, 1) := by decide +kernel
theorem dX10_channelOf_2 : decode cX10_channelOf 2 = .ok (.iconst 3, 1) := by decide +kernel
theorem dX10_channelOf_3 : decode cX10_channelOf 3 = .ok (.iload_n 1, 1) := by decide +kernel
theorem dX10_channelOf_4 : decode cX10_channelOf 4 = .ok (.isub, 1) := by decide +kernel
theorem dX10_channelOf_5 : decode cX10_channelOf 5 = .ok (.imul, 1) := by decide +kernel
theorem dX10_channelOf_6 : decode cX10_channelOf 6 = .ok (.ishr, 1) := by decide +kernel
theorem dX10_channelOf_7 : decode cX10_channelOf 7 = .ok (.iconst 3, 1) := by decide +kernel
theorem dX10_channelOf_8 : decode cX10_channelOf 8 = .ok (.iand, 1) := by decide +kernel
theorem dX10_channelOf_9 : decode cX10_channelOf 9 = .ok (.ireturn, 1) := by decide +kernel
set_option maxRecDepth 20000 in
theorem zl_X10_channelOf_0 : z_All z_tab cX10_channelOf 2 (some .int) RX10 pc_X10_channelOf 0 (k_X10_channelOf.drop 0) := z_cons (ok_iload_n dX10_channelOf_0 rfl rfl) <| z_cons (ok_iconst (by decide) dX10_channelOf_1 rfl rfl) <| z_cons (ok_iconst (by decide) dX10_channelOf_2 rfl rfl) <| z_cons (ok_iload_n dX10_channelOf_3 rfl rfl) <| z_cons (ok_isub dX10_channelOf_4 rfl rfl) <| z_cons (ok_imul dX10_channelOf_5 rfl rfl) <| z_cons (ok_ishr dX10_channelOf_6 rfl rfl) <| z_cons (ok_iconst (by decide) dX10_channelOf_7 rfl rfl) <| z_cons (ok_iand dX10_channelOf_8 rfl rfl) <| z_cons (ok_iret rfl dX10_channelOf_9 rfl) <| z_nil
theorem dX10_greatestOf_0 : decode cX10_greatestOf 0 = .ok (.iconst 0, 1) := by decide +kernel
theorem dX10_greatestOf_1 : decode cX10_greatestOf 1 = .ok (.istore_n 1, 1) := by decide +kernel
theorem dX10_greatestOf_2 : decode cX10_greatestOf 2 = .ok (.iconst 0, 1) := by decide +kernel
theorem dX10_greatestOf_3 : decode cX10_greatestOf 3 = .ok (.istore_n 2, 1) := by decide +kernel
theorem dX10_greatestOf_4 : decode cX10_greatestOf 4 = .ok (.iload_n 2, 1) := by decide +kernel
theorem dX10_greatestOf_5 : decode cX10_greatestOf 5 = .ok (.iconst 4, 1) := by decide +kernel
theorem dX10_greatestOf_6 : decode cX10_greatestOf 6 = .ok (.if_icmp .ge 28, 3) := by decide +kernel
theorem dX10_greatestOf_9 : decode cX10_greatestOf 9 = .ok (.iload_n 0, 1) := by decide +kernel
theorem dX10_greatestOf_10 : decode cX10_greatestOf 10 = .ok (.iload_n 2, 1) := by decide +kernel
theorem dX10_greatestOf_11 : decode cX10_greatestOf 11 = .ok (.invokestatic 203, 3) := by decide +kernel
theorem dX10_greatestOf_14 : decode cX10_greatestOf 14 = .ok (.iload_n 1, 1) := by decide +kernel
theorem dX10_greatestOf_15 : decode cX10_greatestOf 15 = .ok (.if_icmp .le 11, 3) := by decide +kernel
theorem dX10_greatestOf_18 : decode cX10_greatestOf 18 = .ok (.iload_n 0, 1) := by decide +kernel
theorem dX10_greatestOf_19 : decode cX10_greatestOf 19 = .ok (.iload_n 2, 1) := by decide +kernel
theorem dX10_greatestOf_20 : decode cX10_greatestOf 20 = .ok (.invokestatic 203, 3) := by decide +kernel
theorem dX10_greatestOf_23 : decode cX10_greatestOf 23 = .ok (.goto 4, 3) := by decide +kernel
theorem dX10_greatestOf_26 : decode cX10_greatestOf 26 = .ok (.iload_n 1, 1) := by decide +kernel
theorem dX10_greatestOf_27 : decode cX10_greatestOf 27 = .ok (.istore_n 1, 1) := by decide +kernel
theorem dX10_greatestOf_28 : decode cX10_greatestOf 28 = .ok (.iinc 2 1, 3) := by decide +kernel
theorem dX10_greatestOf_31 : decode cX10_greatestOf 31 = .ok (.goto (-27), 3) := by decide +kernel
theorem dX10_greatestOf_34 : decode cX10_greatestOf 34 = .ok (.iload_n 1, 1) := by decide +kernel
theorem dX10_greatestOf_35 : decode cX10_greatestOf 35 = .ok (.ireturn, 1) := by decide +kernel
set_option maxRecDepth 20000 in
theorem zl_X10_greatestOf_0 : z_All z_tab cX10_greatestOf 3 (some .int) RX10 pc_X10_greatestOf 0 (k_X10_greatestOf.drop 0) := z_cons (ok_iconst (by decide) dX10_greatestOf_0 rfl rfl) <| z_cons (ok_istore_n (Nat.le_of_ble_eq_true rfl) dX10_greatestOf_1 rfl rfl) <| z_cons (ok_iconst (by decide) dX10_greatestOf_2 rfl rfl) <| z_cons (ok_istore_n (Nat.le_of_ble_eq_true rfl) dX10_greatestOf_3 rfl rfl) <| z_cons (ok_iload_n dX10_greatestOf_4 rfl rfl) <| z_cons (ok_iconst (by decide) dX10_greatestOf_5 rfl rfl) <| z_cons (ok_icmp_ge (tgt := 34) (by decide) rfl dX10_greatestOf_6 rfl rfl) <| z_cons (ok_iload_n dX10_greatestOf_9 rfl rfl) <| z_cons (ok_iload_n dX10_greatestOf_10 rfl rfl) <| z_cons (ok_callS (k := 231) (n := 2) qw_817 qw_618 ⟨by decide +kernel, by decide +kernel, by decide +kernel⟩ (Nat.le_of_ble_eq_true rfl) qw_819 qw_818 dX10_greatestOf_11 rfl rfl) <| z_cons (ok_iload_n dX10_greatestOf_14 rfl rfl) <| z_cons (ok_icmp_le (tgt := 26) (by decide) rfl dX10_greatestOf_15 rfl rfl) <| z_cons (ok_iload_n dX10_greatestOf_18 rfl rfl) <| z_cons (ok_iload_n dX10_greatestOf_19 rfl rfl) <| z_cons (ok_callS (k := 231) (n := 2) qw_817 qw_618 ⟨by decide +kernel, by decide +kernel, by decide +kernel⟩ (Nat.le_of_ble_eq_true rfl) qw_819 qw_818 dX10_greatestOf_20 rfl rfl) <| z_cons (ok_goto (tgt := 27) (by decide) rfl dX10_greatestOf_23 rfl) <| z_cons (ok_iload_n dX10_greatestOf_26 rfl rfl) <| z_cons (ok_istore_n (Nat.le_of_ble_eq_true rfl) dX10_greatestOf_27 rfl rfl) <| z_cons (ok_iinc (by decide) (Nat.le_of_ble_eq_true rfl) dX10_greatestOf_28 rfl rfl) <| z_cons (ok_goto (tgt := 4) (by decide) rfl dX10_greatestOf_31 rfl) <| z_cons (ok_iload_n dX10_greatestOf_34 rfl rfl) <| z_cons (ok_iret rfl dX10_greatestOf_35 rfl) <| z_nil
theorem dX10_fewestChannels_0 : decode cX10_fewestChannels 0 = .ok (.iconst (-1), 1) := by decide +kernel
theorem dX10_fewestChannels_1 : decode cX10_fewestChannels 1 = .ok (.istore_n 1, 1) := by decide +kernel
theorem dX10_fewestChannels_2 : decode cX10_fewestChannels 2 = .ok (.iconst 0, 1) := by decide +kernel
theorem dX10_fewestChannels_3 : decode cX10_fewestChannels 3 = .ok (.istore_n 2, 1) := by decide +kernel
theorem dX10_fewestChannels_4 : decode cX10_fewestChannels 4 = .ok (.iload_n 2, 1) := by decide +kernel
theorem dX10_fewestChannels_5 : decode cX10_fewestChannels 5 = .ok (.sipush 256, 3) := by decide +kernel
theorem dX10_fewestChannels_8 : decode cX10_fewestChannels 8 = .ok (.if_icmp .ge 100, 3) := by decide +kernel
theorem dX10_fewestChannels_11 : decode cX10_fewestChannels 11 = .ok (.iconst 1, 1) := by decide +kernel
theorem dX10_fewestChannels_12 : decode cX10_fewestChannels 12 = .ok (.istore_n 3, 1) := by decide +kernel
theorem dX10_fewestChannels_13 : decode cX10_fewestChannels 13 = .ok (.iconst 0, 1) := by decide +kernel
theorem dX10_fewestChannels_14 : decode cX10_fewestChannels 14 = .ok (.istore 4, 2) := by decide +kernel
theorem dX10_fewestChannels_16 : decode cX10_fewestChannels 16 = .ok (.iload 4, 2) := by decide +kernel
theorem dX10_fewestChannels_18 : decode cX10_fewestChannels 18 = .ok (.iconst 4, 1) := by decide +kernel
theorem dX10_fewestChannels_19 : decode cX10_fewestChannels 19 = .ok (.if_icmp .ge 61, 3) := by decide +kernel
theorem dX10_fewestChannels_22 : decode cX10_fewestChannels 22 = .ok (.iconst 0, 1) := by decide +kernel
theorem dX10_fewestChannels_23 : decode cX10_fewestChannels 23 = .ok (.istore 5, 2) := by decide +kernel
theorem dX10_fewestChannels_25 : decode cX10_fewestChannels 25 = .ok (.iload 5, 2) := by decide +kernel
theorem dX10_fewestChannels_27 : decode cX10_fewestChannels 27 = .ok (.iload 4, 2) := by decide +kernel
theorem dX10_fewestChannels_29 : decode cX10_fewestChannels 29 = .ok (.if_icmp .ge 45, 3) := by decide +kernel
theorem dX10_fewestChannels_32 : decode cX10_fewestChannels 32 = .ok (.iload_n 3, 1) := by decide +kernel
theorem dX10_fewestChannels_33 : decode cX10_fewestChannels 33 = .ok (.ifCond .eq 33, 3) := by decide +kernel
theorem dX10_fewestChannels_36 : decode cX10_fewestChannels 36 = .ok (.iload_n 2, 1) := by decide +kernel
theorem dX10_fewestChannels_37 : decode cX10_fewestChannels 37 = .ok (.iload 4, 2) := by decide +kernel
theorem dX10_fewestChannels_39 : decode cX10_fewestChannels 39 = .ok (.invokestatic 203, 3) := by decide +kernel
theorem dX10_fewestChannels_42 : decode cX10_fewestChannels 42 = .ok (.iload_n 2, 1) := by decide +kernel
theorem dX10_fewestChannels_43 : decode cX10_fewestChannels 43 = .ok (.iload 5, 2) := by decide +kernel
theorem dX10_fewestChannels_45 : decode cX10_fewestChannels 45 = .ok (.invokestatic 203, 3) := by decide +kernel
theorem dX10_fewestChannels_48 : decode cX10_fewestChannels 48 = .ok (.if_icmp .ne 14, 3) := by decide +kernel
theorem dX10_fewestChannels_51 : decode cX10_fewestChannels 51 = .ok (.aload_n 0, 1) := by decide +kernel
theorem dX10_fewestChannels_52 : decode cX10_fewestChannels 52 = .ok (.iload 4, 2) := by decide +kernel
theorem dX10_fewestChannels_54 : decode cX10_fewestChannels 54 = .ok (.iload 5, 2) := by decide +kernel
theorem dX10_fewestChannels_56 : decode cX10_fewestChannels 56 = .ok (.invokevirtual 206, 3) := by decide +kernel
theorem dX10_fewestChannels_59 : decode cX10_fewestChannels 59 = .ok (.ifCond .ne 7, 3) := by decide +kernel
theorem dX10_fewestChannels_62 : decode cX10_fewestChannels 62 = .ok (.iconst 1, 1) := by decide +kernel
theorem dX10_fewestChannels_63 : decode cX10_fewestChannels 63 = .ok (.goto 4, 3) := by decide +kernel
theorem dX10_fewestChannels_66 : decode cX10_fewestChannels 66 = .ok (.iconst 0, 1) := by decide +kernel
theorem dX10_fewestChannels_67 : decode cX10_fewestChannels 67 = .ok (.istore_n 3, 1) := by decide +kernel
theorem dX10_fewestChannels_68 : decode cX10_fewestChannels 68 = .ok (.iinc 5 1, 3) := by decide +kernel
theorem dX10_fewestChannels_71 : decode cX10_fewestChannels 71 = .ok (.goto (-46), 3) := by decide +kernel
theorem dX10_fewestChannels_74 : decode cX10_fewestChannels 74 = .ok (.iinc 4 1, 3) := by decide +kernel
theorem dX10_fewestChannels_77 : decode cX10_fewestChannels 77 = .ok (.goto (-61), 3) := by decide +kernel
theorem dX10_fewestChannels_80 : decode cX10_fewestChannels 80 = .ok (.iload_n 3, 1) := by decide +kernel
theorem dX10_fewestChannels_81 : decode cX10_fewestChannels 81 = .ok (.ifCond .eq 21, 3) := by decide +kernel
theorem dX10_fewestChannels_84 : decode cX10_fewestChannels 84 = .ok (.iload_n 1, 1) := by decide +kernel
theorem dX10_fewestChannels_85 : decode cX10_fewestChannels 85 = .ok (.iconst (-1), 1) := by decide +kernel
theorem dX10_fewestChannels_86 : decode cX10_fewestChannels 86 = .ok (.if_icmp .eq 14, 3) := by decide +kernel
theorem dX10_fewestChannels_89 : decode cX10_fewestChannels 89 = .ok (.iload_n 2, 1) := by decide +kernel
theorem dX10_fewestChannels_90 : decode cX10_fewestChannels 90 = .ok (.invokestatic 209, 3) := by decide +kernel
theorem dX10_fewestChannels_93 : decode cX10_fewestChannels 93 = .ok (.iload_n 1, 1) := by decide +kernel
theorem dX10_fewestChannels_94 : decode cX10_fewestChannels 94 = .ok (.invokestatic 209, 3) := by decide +kernel
theorem dX10_fewestChannels_97 : decode cX10_fewestChannels 97 = .ok (.if_icmp .ge 5, 3) := by decide +kernel
theorem dX10_fewestChannels_100 : decode cX10_fewestChannels 100 = .ok (.iload_n 2, 1) := by decide +kernel
theorem dX10_fewestChannels_101 : decode cX10_fewestChannels 101 = .ok (.istore_n 1, 1) := by decide +kernel
theorem dX10_fewestChannels_102 : decode cX10_fewestChannels 102 = .ok (.iinc 2 1, 3) := by decide +kernel
theorem dX10_fewestChannels_105 : decode cX10_fewestChannels 105 = .ok (.goto (-101), 3) := by decide +kernel
theorem dX10_fewestChannels_108 : decode cX10_fewestChannels 108 = .ok (.iload_n 1, 1) := by decide +kernel
theorem dX10_fewestChannels_109 : decode cX10_fewestChannels 109 = .ok (.ireturn, 1) := by decide +kernel
set_option maxRecDepth 20000 in
theorem zl_X10_fewestChannels_1 : z_All z_tab cX10_fewestChannels 6 (some .int) RX10 pc_X10_fewestChannels 40 (k_X10_fewestChannels.drop 40) := z_cons (ok_goto (tgt := 16) (by decide) rfl dX10_fewestChannels_77 rfl) <| z_cons (ok_iload_n dX10_fewestChannels_80 rfl rfl) <| z_cons (ok_if_eq (tgt := 102) (by decide) rfl dX10_fewestChannels_81 rfl rfl) <| z_cons (ok_iload_n dX10_fewestChannels_84 rfl rfl) <| z_cons (ok_iconst (by decide) dX10_fewestChannels_85 rfl rfl) <| z_cons (ok_icmp_eq (tgt := 100) (by decide) rfl dX10_fewestChannels_86 rfl rfl) <| z_cons (ok_iload_n dX10_fewestChannels_89 rfl rfl) <| z_cons (ok_callS (k := 232) (n := 1) qw_824 qw_618 ⟨by decide +kernel, by decide +kernel, by decide +kernel⟩ (Nat.le_of_ble_eq_true rfl) qw_826 qw_825 dX10_fewestChannels_90 rfl rfl) <| z_cons (ok_iload_n dX10_fewestChannels_93 rfl rfl) <| z_cons (ok_callS (k := 232) (n := 1) qw_824 qw_618 ⟨by decide +kernel, by decide +kernel, by decide +kernel⟩ (Nat.le_of_ble_eq_true rfl) qw_826 qw_825 dX10_fewestChannels_94 rfl rfl) <| z_cons (ok_icmp_ge (tgt := 102) (by decide) rfl dX10_fewestChannels_97 rfl rfl) <| z_cons (ok_iload_n dX10_fewestChannels_100 rfl rfl) <| z_cons (ok_istore_n (Nat.le_of_ble_eq_true rfl) dX10_fewestChannels_101 rfl rfl) <| z_cons (ok_iinc (by decide) (Nat.le_of_ble_eq_true rfl) dX10_fewestChannels_102 rfl rfl) <| z_cons (ok_goto (tgt := 4) (by decide) rfl dX10_fewestChannels_105 rfl) <| z_cons (ok_iload_n dX10_fewestChannels_108 rfl rfl) <| z_cons (ok_iret rfl dX10_fewestChannels_109 rfl) <| z_nil
set_option maxRecDepth 20000 in
theorem zl_X10_fewestChannels_0 : z_All z_tab cX10_fewestChannels 6 (some .int) RX10 pc_X10_fewestChannels 0 (k_X10_fewestChannels.drop 0) := z_cons (ok_iconst (by decide) dX10_fewestChannels_0 rfl rfl) <| z_cons (ok_istore_n (Nat.le_of_ble_eq_true rfl) dX10_fewestChannels_1 rfl rfl) <| z_cons (ok_iconst (by decide) dX10_fewestChannels_2 rfl rfl) <| z_cons (ok_istore_n (Nat.le_of_ble_eq_true rfl) dX10_fewestChannels_3 rfl rfl) <| z_cons (ok_iload_n dX10_fewestChannels_4 rfl rfl) <| z_cons (ok_sipush (by decide) dX10_fewestChannels_5 rfl rfl) <| z_cons (ok_icmp_ge (tgt := 108) (by decide) rfl dX10_fewestChannels_8 rfl rfl) <| z_cons (ok_iconst (by decide) dX10_fewestChannels_11 rfl rfl) <| z_cons (ok_istore_n (Nat.le_of_ble_eq_true rfl) dX10_fewestChannels_12 rfl rfl) <| z_cons (ok_iconst (by decide) dX10_fewestChannels_13 rfl rfl) <| z_cons (ok_istore (Nat.le_of_ble_eq_true rfl) dX10_fewestChannels_14 rfl rfl) <| z_cons (ok_iload dX10_fewestChannels_16 rfl rfl) <| z_cons (ok_iconst (by decide) dX10_fewestChannels_18 rfl rfl) <| z_cons (ok_icmp_ge (tgt := 80) (by decide) rfl dX10_fewestChannels_19 rfl rfl) <| z_cons (ok_iconst (by decide) dX10_fewestChannels_22 rfl rfl) <| z_cons (ok_istore (Nat.le_of_ble_eq_true rfl) dX10_fewestChannels_23 rfl rfl) <| z_cons (ok_iload dX10_fewestChannels_25 rfl rfl) <| z_cons (ok_iload dX10_fewestChannels_27 rfl rfl) <| z_cons (ok_icmp_ge (tgt := 74) (by decide) rfl dX10_fewestChannels_29 rfl rfl) <| z_cons (ok_iload_n dX10_fewestChannels_32 rfl rfl) <| z_cons (ok_if_eq (tgt := 66) (by decide) rfl dX10_fewestChannels_33 rfl rfl) <| z_cons (ok_iload_n dX10_fewestChannels_36 rfl rfl) <| z_cons (ok_iload dX10_fewestChannels_37 rfl rfl) <| z_cons (ok_callS (k := 231) (n := 2) qw_817 qw_618 ⟨by decide +kernel, by decide +kernel, by decide +kernel⟩ (Nat.le_of_ble_eq_true rfl) qw_819 qw_818 dX10_fewestChannels_39 rfl rfl) <| z_cons (ok_iload_n dX10_fewestChannels_42 rfl rfl) <| z_cons (ok_iload dX10_fewestChannels_43 rfl rfl) <| z_cons (ok_callS (k := 231) (n := 2) qw_817 qw_618 ⟨by decide +kernel, by decide +kernel, by decide +kernel⟩ (Nat.le_of_ble_eq_true rfl) qw_819 qw_818 dX10_fewestChannels_45 rfl rfl) <| z_cons (ok_icmp_ne (tgt := 62) (by decide) rfl dX10_fewestChannels_48 rfl rfl) <| z_cons (ok_aload_n dX10_fewestChannels_51 rfl rfl) <| z_cons (ok_iload dX10_fewestChannels_52 rfl rfl) <| z_cons (ok_iload dX10_fewestChannels_54 rfl rfl) <| z_cons (ok_callv ⟨by decide, by decide, by decide⟩ (ci := 8) (C := RX10) (T := TX10) rfl go_11 (k := 230) (n := 2) qw_820 qw_618 ⟨by decide +kernel, by decide +kernel, by decide +kernel⟩ (Nat.le_of_ble_eq_true rfl) qw_821 qw_822 qw_823 dX10_fewestChannels_56 rfl rfl) <| z_cons (ok_if_ne (tgt := 66) (by decide) rfl dX10_fewestChannels_59 rfl rfl) <| z_cons (ok_iconst (by decide) dX10_fewestChannels_62 rfl rfl) <| z_cons (ok_goto (tgt := 67) (by decide) rfl dX10_fewestChannels_63 rfl) <| z_cons (ok_iconst (by decide) dX10_fewestChannels_66 rfl rfl) <| z_cons (ok_istore_n (Nat.le_of_ble_eq_true rfl) dX10_fewestChannels_67 rfl rfl) <| z_cons (ok_iinc (by decide) (Nat.le_of_ble_eq_true rfl) dX10_fewestChannels_68 rfl rfl) <| z_cons (ok_goto (tgt := 25) (by decide) rfl dX10_fewestChannels_71 rfl) <| z_cons (ok_iinc (by decide) (Nat.le_of_ble_eq_true rfl) dX10_fewestChannels_74 rfl rfl) <| zl_X10_fewestChannels_1
theorem dX10_channels_0 : decode cX10_channels 0 = .ok (.iload_n 1, 1) := by decide +kernel
theorem dX10_channels_1 : decode cX10_channels 1 = .ok (.iconst 0, 1) := by decide +kernel
theorem dX10_channels_2 : decode cX10_channels 2 = .ok (.iconst 4, 1) := by decide +kernel
theorem dX10_channels_3 : decode cX10_channels 3 = .ok (.invokestatic 32, 3) := by decide +kernel
theorem dX10_channels_6 : decode cX10_channels 6 = .ok (.ifCond .ne 5, 3) := by decide +kernel
theorem dX10_channels_9 : decode cX10_channels 9 = .ok (.iconst (-1), 1) := by decide +kernel
theorem dX10_channels_10 : decode cX10_channels 10 = .ok (.ireturn, 1) := by decide +kernel
theorem dX10_channels_11 : decode cX10_channels 11 = .ok (.aload_n 0, 1) := by decide +kernel
theorem dX10_channels_12 : decode cX10_channels 12 = .ok (.invokevirtual 212, 3) := by decide +kernel
theorem dX10_channels_15 : decode cX10_channels 15 = .ok (.istore_n 2, 1) := by decide +kernel
theorem dX10_channels_16 : decode cX10_channels 16 = .ok (.iload_n 1, 1) := by decide +kernel
theorem dX10_channels_17 : decode cX10_channels 17 = .ok (.iconst 4, 1) := by decide +kernel
theorem dX10_channels_18 : decode cX10_channels 18 = .ok (.if_icmp .ne 12, 3) := by decide +kernel
theorem dX10_channels_21 : decode cX10_channels 21 = .ok (.iload_n 2, 1) := by decide +kernel
theorem dX10_channels_22 : decode cX10_channels 22 = .ok (.invokestatic 209, 3) := by decide +kernel
theorem dX10_channels_25 : decode cX10_channels 25 = .ok (.iconst 1, 1) := by decide +kernel
theorem dX10_channels_26 : decode cX10_channels 26 = .ok (.iadd, 1) := by decide +kernel
theorem dX10_channels_27 : decode cX10_channels 27 = .ok (.goto 8, 3) := by decide +kernel
theorem dX10_channels_30 : decode cX10_channels 30 = .ok (.iload_n 2, 1) := by decide +kernel
theorem dX10_channels_31 : decode cX10_channels 31 = .ok (.iload_n 1, 1) := by decide +kernel
theorem dX10_channels_32 : decode cX10_channels 32 = .ok (.invokestatic 203, 3) := by decide +kernel
theorem dX10_channels_35 : decode cX10_channels 35 = .ok (.ireturn, 1) := by decide +kernel
set_option maxRecDepth 20000 in
theorem zl_X10_channels_0 : z_All z_tab cX10_channels 3 (some .int) RX10 pc_X10_channels 0 (k_X10_channels.drop 0) := z_cons (ok_iload_n dX10_channels_0 rfl rfl) <| z_cons (ok_iconst (by decide) dX10_channels_1 rfl rfl) <| z_cons (ok_iconst (by decide) dX10_channels_2 rfl rfl) <| z_cons (ok_callS (k := 162) (n := 3) qw_617 qw_618 ⟨by decide +kernel, by decide +kernel, by decide +kernel⟩ (Nat.le_of_ble_eq_true rfl) qw_620 qw_619 dX10_channels_3 rfl rfl) <| z_cons (ok_if_ne (tgt := 11) (by decide) rfl dX10_channels_6 rfl rfl) <| z_cons (ok_iconst (by decide) dX10_channels_9 rfl rfl) <| z_cons (ok_iret rfl dX10_channels_10 rfl) <| z_cons (ok_aload_n dX10_channels_11 rfl rfl) <| z_cons (ok_callv ⟨by decide, by decide, by decide⟩ (ci := 8) (C := RX10) (T := TX10) rfl go_11 (k := 233) (n := 0) qw_827 qw_618 ⟨by decide +kernel, by decide +kernel, by decide +kernel⟩ (Nat.le_of_ble_eq_true rfl) qw_828 qw_829 qw_830 dX10_channels_12 rfl rfl) <| z_cons (ok_istore_n (Nat.le_of_ble_eq_true rfl) dX10_channels_15 rfl rfl) <| z_cons (ok_iload_n dX10_channels_16 rfl rfl) <| z_cons (ok_iconst (by decide) dX10_channels_17 rfl rfl) <| z_cons (ok_icmp_ne (tgt := 30) (by decide) rfl dX10_channels_18 rfl rfl) <| z_cons (ok_iload_n dX10_channels_21 rfl rfl) <| z_cons (ok_callS (k := 232) (n := 1) qw_824 qw_618 ⟨by decide +kernel, by decide +kernel, by decide +kernel⟩ (Nat.le_of_ble_eq_true rfl) qw_826 qw_825 dX10_channels_22 rfl rfl) <| z_cons (ok_iconst (by decide) dX10_channels_25 rfl rfl) <| z_cons (ok_iadd dX10_channels_26 rfl rfl) <| z_cons (ok_goto (tgt := 35) (by decide) rfl dX10_channels_27 rfl) <| z_cons (ok_iload_n dX10_channels_30 rfl rfl) <| z_cons (ok_iload_n dX10_channels_31 rfl rfl) <| z_cons (ok_callS (k := 231) (n := 2) qw_817 qw_618 ⟨by decide +kernel, by decide +kernel, by decide +kernel⟩ (Nat.le_of_ble_eq_true rfl) qw_819 qw_818 dX10_channels_32 rfl rfl) <| z_cons (ok_iret rfl dX10_channels_35 rfl) <| z_nil
theorem dX10_manyOf_0 : decode cX10_manyOf 0 = .ok (.iconst 0, 1) := by decide +kernel
theorem dX10_manyOf_1 : decode cX10_manyOf 1 = .ok (.istore_n 1, 1) := by decide +kernel
theorem dX10_manyOf_2 : decode cX10_manyOf 2 = .ok (.iconst 0, 1) := by decide +kernel
theorem dX10_manyOf_3 : decode cX10_manyOf 3 = .ok (.istore_n 2, 1) := by decide +kernel
theorem dX10_manyOf_4 : decode cX10_manyOf 4 = .ok (.iload_n 2, 1) := by decide +kernel
theorem dX10_manyOf_5 : decode cX10_manyOf 5 = .ok (.bipush 24, 2) := by decide +kernel
theorem dX10_manyOf_7 : decode cX10_manyOf 7 = .ok (.if_icmp .ge 17, 3) := by decide +kernel
theorem dX10_manyOf_10 : decode cX10_manyOf 10 = .ok (.iload_n 1, 1) := by decide +kernel
theorem dX10_manyOf_11 : decode cX10_manyOf 11 = .ok (.iload_n 0, 1) := by decide +kernel
theorem dX10_manyOf_12 : decode cX10_manyOf 12 = .ok (.iload_n 2, 1) := by decide +kernel
theorem dX10_manyOf_13 : decode cX10_manyOf 13 = .ok (.ishr, 1) := by decide +kernel
theorem dX10_manyOf_14 : decode cX10_manyOf 14 = .ok (.iconst 1, 1) := by decide +kernel
theorem dX10_manyOf_15 : decode cX10_manyOf 15 = .ok (.iand, 1) := by decide +kernel
theorem dX10_manyOf_16 : decode cX10_manyOf 16 = .ok (.iadd, 1) := by decide +kernel
theorem dX10_manyOf_17 : decode cX10_manyOf 17 = .ok (.istore_n 1, 1) := by decide +kernel
theorem dX10_manyOf_18 : decode cX10_manyOf 18 = .ok (.iinc 2 1, 3) := by decide +kernel
theorem dX10_manyOf_21 : decode cX10_manyOf 21 = .ok (.goto (-17), 3) := by decide +kernel
theorem dX10_manyOf_24 : decode cX10_manyOf 24 = .ok (.iload_n 1, 1) := by decide +kernel
theorem dX10_manyOf_25 : decode cX10_manyOf 25 = .ok (.ireturn, 1) := by decide +kernel
set_option maxRecDepth 20000 in
theorem zl_X10_manyOf_0 : z_All z_tab cX10_manyOf 3 (some .int) RX10 pc_X10_manyOf 0 (k_X10_manyOf.drop 0) := z_cons (ok_iconst (by decide) dX10_manyOf_0 rfl rfl) <| z_cons (ok_istore_n (Nat.le_of_ble_eq_true rfl) dX10_manyOf_1 rfl rfl) <| z_cons (ok_iconst (by decide) dX10_manyOf_2 rfl rfl) <| z_cons (ok_istore_n (Nat.le_of_ble_eq_true rfl) dX10_manyOf_3 rfl rfl) <| z_cons (ok_iload_n dX10_manyOf_4 rfl rfl) <| z_cons (ok_bipush (by decide) dX10_manyOf_5 rfl rfl) <| z_cons (ok_icmp_ge (tgt := 24) (by decide) rfl dX10_manyOf_7 rfl rfl) <| z_cons (ok_iload_n dX10_manyOf_10 rfl rfl) <| z_cons (ok_iload_n dX10_manyOf_11 rfl rfl) <| z_cons (ok_iload_n dX10_manyOf_12 rfl rfl) <| z_cons (ok_ishr dX10_manyOf_13 rfl rfl) <| z_cons (ok_iconst (by decide) dX10_manyOf_14 rfl rfl) <| z_cons (ok_iand dX10_manyOf_15 rfl rfl) <| z_cons (ok_iadd dX10_manyOf_16 rfl rfl) <| z_cons (ok_istore_n (Nat.le_of_ble_eq_true rfl) dX10_manyOf_17 rfl rfl) <| z_cons (ok_iinc (by decide) (Nat.le_of_ble_eq_true rfl) dX10_manyOf_18 rfl rfl) <| z_cons (ok_goto (tgt := 4) (by decide) rfl dX10_manyOf_21 rfl) <| z_cons (ok_iload_n dX10_manyOf_24 rfl rfl) <| z_cons (ok_iret rfl dX10_manyOf_25 rfl) <| z_nil
theorem dX10_cover_0 : decode cX10_cover 0 = .ok (.iconst (-1), 1) := by decide +kernel
theorem dX10_cover_1 : decode cX10_cover 1 = .ok (.istore_n 1, 1) := by decide +kernel
theorem dX10_cover_2 : decode cX10_cover 2 = .ok (.iconst 0, 1) := by decide +kernel
theorem dX10_cover_3 : decode cX10_cover 3 = .ok (.istore_n 2, 1) := by decide +kernel
theorem dX10_cover_4 : decode cX10_cover 4 = .ok (.iload_n 2, 1) := by decide +kernel
theorem dX10_cover_5 : decode cX10_cover 5 = .ok (.bipush 16, 2) := by decide +kernel
theorem dX10_cover_7 : decode cX10_cover 7 = .ok (.if_icmp .ge 103, 3) := by decide +kernel
theorem dX10_cover_10 : decode cX10_cover 10 = .ok (.iconst 1, 1) := by decide +kernel
theorem dX10_cover_11 : decode cX10_cover 11 = .ok (.istore_n 3, 1) := by decide +kernel
theorem dX10_cover_12 : decode cX10_cover 12 = .ok (.iconst 0, 1) := by decide +kernel
theorem dX10_cover_13 : decode cX10_cover 13 = .ok (.istore 4, 2) := by decide +kernel
theorem dX10_cover_15 : decode cX10_cover 15 = .ok (.iload 4, 2) := by decide +kernel
theorem dX10_cover_17 : decode cX10_cover 17 = .ok (.bipush 24, 2) := by decide +kernel
theorem dX10_cover_19 : decode cX10_cover 19 = .ok (.if_icmp .ge 63, 3) := by decide +kernel
theorem dX10_cover_22 : decode cX10_cover 22 = .ok (.iload_n 3, 1) := by decide +kernel
theorem dX10_cover_23 : decode cX10_cover 23 = .ok (.ifCond .eq 51, 3) := by decide +kernel
theorem dX10_cover_26 : decode cX10_cover 26 = .ok (.aload_n 0, 1) := by decide +kernel
theorem dX10_cover_27 : decode cX10_cover 27 = .ok (.getfield 10, 3) := by decide +kernel
theorem dX10_cover_30 : decode cX10_cover 30 = .ok (.sipush 454, 3) := by decide +kernel
theorem dX10_cover_33 : decode cX10_cover 33 = .ok (.iload 4, 2) := by decide +kernel
theorem dX10_cover_35 : decode cX10_cover 35 = .ok (.iadd, 1) := by decide +kernel
theorem dX10_cover_36 : decode cX10_cover 36 = .ok (.iaload, 1) := by decide +kernel
theorem dX10_cover_37 : decode cX10_cover 37 = .ok (.ifCond .eq 33, 3) := by decide +kernel
theorem dX10_cover_40 : decode cX10_cover 40 = .ok (.aload_n 0, 1) := by decide +kernel
theorem dX10_cover_41 : decode cX10_cover 41 = .ok (.getfield 10, 3) := by decide +kernel
theorem dX10_cover_44 : decode cX10_cover 44 = .ok (.sipush 502, 3) := by decide +kernel
theorem dX10_cover_47 : decode cX10_cover 47 = .ok (.iload 4, 2) := by decide +kernel
theorem dX10_cover_49 : decode cX10_cover 49 = .ok (.iadd, 1) := by decide +kernel
theorem dX10_cover_50 : decode cX10_cover 50 = .ok (.iaload, 1) := by decide +kernel
theorem dX10_cover_51 : decode cX10_cover 51 = .ok (.ifCond .eq 19, 3) := by decide +kernel
theorem dX10_cover_54 : decode cX10_cover 54 = .ok (.aload_n 0, 1) := by decide +kernel
theorem dX10_cover_55 : decode cX10_cover 55 = .ok (.getfield 10, 3) := by decide +kernel
theorem dX10_cover_58 : decode cX10_cover 58 = .ok (.sipush 502, 3) := by decide +kernel
theorem dX10_cover_61 : decode cX10_cover 61 = .ok (.iload 4, 2) := by decide +kernel
theorem dX10_cover_63 : decode cX10_cover 63 = .ok (.iadd, 1) := by decide +kernel
theorem dX10_cover_64 : decode cX10_cover 64 = .ok (.iaload, 1) := by decide +kernel
theorem dX10_cover_65 : decode cX10_cover 65 = .ok (.iload_n 2, 1) := by decide +kernel
theorem dX10_cover_66 : decode cX10_cover 66 = .ok (.iand, 1) := by decide +kernel
theorem dX10_cover_67 : decode cX10_cover 67 = .ok (.ifCond .eq 7, 3) := by decide +kernel
theorem dX10_cover_70 : decode cX10_cover 70 = .ok (.iconst 1, 1) := by decide +kernel
theorem dX10_cover_71 : decode cX10_cover 71 = .ok (.goto 4, 3) := by decide +kernel
theorem dX10_cover_74 : decode cX10_cover 74 = .ok (.iconst 0, 1) := by decide +kernel
theorem dX10_cover_75 : decode cX10_cover 75 = .ok (.istore_n 3, 1) := by decide +kernel
theorem dX10_cover_76 : decode cX10_cover 76 = .ok (.iinc 4 1, 3) := by decide +kernel
theorem dX10_cover_79 : decode cX10_cover 79 = .ok (.goto (-64), 3) := by decide +kernel
theorem dX10_cover_82 : decode cX10_cover 82 = .ok (.iload_n 3, 1) := by decide +kernel
theorem dX10_cover_83 : decode cX10_cover 83 = .ok (.ifCond .eq 21, 3) := by decide +kernel
theorem dX10_cover_86 : decode cX10_cover 86 = .ok (.iload_n 1, 1) := by decide +kernel
theorem dX10_cover_87 : decode cX10_cover 87 = .ok (.iconst (-1), 1) := by decide +kernel
theorem dX10_cover_88 : decode cX10_cover 88 = .ok (.if_icmp .eq 14, 3) := by decide +kernel
theorem dX10_cover_91 : decode cX10_cover 91 = .ok (.iload_n 2, 1) := by decide +kernel
theorem dX10_cover_92 : decode cX10_cover 92 = .ok (.invokestatic 216, 3) := by decide +kernel
theorem dX10_cover_95 : decode cX10_cover 95 = .ok (.iload_n 1, 1) := by decide +kernel
theorem dX10_cover_96 : decode cX10_cover 96 = .ok (.invokestatic 216, 3) := by decide +kernel
theorem dX10_cover_99 : decode cX10_cover 99 = .ok (.if_icmp .ge 5, 3) := by decide +kernel
theorem dX10_cover_102 : decode cX10_cover 102 = .ok (.iload_n 2, 1) := by decide +kernel
theorem dX10_cover_103 : decode cX10_cover 103 = .ok (.istore_n 1, 1) := by decide +kernel
theorem dX10_cover_104 : decode cX10_cover 104 = .ok (.iinc 2 1, 3) := by decide +kernel
theorem dX10_cover_107 : decode cX10_cover 107 = .ok (.goto (-103), 3) := by decide +kernel
theorem dX10_cover_110 : decode cX10_cover 110 = .ok (.iload_n 1, 1) := by decide +kernel
theorem dX10_cover_111 : decode cX10_cover 111 = .ok (.ireturn, 1) := by decide +kernel
set_option maxRecDepth 20000 in
theorem zl_X10_cover_1 : z_All z_tab cX10_cover 5 (some .int) RX10 pc_X10_cover 40 (k_X10_cover.drop 40) := z_cons (ok_goto (tgt := 75) (by decide) rfl dX10_cover_71 rfl) <| z_cons (ok_iconst (by decide) dX10_cover_74 rfl rfl) <| z_cons (ok_istore_n (Nat.le_of_ble_eq_true rfl) dX10_cover_75 rfl rfl) <| z_cons (ok_iinc (by decide) (Nat.le_of_ble_eq_true rfl) dX10_cover_76 rfl rfl) <| z_cons (ok_goto (tgt := 15) (by decide) rfl dX10_cover_79 rfl) <| z_cons (ok_iload_n dX10_cover_82 rfl rfl) <| z_cons (ok_if_eq (tgt := 104) (by decide) rfl dX10_cover_83 rfl rfl) <| z_cons (ok_iload_n dX10_cover_86 rfl rfl) <| z_cons (ok_iconst (by decide) dX10_cover_87 rfl rfl) <| z_cons (ok_icmp_eq (tgt := 102) (by decide) rfl dX10_cover_88 rfl rfl) <| z_cons (ok_iload_n dX10_cover_91 rfl rfl) <| z_cons (ok_callS (k := 235) (n := 1) qw_831 qw_618 ⟨by decide +kernel, by decide +kernel, by decide +kernel⟩ (Nat.le_of_ble_eq_true rfl) qw_833 qw_832 dX10_cover_92 rfl rfl) <| z_cons (ok_iload_n dX10_cover_95 rfl rfl) <| z_cons (ok_callS (k := 235) (n := 1) qw_831 qw_618 ⟨by decide +kernel, by decide +kernel, by decide +kernel⟩ (Nat.le_of_ble_eq_true rfl) qw_833 qw_832 dX10_cover_96 rfl rfl) <| z_cons (ok_icmp_ge (tgt := 104) (by decide) rfl dX10_cover_99 rfl rfl) <| z_cons (ok_iload_n dX10_cover_102 rfl rfl) <| z_cons (ok_istore_n (Nat.le_of_ble_eq_true rfl) dX10_cover_103 rfl rfl) <| z_cons (ok_iinc (by decide) (Nat.le_of_ble_eq_true rfl) dX10_cover_104 rfl rfl) <| z_cons (ok_goto (tgt := 4) (by decide) rfl dX10_cover_107 rfl) <| z_cons (ok_iload_n dX10_cover_110 rfl rfl) <| z_cons (ok_iret rfl dX10_cover_111 rfl) <| z_nil
set_option maxRecDepth 20000 in
theorem zl_X10_cover_0 : z_All z_tab cX10_cover 5 (some .int) RX10 pc_X10_cover 0 (k_X10_cover.drop 0) := z_cons (ok_iconst (by decide) dX10_cover_0 rfl rfl) <| z_cons (ok_istore_n (Nat.le_of_ble_eq_true rfl) dX10_cover_1 rfl rfl) <| z_cons (ok_iconst (by decide) dX10_cover_2 rfl rfl) <| z_cons (ok_istore_n (Nat.le_of_ble_eq_true rfl) dX10_cover_3 rfl rfl) <| z_cons (ok_iload_n dX10_cover_4 rfl rfl) <| z_cons (ok_bipush (by decide) dX10_cover_5 rfl rfl) <| z_cons (ok_icmp_ge (tgt := 110) (by decide) rfl dX10_cover_7 rfl rfl) <| z_cons (ok_iconst (by decide) dX10_cover_10 rfl rfl) <| z_cons (ok_istore_n (Nat.le_of_ble_eq_true rfl) dX10_cover_11 rfl rfl) <| z_cons (ok_iconst (by decide) dX10_cover_12 rfl rfl) <| z_cons (ok_istore (Nat.le_of_ble_eq_true rfl) dX10_cover_13 rfl rfl) <| z_cons (ok_iload dX10_cover_15 rfl rfl) <| z_cons (ok_bipush (by decide) dX10_cover_17 rfl rfl) <| z_cons (ok_icmp_ge (tgt := 82) (by decide) rfl dX10_cover_19 rfl rfl) <| z_cons (ok_iload_n dX10_cover_22 rfl rfl) <| z_cons (ok_if_eq (tgt := 74) (by decide) rfl dX10_cover_23 rfl rfl) <| z_cons (ok_aload_n dX10_cover_26 rfl rfl) <| z_cons (ok_getr (k := 0) ⟨by decide, by decide, by decide⟩ (ci := 8) (T := TX10) rfl rfl (Nat.le_of_ble_eq_true rfl) iw_X10 qw_616 gr_11_0 (fun _ _ => by simp) (fun w i => List.mem_of_getElem? (i := 0) rfl) dX10_cover_27 rfl rfl) <| z_cons (ok_sipush (by decide) dX10_cover_30 rfl rfl) <| z_cons (ok_iload dX10_cover_33 rfl rfl) <| z_cons (ok_iadd dX10_cover_35 rfl rfl) <| z_cons (ok_iald dX10_cover_36 rfl rfl) <| z_cons (ok_if_eq (tgt := 70) (by decide) rfl dX10_cover_37 rfl rfl) <| z_cons (ok_aload_n dX10_cover_40 rfl rfl) <| z_cons (ok_getr (k := 0) ⟨by decide, by decide, by decide⟩ (ci := 8) (T := TX10) rfl rfl (Nat.le_of_ble_eq_true rfl) iw_X10 qw_616 gr_11_0 (fun _ _ => by simp) (fun w i => List.mem_of_getElem? (i := 0) rfl) dX10_cover_41 rfl rfl) <| z_cons (ok_sipush (by decide) dX10_cover_44 rfl rfl) <| z_cons (ok_iload dX10_cover_47 rfl rfl) <| z_cons (ok_iadd dX10_cover_49 rfl rfl) <| z_cons (ok_iald dX10_cover_50 rfl rfl) <| z_cons (ok_if_eq (tgt := 70) (by decide) rfl dX10_cover_51 rfl rfl) <| z_cons (ok_aload_n dX10_cover_54 rfl rfl) <| z_cons (ok_getr (k := 0) ⟨by decide, by decide, by decide⟩ (ci := 8) (T := TX10) rfl rfl (Nat.le_of_ble_eq_true rfl) iw_X10 qw_616 gr_11_0 (fun _ _ => by simp) (fun w i => List.mem_of_getElem? (i := 0) rfl) dX10_cover_55 rfl rfl) <| z_cons (ok_sipush (by decide) dX10_cover_58 rfl rfl) <| z_cons (ok_iload dX10_cover_61 rfl rfl) <| z_cons (ok_iadd dX10_cover_63 rfl rfl) <| z_cons (ok_iald dX10_cover_64 rfl rfl) <| z_cons (ok_iload_n dX10_cover_65 rfl rfl) <| z_cons (ok_iand dX10_cover_66 rfl rfl) <| z_cons (ok_if_eq (tgt := 74) (by decide) rfl dX10_cover_67 rfl rfl) <| z_cons (ok_iconst (by decide) dX10_cover_70 rfl rfl) <| zl_X10_cover_1
theorem dX10_read_0 : decode cX10_read 0 = .ok (.iload_n 1, 1) := by decide +kernel
theorem dX10_read_1 : decode cX10_read 1 = .ok (.invokestatic 64, 3) := by decide +kernel
theorem dX10_read_4 : decode cX10_read 4 = .ok (.ifCond .eq 41, 3) := by decide +kernel
theorem dX10_read_7 : decode cX10_read 7 = .ok (.iload_n 2, 1) := by decide +kernel
theorem dX10_read_8 : decode cX10_read 8 = .ok (.iconst 0, 1) := by decide +kernel
theorem dX10_read_9 : decode cX10_read 9 = .ok (.aload_n 0, 1) := by decide +kernel
theorem dX10_read_10 : decode cX10_read 10 = .ok (.getfield 10, 3) := by decide +kernel
theorem dX10_read_13 : decode cX10_read 13 = .ok (.sipush 306, 3) := by decide +kernel
theorem dX10_read_16 : decode cX10_read 16 = .ok (.iload_n 1, 1) := by decide +kernel
theorem dX10_read_17 : decode cX10_read 17 = .ok (.iadd, 1) := by decide +kernel
theorem dX10_read_18 : decode cX10_read 18 = .ok (.iaload, 1) := by decide +kernel
theorem dX10_read_19 : decode cX10_read 19 = .ok (.iconst 1, 1) := by decide +kernel
theorem dX10_read_20 : decode cX10_read 20 = .ok (.isub, 1) := by decide +kernel
theorem dX10_read_21 : decode cX10_read 21 = .ok (.invokestatic 32, 3) := by decide +kernel
theorem dX10_read_24 : decode cX10_read 24 = .ok (.ifCond .eq 21, 3) := by decide +kernel
theorem dX10_read_27 : decode cX10_read 27 = .ok (.aload_n 0, 1) := by decide +kernel
theorem dX10_read_28 : decode cX10_read 28 = .ok (.getfield 10, 3) := by decide +kernel
theorem dX10_read_31 : decode cX10_read 31 = .ok (.sipush 358, 3) := by decide +kernel
theorem dX10_read_34 : decode cX10_read 34 = .ok (.bipush 24, 2) := by decide +kernel
theorem dX10_read_36 : decode cX10_read 36 = .ok (.iload_n 1, 1) := by decide +kernel
theorem dX10_read_37 : decode cX10_read 37 = .ok (.imul, 1) := by decide +kernel
theorem dX10_read_38 : decode cX10_read 38 = .ok (.iadd, 1) := by decide +kernel
theorem dX10_read_39 : decode cX10_read 39 = .ok (.iload_n 2, 1) := by decide +kernel
theorem dX10_read_40 : decode cX10_read 40 = .ok (.iadd, 1) := by decide +kernel
theorem dX10_read_41 : decode cX10_read 41 = .ok (.iaload, 1) := by decide +kernel
theorem dX10_read_42 : decode cX10_read 42 = .ok (.goto 4, 3) := by decide +kernel
theorem dX10_read_45 : decode cX10_read 45 = .ok (.iconst (-1), 1) := by decide +kernel
theorem dX10_read_46 : decode cX10_read 46 = .ok (.ireturn, 1) := by decide +kernel
set_option maxRecDepth 20000 in
theorem zl_X10_read_0 : z_All z_tab cX10_read 3 (some .int) RX10 pc_X10_read 0 (k_X10_read.drop 0) := z_cons (ok_iload_n dX10_read_0 rfl rfl) <| z_cons (ok_callS (k := 166) (n := 1) qw_650 qw_618 ⟨by decide +kernel, by decide +kernel, by decide +kernel⟩ (Nat.le_of_ble_eq_true rfl) qw_652 qw_651 dX10_read_1 rfl rfl) <| z_cons (ok_if_eq (tgt := 45) (by decide) rfl dX10_read_4 rfl rfl) <| z_cons (ok_iload_n dX10_read_7 rfl rfl) <| z_cons (ok_iconst (by decide) dX10_read_8 rfl rfl) <| z_cons (ok_aload_n dX10_read_9 rfl rfl) <| z_cons (ok_getr (k := 0) ⟨by decide, by decide, by decide⟩ (ci := 8) (T := TX10) rfl rfl (Nat.le_of_ble_eq_true rfl) iw_X10 qw_616 gr_11_0 (fun _ _ => by simp) (fun w i => List.mem_of_getElem? (i := 0) rfl) dX10_read_10 rfl rfl) <| z_cons (ok_sipush (by decide) dX10_read_13 rfl rfl) <| z_cons (ok_iload_n dX10_read_16 rfl rfl) <| z_cons (ok_iadd dX10_read_17 rfl rfl) <| z_cons (ok_iald dX10_read_18 rfl rfl) <| z_cons (ok_iconst (by decide) dX10_read_19 rfl rfl) <| z_cons (ok_isub dX10_read_20 rfl rfl) <| z_cons (ok_callS (k := 162) (n := 3) qw_617 qw_618 ⟨by decide +kernel, by decide +kernel, by decide +kernel⟩ (Nat.le_of_ble_eq_true rfl) qw_620 qw_619 dX10_read_21 rfl rfl) <| z_cons (ok_if_eq (tgt := 45) (by decide) rfl dX10_read_24 rfl rfl) <| z_cons (ok_aload_n dX10_read_27 rfl rfl) <| z_cons (ok_getr (k := 0) ⟨by decide, by decide, by decide⟩ (ci := 8) (T := TX10) rfl rfl (Nat.le_of_ble_eq_true rfl) iw_X10 qw_616 gr_11_0 (fun _ _ => by simp) (fun w i => List.mem_of_getElem? (i := 0) rfl) dX10_read_28 rfl rfl) <| z_cons (ok_sipush (by decide) dX10_read_31 rfl rfl) <| z_cons (ok_bipush (by decide) dX10_read_34 rfl rfl) <| z_cons (ok_iload_n dX10_read_36 rfl rfl) <| z_cons (ok_imul dX10_read_37 rfl rfl) <| z_cons (ok_iadd dX10_read_38 rfl rfl) <| z_cons (ok_iload_n dX10_read_39 rfl rfl) <| z_cons (ok_iadd dX10_read_40 rfl rfl) <| z_cons (ok_iald dX10_read_41 rfl rfl) <| z_cons (ok_goto (tgt := 46) (by decide) rfl dX10_read_42 rfl) <| z_cons (ok_iconst (by decide) dX10_read_45 rfl rfl) <| z_cons (ok_iret rfl dX10_read_46 rfl) <| z_nil
theorem dX10_wouldHave_0 : decode cX10_wouldHave 0 = .ok (.iload_n 1, 1) := by decide +kernel
theorem dX10_wouldHave_1 : decode cX10_wouldHave 1 = .ok (.iload_n 2, 1) := by decide +kernel
theorem dX10_wouldHave_2 : decode cX10_wouldHave 2 = .ok (.iload_n 3, 1) := by decide +kernel
theorem dX10_wouldHave_3 : decode cX10_wouldHave 3 = .ok (.iload 4, 2) := by decide +kernel
theorem dX10_wouldHave_5 : decode cX10_wouldHave 5 = .ok (.invokestatic 122, 3) := by decide +kernel
theorem dX10_wouldHave_8 : decode cX10_wouldHave 8 = .ok (.ifCond .eq 15, 3) := by decide +kernel
theorem dX10_wouldHave_11 : decode cX10_wouldHave 11 = .ok (.aload_n 0, 1) := by decide +kernel
theorem dX10_wouldHave_12 : decode cX10_wouldHave 12 = .ok (.iload_n 1, 1) := by decide +kernel
theorem dX10_wouldHave_13 : decode cX10_wouldHave 13 = .ok (.iload_n 2, 1) := by decide +kernel
theorem dX10_wouldHave_14 : decode cX10_wouldHave 14 = .ok (.iload_n 3, 1) := by decide +kernel
theorem dX10_wouldHave_15 : decode cX10_wouldHave 15 = .ok (.iload 4, 2) := by decide +kernel
theorem dX10_wouldHave_17 : decode cX10_wouldHave 17 = .ok (.invokevirtual 126, 3) := by decide +kernel
theorem dX10_wouldHave_20 : decode cX10_wouldHave 20 = .ok (.goto 4, 3) := by decide +kernel
theorem dX10_wouldHave_23 : decode cX10_wouldHave 23 = .ok (.iconst (-1), 1) := by decide +kernel
theorem dX10_wouldHave_24 : decode cX10_wouldHave 24 = .ok (.ireturn, 1) := by decide +kernel
set_option maxRecDepth 20000 in
theorem zl_X10_wouldHave_0 : z_All z_tab cX10_wouldHave 5 (some .int) RX10 pc_X10_wouldHave 0 (k_X10_wouldHave.drop 0) := z_cons (ok_iload_n dX10_wouldHave_0 rfl rfl) <| z_cons (ok_iload_n dX10_wouldHave_1 rfl rfl) <| z_cons (ok_iload_n dX10_wouldHave_2 rfl rfl) <| z_cons (ok_iload dX10_wouldHave_3 rfl rfl) <| z_cons (ok_callS (k := 200) (n := 4) qw_723 qw_618 ⟨by decide +kernel, by decide +kernel, by decide +kernel⟩ (Nat.le_of_ble_eq_true rfl) qw_725 qw_724 dX10_wouldHave_5 rfl rfl) <| z_cons (ok_if_eq (tgt := 23) (by decide) rfl dX10_wouldHave_8 rfl rfl) <| z_cons (ok_aload_n dX10_wouldHave_11 rfl rfl) <| z_cons (ok_iload_n dX10_wouldHave_12 rfl rfl) <| z_cons (ok_iload_n dX10_wouldHave_13 rfl rfl) <| z_cons (ok_iload_n dX10_wouldHave_14 rfl rfl) <| z_cons (ok_iload dX10_wouldHave_15 rfl rfl) <| z_cons (ok_callv ⟨by decide, by decide, by decide⟩ (ci := 8) (C := RX10) (T := TX10) rfl go_11 (k := 201) (n := 4) qw_726 qw_618 ⟨by decide +kernel, by decide +kernel, by decide +kernel⟩ (Nat.le_of_ble_eq_true rfl) qw_727 qw_728 qw_729 dX10_wouldHave_17 rfl rfl) <| z_cons (ok_goto (tgt := 24) (by decide) rfl dX10_wouldHave_20 rfl) <| z_cons (ok_iconst (by decide) dX10_wouldHave_23 rfl rfl) <| z_cons (ok_iret rfl dX10_wouldHave_24 rfl) <| z_nil
theorem dX10_queries_0 : decode cX10_queries 0 = .ok (.iload_n 1, 1) := by decide +kernel
theorem dX10_queries_1 : decode cX10_queries 1 = .ok (.iload_n 2, 1) := by decide +kernel
theorem dX10_queries_2 : decode cX10_queries 2 = .ok (.iload_n 3, 1) := by decide +kernel
theorem dX10_queries_3 : decode cX10_queries 3 = .ok (.iload 4, 2) := by decide +kernel
theorem dX10_queries_5 : decode cX10_queries 5 = .ok (.invokestatic 122, 3) := by decide +kernel
theorem dX10_queries_8 : decode cX10_queries 8 = .ok (.ifCond .ne 5, 3) := by decide +kernel
theorem dX10_queries_11 : decode cX10_queries 11 = .ok (.iconst (-1), 1) := by decide +kernel
theorem dX10_queries_12 : decode cX10_queries 12 = .ok (.ireturn, 1) := by decide +kernel
theorem dX10_queries_13 : decode cX10_queries 13 = .ok (.aload_n 0, 1) := by decide +kernel
theorem dX10_queries_14 : decode cX10_queries 14 = .ok (.iload_n 1, 1) := by decide +kernel
theorem dX10_queries_15 : decode cX10_queries 15 = .ok (.iload_n 2, 1) := by decide +kernel
theorem dX10_queries_16 : decode cX10_queries 16 = .ok (.iload_n 3, 1) := by decide +kernel
theorem dX10_queries_17 : decode cX10_queries 17 = .ok (.iload 4, 2) := by decide +kernel
theorem dX10_queries_19 : decode cX10_queries 19 = .ok (.invokevirtual 126, 3) := by decide +kernel
theorem dX10_queries_22 : decode cX10_queries 22 = .ok (.pop, 1) := by decide +kernel
theorem dX10_queries_23 : decode cX10_queries 23 = .ok (.aload_n 0, 1) := by decide +kernel
theorem dX10_queries_24 : decode cX10_queries 24 = .ok (.iconst 0, 1) := by decide +kernel
theorem dX10_queries_25 : decode cX10_queries 25 = .ok (.iconst 0, 1) := by decide +kernel
theorem dX10_queries_26 : decode cX10_queries 26 = .ok (.invokevirtual 116, 3) := by decide +kernel
theorem dX10_queries_29 : decode cX10_queries 29 = .ok (.ireturn, 1) := by decide +kernel
set_option maxRecDepth 20000 in
theorem zl_X10_queries_0 : z_All z_tab cX10_queries 5 (some .int) RX10 pc_X10_queries 0 (k_X10_queries.drop 0) := z_cons (ok_iload_n dX10_queries_0 rfl rfl) <| z_cons (ok_iload_n dX10_queries_1 rfl rfl) <| z_cons (ok_iload_n dX10_queries_2 rfl rfl) <| z_cons (ok_iload dX10_queries_3 rfl rfl) <| z_cons (ok_callS (k := 200) (n := 4) qw_723 qw_618 ⟨by decide +kernel, by decide +kernel, by decide +kernel⟩ (Nat.le_of_ble_eq_true rfl) qw_725 qw_724 dX10_queries_5 rfl rfl) <| z_cons (ok_if_ne (tgt := 13) (by decide) rfl dX10_queries_8 rfl rfl) <| z_cons (ok_iconst (by decide) dX10_queries_11 rfl rfl) <| z_cons (ok_iret rfl dX10_queries_12 rfl) <| z_cons (ok_aload_n dX10_queries_13 rfl rfl) <| z_cons (ok_iload_n dX10_queries_14 rfl rfl) <| z_cons (ok_iload_n dX10_queries_15 rfl rfl) <| z_cons (ok_iload_n dX10_queries_16 rfl rfl) <| z_cons (ok_iload dX10_queries_17 rfl rfl) <| z_cons (ok_callv ⟨by decide, by decide, by decide⟩ (ci := 8) (C := RX10) (T := TX10) rfl go_11 (k := 201) (n := 4) qw_726 qw_618 ⟨by decide +kernel, by decide +kernel, by decide +kernel⟩ (Nat.le_of_ble_eq_true rfl) qw_727 qw_728 qw_729 dX10_queries_19 rfl rfl) <| z_cons (ok_pop dX10_queries_22 rfl rfl) <| z_cons (ok_aload_n dX10_queries_23 rfl rfl) <| z_cons (ok_iconst (by decide) dX10_queries_24 rfl rfl) <| z_cons (ok_iconst (by decide) dX10_queries_25 rfl rfl) <| z_cons (ok_callv ⟨by decide, by decide, by decide⟩ (ci := 8) (C := RX10) (T := TX10) rfl go_11 (k := 202) (n := 2) qw_715 qw_618 ⟨by decide +kernel, by decide +kernel, by decide +kernel⟩ (Nat.le_of_ble_eq_true rfl) qw_716 qw_717 qw_718 dX10_queries_26 rfl rfl) <| z_cons (ok_iret rfl dX10_queries_29 rfl) <| z_nil
theorem dX10_lasts_0 : decode cX10_lasts 0 = .ok (.iload_n 1, 1) := by decide +kernel
theorem dX10_lasts_1 : decode cX10_lasts 1 = .ok (.invokestatic 64, 3) := by decide +kernel
theorem dX10_lasts_4 : decode cX10_lasts 4 = .ok (.ifCond .ne 5, 3) := by decide +kernel
theorem dX10_lasts_7 : decode cX10_lasts 7 = .ok (.iconst (-1), 1) := by decide +kernel
theorem dX10_lasts_8 : decode cX10_lasts 8 = .ok (.ireturn, 1) := by decide +kernel
theorem dX10_lasts_9 : decode cX10_lasts 9 = .ok (.aload_n 0, 1) := by decide +kernel
theorem dX10_lasts_10 : decode cX10_lasts 10 = .ok (.getfield 10, 3) := by decide +kernel
theorem dX10_lasts_13 : decode cX10_lasts 13 = .ok (.sipush 278, 3) := by decide +kernel
theorem dX10_lasts_16 : decode cX10_lasts 16 = .ok (.iload_n 1, 1) := by decide +kernel
theorem dX10_lasts_17 : decode cX10_lasts 17 = .ok (.iadd, 1) := by decide +kernel
theorem dX10_lasts_18 : decode cX10_lasts 18 = .ok (.iaload, 1) := by decide +kernel
theorem dX10_lasts_19 : decode cX10_lasts 19 = .ok (.ifCond .ne 5, 3) := by decide +kernel
theorem dX10_lasts_22 : decode cX10_lasts 22 = .ok (.iconst 0, 1) := by decide +kernel
theorem dX10_lasts_23 : decode cX10_lasts 23 = .ok (.ireturn, 1) := by decide +kernel
theorem dX10_lasts_24 : decode cX10_lasts 24 = .ok (.aload_n 0, 1) := by decide +kernel
theorem dX10_lasts_25 : decode cX10_lasts 25 = .ok (.getfield 10, 3) := by decide +kernel
theorem dX10_lasts_28 : decode cX10_lasts 28 = .ok (.aload_n 0, 1) := by decide +kernel
theorem dX10_lasts_29 : decode cX10_lasts 29 = .ok (.getfield 14, 3) := by decide +kernel
theorem dX10_lasts_32 : decode cX10_lasts 32 = .ok (.invokestatic 219, 3) := by decide +kernel
theorem dX10_lasts_35 : decode cX10_lasts 35 = .ok (.iconst 0, 1) := by decide +kernel
theorem dX10_lasts_36 : decode cX10_lasts 36 = .ok (.istore_n 2, 1) := by decide +kernel
theorem dX10_lasts_37 : decode cX10_lasts 37 = .ok (.iload_n 2, 1) := by decide +kernel
theorem dX10_lasts_38 : decode cX10_lasts 38 = .ok (.sipush 500, 3) := by decide +kernel
theorem dX10_lasts_41 : decode cX10_lasts 41 = .ok (.if_icmp .ge 27, 3) := by decide +kernel
theorem dX10_lasts_44 : decode cX10_lasts 44 = .ok (.aload_n 0, 1) := by decide +kernel
theorem dX10_lasts_45 : decode cX10_lasts 45 = .ok (.getfield 10, 3) := by decide +kernel
theorem dX10_lasts_48 : decode cX10_lasts 48 = .ok (.sipush 278, 3) := by decide +kernel
theorem dX10_lasts_51 : decode cX10_lasts 51 = .ok (.iload_n 1, 1) := by decide +kernel
theorem dX10_lasts_52 : decode cX10_lasts 52 = .ok (.iadd, 1) := by decide +kernel
theorem dX10_lasts_53 : decode cX10_lasts 53 = .ok (.iaload, 1) := by decide +kernel
theorem dX10_lasts_54 : decode cX10_lasts 54 = .ok (.iconst 1, 1) := by decide +kernel
theorem dX10_lasts_55 : decode cX10_lasts 55 = .ok (.if_icmp .ne 13, 3) := by decide +kernel
theorem dX10_lasts_58 : decode cX10_lasts 58 = .ok (.aload_n 0, 1) := by decide +kernel
theorem dX10_lasts_59 : decode cX10_lasts 59 = .ok (.invokevirtual 194, 3) := by decide +kernel
theorem dX10_lasts_62 : decode cX10_lasts 62 = .ok (.iinc 2 1, 3) := by decide +kernel
theorem dX10_lasts_65 : decode cX10_lasts 65 = .ok (.goto (-28), 3) := by decide +kernel
theorem dX10_lasts_68 : decode cX10_lasts 68 = .ok (.aload_n 0, 1) := by decide +kernel
theorem dX10_lasts_69 : decode cX10_lasts 69 = .ok (.getfield 10, 3) := by decide +kernel
theorem dX10_lasts_72 : decode cX10_lasts 72 = .ok (.sipush 278, 3) := by decide +kernel
theorem dX10_lasts_75 : decode cX10_lasts 75 = .ok (.iload_n 1, 1) := by decide +kernel
theorem dX10_lasts_76 : decode cX10_lasts 76 = .ok (.iadd, 1) := by decide +kernel
theorem dX10_lasts_77 : decode cX10_lasts 77 = .ok (.iaload, 1) := by decide +kernel
theorem dX10_lasts_78 : decode cX10_lasts 78 = .ok (.ifCond .ne 7, 3) := by decide +kernel
theorem dX10_lasts_81 : decode cX10_lasts 81 = .ok (.iconst 1, 1) := by decide +kernel
theorem dX10_lasts_82 : decode cX10_lasts 82 = .ok (.goto 4, 3) := by decide +kernel
theorem dX10_lasts_85 : decode cX10_lasts 85 = .ok (.iconst 0, 1) := by decide +kernel
theorem dX10_lasts_86 : decode cX10_lasts 86 = .ok (.istore_n 3, 1) := by decide +kernel
theorem dX10_lasts_87 : decode cX10_lasts 87 = .ok (.aload_n 0, 1) := by decide +kernel
theorem dX10_lasts_88 : decode cX10_lasts 88 = .ok (.getfield 14, 3) := by decide +kernel
theorem dX10_lasts_91 : decode cX10_lasts 91 = .ok (.aload_n 0, 1) := by decide +kernel
theorem dX10_lasts_92 : decode cX10_lasts 92 = .ok (.getfield 10, 3) := by decide +kernel
theorem dX10_lasts_95 : decode cX10_lasts 95 = .ok (.invokestatic 219, 3) := by decide +kernel
theorem dX10_lasts_98 : decode cX10_lasts 98 = .ok (.iload_n 3, 1) := by decide +kernel
theorem dX10_lasts_99 : decode cX10_lasts 99 = .ok (.ifCond .eq 7, 3) := by decide +kernel
theorem dX10_lasts_102 : decode cX10_lasts 102 = .ok (.iload_n 2, 1) := by decide +kernel
theorem dX10_lasts_103 : decode cX10_lasts 103 = .ok (.goto 4, 3) := by decide +kernel
theorem dX10_lasts_106 : decode cX10_lasts 106 = .ok (.iconst (-1), 1) := by decide +kernel
theorem dX10_lasts_107 : decode cX10_lasts 107 = .ok (.ireturn, 1) := by decide +kernel
set_option maxRecDepth 20000 in
theorem zl_X10_lasts_1 : z_All z_tab cX10_lasts 4 (some .int) RX10 pc_X10_lasts 40 (k_X10_lasts.drop 40) := z_cons (ok_iadd dX10_lasts_76 rfl rfl) <| z_cons (ok_iald dX10_lasts_77 rfl rfl) <| z_cons (ok_if_ne (tgt := 85) (by decide) rfl dX10_lasts_78 rfl rfl) <| z_cons (ok_iconst (by decide) dX10_lasts_81 rfl rfl) <| z_cons (ok_goto (tgt := 86) (by decide) rfl dX10_lasts_82 rfl) <| z_cons (ok_iconst (by decide) dX10_lasts_85 rfl rfl) <| z_cons (ok_istore_n (Nat.le_of_ble_eq_true rfl) dX10_lasts_86 rfl rfl) <| z_cons (ok_aload_n dX10_lasts_87 rfl rfl) <| z_cons (ok_getr (k := 1) ⟨by decide, by decide, by decide⟩ (ci := 8) (T := TX10) rfl rfl (Nat.le_of_ble_eq_true rfl) iw_X10 qw_834 gr_11_1 (fun _ _ => by simp) (fun w i => List.mem_of_getElem? (i := 1) rfl) dX10_lasts_88 rfl rfl) <| z_cons (ok_aload_n dX10_lasts_91 rfl rfl) <| z_cons (ok_getr (k := 0) ⟨by decide, by decide, by decide⟩ (ci := 8) (T := TX10) rfl rfl (Nat.le_of_ble_eq_true rfl) iw_X10 qw_616 gr_11_0 (fun _ _ => by simp) (fun w i => List.mem_of_getElem? (i := 0) rfl) dX10_lasts_92 rfl rfl) <| z_cons (ok_callS (k := 164) (n := 2) qw_835 qw_618 ⟨by decide +kernel, by decide +kernel, by decide +kernel⟩ (Nat.le_of_ble_eq_true rfl) qw_837 qw_836 dX10_lasts_95 rfl rfl) <| z_cons (ok_iload_n dX10_lasts_98 rfl rfl) <| z_cons (ok_if_eq (tgt := 106) (by decide) rfl dX10_lasts_99 rfl rfl) <| z_cons (ok_iload_n dX10_lasts_102 rfl rfl) <| z_cons (ok_goto (tgt := 107) (by decide) rfl dX10_lasts_103 rfl) <| z_cons (ok_iconst (by decide) dX10_lasts_106 rfl rfl) <| z_cons (ok_iret rfl dX10_lasts_107 rfl) <| z_nil
set_option maxRecDepth 20000 in
theorem zl_X10_lasts_0 : z_All z_tab cX10_lasts 4 (some .int) RX10 pc_X10_lasts 0 (k_X10_lasts.drop 0) := z_cons (ok_iload_n dX10_lasts_0 rfl rfl) <| z_cons (ok_callS (k := 166) (n := 1) qw_650 qw_618 ⟨by decide +kernel, by decide +kernel, by decide +kernel⟩ (Nat.le_of_ble_eq_true rfl) qw_652 qw_651 dX10_lasts_1 rfl rfl) <| z_cons (ok_if_ne (tgt := 9) (by decide) rfl dX10_lasts_4 rfl rfl) <| z_cons (ok_iconst (by decide) dX10_lasts_7 rfl rfl) <| z_cons (ok_iret rfl dX10_lasts_8 rfl) <| z_cons (ok_aload_n dX10_lasts_9 rfl rfl) <| z_cons (ok_getr (k := 0) ⟨by decide, by decide, by decide⟩ (ci := 8) (T := TX10) rfl rfl (Nat.le_of_ble_eq_true rfl) iw_X10 qw_616 gr_11_0 (fun _ _ => by simp) (fun w i => List.mem_of_getElem? (i := 0) rfl) dX10_lasts_10 rfl rfl) <| z_cons (ok_sipush (by decide) dX10_lasts_13 rfl rfl) <| z_cons (ok_iload_n dX10_lasts_16 rfl rfl) <| z_cons (ok_iadd dX10_lasts_17 rfl rfl) <| z_cons (ok_iald dX10_lasts_18 rfl rfl) <| z_cons (ok_if_ne (tgt := 24) (by decide) rfl dX10_lasts_19 rfl rfl) <| z_cons (ok_iconst (by decide) dX10_lasts_22 rfl rfl) <| z_cons (ok_iret rfl dX10_lasts_23 rfl) <| z_cons (ok_aload_n dX10_lasts_24 rfl rfl) <| z_cons (ok_getr (k := 0) ⟨by decide, by decide, by decide⟩ (ci := 8) (T := TX10) rfl rfl (Nat.le_of_ble_eq_true rfl) iw_X10 qw_616 gr_11_0 (fun _ _ => by simp) (fun w i => List.mem_of_getElem? (i := 0) rfl) dX10_lasts_25 rfl rfl) <| z_cons (ok_aload_n dX10_lasts_28 rfl rfl) <| z_cons (ok_getr (k := 1) ⟨by decide, by decide, by decide⟩ (ci := 8) (T := TX10) rfl rfl (Nat.le_of_ble_eq_true rfl) iw_X10 qw_834 gr_11_1 (fun _ _ => by simp) (fun w i => List.mem_of_getElem? (i := 1) rfl) dX10_lasts_29 rfl rfl) <| z_cons (ok_callS (k := 164) (n := 2) qw_835 qw_618 ⟨by decide +kernel, by decide +kernel, by decide +kernel⟩ (Nat.le_of_ble_eq_true rfl) qw_837 qw_836 dX10_lasts_32 rfl rfl) <| z_cons (ok_iconst (by decide) dX10_lasts_35 rfl rfl) <| z_cons (ok_istore_n (Nat.le_of_ble_eq_true rfl) dX10_lasts_36 rfl rfl) <| z_cons (ok_iload_n dX10_lasts_37 rfl rfl) <| z_cons (ok_sipush (by decide) dX10_lasts_38 rfl rfl) <| z_cons (ok_icmp_ge (tgt := 68) (by decide) rfl dX10_lasts_41 rfl rfl) <| z_cons (ok_aload_n dX10_lasts_44 rfl rfl) <| z_cons (ok_getr (k := 0) ⟨by decide, by decide, by decide⟩ (ci := 8) (T := TX10) rfl rfl (Nat.le_of_ble_eq_true rfl) iw_X10 qw_616 gr_11_0 (fun _ _ => by simp) (fun w i => List.mem_of_getElem? (i := 0) rfl) dX10_lasts_45 rfl rfl) <| z_cons (ok_sipush (by decide) dX10_lasts_48 rfl rfl) <| z_cons (ok_iload_n dX10_lasts_51 rfl rfl) <| z_cons (ok_iadd dX10_lasts_52 rfl rfl) <| z_cons (ok_iald dX10_lasts_53 rfl rfl) <| z_cons (ok_iconst (by decide) dX10_lasts_54 rfl rfl) <| z_cons (ok_icmp_ne (tgt := 68) (by decide) rfl dX10_lasts_55 rfl rfl) <| z_cons (ok_aload_n dX10_lasts_58 rfl rfl) <| z_cons (ok_callv ⟨by decide, by decide, by decide⟩ (ci := 8) (C := RX10) (T := TX10) rfl go_11 (k := 220) (n := 0) qw_806 qw_618 ⟨by decide +kernel, by decide +kernel, by decide +kernel⟩ (Nat.le_of_ble_eq_true rfl) qw_807 qw_808 qw_809 dX10_lasts_59 rfl rfl) <| z_cons (ok_iinc (by decide) (Nat.le_of_ble_eq_true rfl) dX10_lasts_62 rfl rfl) <| z_cons (ok_goto (tgt := 37) (by decide) rfl dX10_lasts_65 rfl) <| z_cons (ok_aload_n dX10_lasts_68 rfl rfl) <| z_cons (ok_getr (k := 0) ⟨by decide, by decide, by decide⟩ (ci := 8) (T := TX10) rfl rfl (Nat.le_of_ble_eq_true rfl) iw_X10 qw_616 gr_11_0 (fun _ _ => by simp) (fun w i => List.mem_of_getElem? (i := 0) rfl) dX10_lasts_69 rfl rfl) <| z_cons (ok_sipush (by decide) dX10_lasts_72 rfl rfl) <| z_cons (ok_iload_n dX10_lasts_75 rfl rfl) <| zl_X10_lasts_1
theorem dX10_choices_0 : decode cX10_choices 0 = .ok (.lconst 1, 1) := by decide +kernel
theorem dX10_choices_1 : decode cX10_choices 1 = .ok (.lstore_n 2, 1) := by decide +kernel
theorem dX10_choices_2 : decode cX10_choices 2 = .ok (.iconst 0, 1) := by decide +kernel
theorem dX10_choices_3 : decode cX10_choices 3 = .ok (.istore 4, 2) := by decide +kernel
theorem dX10_choices_5 : decode cX10_choices 5 = .ok (.iload 4, 2) := by decide +kernel
theorem dX10_choices_7 : decode cX10_choices 7 = .ok (.iload_n 1, 1) := by decide +kernel
theorem dX10_choices_8 : decode cX10_choices 8 = .ok (.if_icmp .ge 23, 3) := by decide +kernel
theorem dX10_choices_11 : decode cX10_choices 11 = .ok (.lload_n 2, 1) := by decide +kernel
theorem dX10_choices_12 : decode cX10_choices 12 = .ok (.iload_n 0, 1) := by decide +kernel
theorem dX10_choices_13 : decode cX10_choices 13 = .ok (.iload 4, 2) := by decide +kernel
theorem dX10_choices_15 : decode cX10_choices 15 = .ok (.isub, 1) := by decide +kernel
theorem dX10_choices_16 : decode cX10_choices 16 = .ok (.i2l, 1) := by decide +kernel
theorem dX10_choices_17 : decode cX10_choices 17 = .ok (.lmul, 1) := by decide +kernel
theorem dX10_choices_18 : decode cX10_choices 18 = .ok (.iload 4, 2) := by decide +kernel
theorem dX10_choices_20 : decode cX10_choices 20 = .ok (.iconst 1, 1) := by decide +kernel
theorem dX10_choices_21 : decode cX10_choices 21 = .ok (.iadd, 1) := by decide +kernel
theorem dX10_choices_22 : decode cX10_choices 22 = .ok (.i2l, 1) := by decide +kernel
theorem dX10_choices_23 : decode cX10_choices 23 = .ok (.ldiv, 1) := by decide +kernel
theorem dX10_choices_24 : decode cX10_choices 24 = .ok (.lstore_n 2, 1) := by decide +kernel
theorem dX10_choices_25 : decode cX10_choices 25 = .ok (.iinc 4 1, 3) := by decide +kernel
theorem dX10_choices_28 : decode cX10_choices 28 = .ok (.goto (-23), 3) := by decide +kernel
theorem dX10_choices_31 : decode cX10_choices 31 = .ok (.lload_n 2, 1) := by decide +kernel
theorem dX10_choices_32 : decode cX10_choices 32 = .ok (.lreturn, 1) := by decide +kernel
set_option maxRecDepth 20000 in
theorem zl_X10_choices_0 : z_All z_tab cX10_choices 5 (some .long) RX10 pc_X10_choices 0 (k_X10_choices.drop 0) := z_cons (ok_lconst (by decide) dX10_choices_0 rfl rfl) <| z_cons (ok_lstore_n (Nat.le_of_ble_eq_true rfl) dX10_choices_1 rfl rfl) <| z_cons (ok_iconst (by decide) dX10_choices_2 rfl rfl) <| z_cons (ok_istore (Nat.le_of_ble_eq_true rfl) dX10_choices_3 rfl rfl) <| z_cons (ok_iload dX10_choices_5 rfl rfl) <| z_cons (ok_iload_n dX10_choices_7 rfl rfl) <| z_cons (ok_icmp_ge (tgt := 31) (by decide) rfl dX10_choices_8 rfl rfl) <| z_cons (ok_lload_n dX10_choices_11 rfl rfl) <| z_cons (ok_iload_n dX10_choices_12 rfl rfl) <| z_cons (ok_iload dX10_choices_13 rfl rfl) <| z_cons (ok_isub dX10_choices_15 rfl rfl) <| z_cons (ok_i2l dX10_choices_16 rfl rfl) <| z_cons (ok_lmul dX10_choices_17 rfl rfl) <| z_cons (ok_iload dX10_choices_18 rfl rfl) <| z_cons (ok_iconst (by decide) dX10_choices_20 rfl rfl) <| z_cons (ok_iadd dX10_choices_21 rfl rfl) <| z_cons (ok_i2l dX10_choices_22 rfl rfl) <| z_cons (ok_ldiv dX10_choices_23 rfl rfl) <| z_cons (ok_lstore_n (Nat.le_of_ble_eq_true rfl) dX10_choices_24 rfl rfl) <| z_cons (ok_iinc (by decide) (Nat.le_of_ble_eq_true rfl) dX10_choices_25 rfl rfl) <| z_cons (ok_goto (tgt := 5) (by decide) rfl dX10_choices_28 rfl) <| z_cons (ok_lload_n dX10_choices_31 rfl rfl) <| z_cons (ok_lret rfl dX10_choices_32 rfl) <| z_nil
theorem dX10_times_0 : decode cX10_times 0 = .ok (.lconst 1, 1) := by decide +kernel
theorem dX10_times_1 : decode cX10_times 1 = .ok (.lstore_n 3, 1) := by decide +kernel
theorem dX10_times_2 : decode cX10_times 2 = .ok (.iconst 0, 1) := by decide +kernel
theorem dX10_times_3 : decode cX10_times 3 = .ok (.istore 5, 2) := by decide +kernel
theorem dX10_times_5 : decode cX10_times 5 = .ok (.iload 5, 2) := by decide +kernel
theorem dX10_times_7 : decode cX10_times 7 = .ok (.iload_n 2, 1) := by decide +kernel
theorem dX10_times_8 : decode cX10_times 8 = .ok (.if_icmp .ge 13, 3) := by decide +kernel
theorem dX10_times_11 : decode cX10_times 11 = .ok (.lload_n 3, 1) := by decide +kernel
theorem dX10_times_12 : decode cX10_times 12 = .ok (.lload_n 0, 1) := by decide +kernel
theorem dX10_times_13 : decode cX10_times 13 = .ok (.lmul, 1) := by decide +kernel
theorem dX10_times_14 : decode cX10_times 14 = .ok (.lstore_n 3, 1) := by decide +kernel
theorem dX10_times_15 : decode cX10_times 15 = .ok (.iinc 5 1, 3) := by decide +kernel
theorem dX10_times_18 : decode cX10_times 18 = .ok (.goto (-13), 3) := by decide +kernel
theorem dX10_times_21 : decode cX10_times 21 = .ok (.lload_n 3, 1) := by decide +kernel
theorem dX10_times_22 : decode cX10_times 22 = .ok (.lreturn, 1) := by decide +kernel
set_option maxRecDepth 20000 in
theorem zl_X10_times_0 : z_All z_tab cX10_times 6 (some .long) RX10 pc_X10_times 0 (k_X10_times.drop 0) := z_cons (ok_lconst (by decide) dX10_times_0 rfl rfl) <| z_cons (ok_lstore_n (Nat.le_of_ble_eq_true rfl) dX10_times_1 rfl rfl) <| z_cons (ok_iconst (by decide) dX10_times_2 rfl rfl) <| z_cons (ok_istore (Nat.le_of_ble_eq_true rfl) dX10_times_3 rfl rfl) <| z_cons (ok_iload dX10_times_5 rfl rfl) <| z_cons (ok_iload_n dX10_times_7 rfl rfl) <| z_cons (ok_icmp_ge (tgt := 21) (by decide) rfl dX10_times_8 rfl rfl) <| z_cons (ok_lload_n dX10_times_11 rfl rfl) <| z_cons (ok_lload_n dX10_times_12 rfl rfl) <| z_cons (ok_lmul dX10_times_13 rfl rfl) <| z_cons (ok_lstore_n (Nat.le_of_ble_eq_true rfl) dX10_times_14 rfl rfl) <| z_cons (ok_iinc (by decide) (Nat.le_of_ble_eq_true rfl) dX10_times_15 rfl rfl) <| z_cons (ok_goto (tgt := 5) (by decide) rfl dX10_times_18 rfl) <| z_cons (ok_lload_n dX10_times_21 rfl rfl) <| z_cons (ok_lret rfl dX10_times_22 rfl) <| z_nil
