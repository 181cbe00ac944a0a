/-! The law: its instructions, its calls -/
theorem dl_231 : decode code 231 = .ok (.iconst 2, 1) := by decide +kernel
theorem dl_232 : decode code 232 = .ok (.iadd, 1) := by decide +kernel
theorem dl_233 : decode code 233 = .ok (.iaload, 1) := by decide +kernel
theorem dl_234 : decode code 234 = .ok (.invokevirtual 39, 3) := by decide +kernel
theorem dl_237 : decode code 237 = .ok (.if_icmp .eq 160, 3) := by decide +kernel
theorem dl_240 : decode code 240 = .ok (.iconst 0, 1) := by decide +kernel
theorem dl_241 : decode code 241 = .ok (.ireturn, 1) := by decide +kernel
theorem dl_242 : decode code 242 = .ok (.aload_n 1, 1) := by decide +kernel
theorem dl_243 : decode code 243 = .ok (.aload_n 0, 1) := by decide +kernel
theorem dl_244 : decode code 244 = .ok (.iload_n 3, 1) := by decide +kernel
theorem dl_245 : decode code 245 = .ok (.iconst 1, 1) := by decide +kernel
theorem dl_246 : decode code 246 = .ok (.iadd, 1) := by decide +kernel
theorem dl_247 : decode code 247 = .ok (.iaload, 1) := by decide +kernel
theorem dl_248 : decode code 248 = .ok (.invokevirtual 40, 3) := by decide +kernel
theorem dl_251 : decode code 251 = .ok (.aload_n 2, 1) := by decide +kernel
theorem dl_252 : decode code 252 = .ok (.aload_n 0, 1) := by decide +kernel
theorem dl_253 : decode code 253 = .ok (.iload_n 3, 1) := by decide +kernel
theorem dl_254 : decode code 254 = .ok (.iconst 1, 1) := by decide +kernel
theorem dl_255 : decode code 255 = .ok (.iadd, 1) := by decide +kernel
theorem dl_256 : decode code 256 = .ok (.iaload, 1) := by decide +kernel
theorem dl_257 : decode code 257 = .ok (.invokevirtual 43, 3) := by decide +kernel
theorem dl_260 : decode code 260 = .ok (.if_icmp .eq 137, 3) := by decide +kernel
theorem dl_263 : decode code 263 = .ok (.iconst 0, 1) := by decide +kernel
theorem dl_264 : decode code 264 = .ok (.ireturn, 1) := by decide +kernel
theorem dl_265 : decode code 265 = .ok (.aload_n 1, 1) := by decide +kernel
theorem dl_266 : decode code 266 = .ok (.invokevirtual 44, 3) := by decide +kernel
theorem dl_269 : decode code 269 = .ok (.aload_n 2, 1) := by decide +kernel
theorem dl_270 : decode code 270 = .ok (.invokevirtual 47, 3) := by decide +kernel
theorem dl_273 : decode code 273 = .ok (.if_icmp .eq 124, 3) := by decide +kernel
theorem dl_276 : decode code 276 = .ok (.iconst 0, 1) := by decide +kernel
theorem dl_277 : decode code 277 = .ok (.ireturn, 1) := by decide +kernel
theorem dl_278 : decode code 278 = .ok (.aload_n 1, 1) := by decide +kernel
theorem dl_279 : decode code 279 = .ok (.aload_n 0, 1) := by decide +kernel
theorem dl_280 : decode code 280 = .ok (.iload_n 3, 1) := by decide +kernel
theorem dl_281 : decode code 281 = .ok (.iconst 1, 1) := by decide +kernel
theorem dl_282 : decode code 282 = .ok (.iadd, 1) := by decide +kernel
theorem dl_283 : decode code 283 = .ok (.iaload, 1) := by decide +kernel
theorem dl_284 : decode code 284 = .ok (.invokevirtual 48, 3) := by decide +kernel
theorem dl_287 : decode code 287 = .ok (.aload_n 2, 1) := by decide +kernel
theorem dl_288 : decode code 288 = .ok (.aload_n 0, 1) := by decide +kernel
theorem dl_289 : decode code 289 = .ok (.iload_n 3, 1) := by decide +kernel
theorem dl_290 : decode code 290 = .ok (.iconst 1, 1) := by decide +kernel
theorem dl_291 : decode code 291 = .ok (.iadd, 1) := by decide +kernel
theorem dl_292 : decode code 292 = .ok (.iaload, 1) := by decide +kernel
theorem dl_293 : decode code 293 = .ok (.invokevirtual 51, 3) := by decide +kernel
theorem dl_296 : decode code 296 = .ok (.if_icmp .eq 101, 3) := by decide +kernel
theorem dl_299 : decode code 299 = .ok (.iconst 0, 1) := by decide +kernel
theorem dl_300 : decode code 300 = .ok (.ireturn, 1) := by decide +kernel
theorem dl_301 : decode code 301 = .ok (.aload_n 1, 1) := by decide +kernel
theorem dl_302 : decode code 302 = .ok (.aload_n 0, 1) := by decide +kernel
theorem dl_303 : decode code 303 = .ok (.iload_n 3, 1) := by decide +kernel
theorem dl_304 : decode code 304 = .ok (.iconst 1, 1) := by decide +kernel
theorem dl_305 : decode code 305 = .ok (.iadd, 1) := by decide +kernel
theorem dl_306 : decode code 306 = .ok (.iaload, 1) := by decide +kernel
theorem dl_307 : decode code 307 = .ok (.invokevirtual 52, 3) := by decide +kernel
theorem dl_310 : decode code 310 = .ok (.aload_n 2, 1) := by decide +kernel
theorem dl_311 : decode code 311 = .ok (.aload_n 0, 1) := by decide +kernel
theorem dl_312 : decode code 312 = .ok (.iload_n 3, 1) := by decide +kernel
theorem dl_313 : decode code 313 = .ok (.iconst 1, 1) := by decide +kernel
theorem dl_314 : decode code 314 = .ok (.iadd, 1) := by decide +kernel
theorem dl_315 : decode code 315 = .ok (.iaload, 1) := by decide +kernel
theorem dl_316 : decode code 316 = .ok (.invokevirtual 55, 3) := by decide +kernel
theorem dl_319 : decode code 319 = .ok (.if_icmp .eq 78, 3) := by decide +kernel
theorem dl_322 : decode code 322 = .ok (.iconst 0, 1) := by decide +kernel
theorem dl_323 : decode code 323 = .ok (.ireturn, 1) := by decide +kernel
theorem dl_324 : decode code 324 = .ok (.aload_n 1, 1) := by decide +kernel
theorem dl_325 : decode code 325 = .ok (.aload_n 0, 1) := by decide +kernel
theorem dl_326 : decode code 326 = .ok (.iload_n 3, 1) := by decide +kernel
theorem dl_327 : decode code 327 = .ok (.iconst 1, 1) := by decide +kernel
theorem dl_328 : decode code 328 = .ok (.iadd, 1) := by decide +kernel
theorem dl_329 : decode code 329 = .ok (.iaload, 1) := by decide +kernel
theorem dl_330 : decode code 330 = .ok (.invokevirtual 56, 3) := by decide +kernel
theorem dl_333 : decode code 333 = .ok (.aload_n 2, 1) := by decide +kernel
theorem dl_334 : decode code 334 = .ok (.aload_n 0, 1) := by decide +kernel
theorem dl_335 : decode code 335 = .ok (.iload_n 3, 1) := by decide +kernel
theorem dl_336 : decode code 336 = .ok (.iconst 1, 1) := by decide +kernel
theorem dl_337 : decode code 337 = .ok (.iadd, 1) := by decide +kernel
theorem dl_338 : decode code 338 = .ok (.iaload, 1) := by decide +kernel
theorem dl_339 : decode code 339 = .ok (.invokevirtual 59, 3) := by decide +kernel
theorem dl_342 : decode code 342 = .ok (.if_icmp .eq 55, 3) := by decide +kernel
theorem dl_345 : decode code 345 = .ok (.iconst 0, 1) := by decide +kernel
theorem dl_346 : decode code 346 = .ok (.ireturn, 1) := by decide +kernel
theorem dl_347 : decode code 347 = .ok (.aload_n 1, 1) := by decide +kernel
theorem dl_348 : decode code 348 = .ok (.invokevirtual 60, 3) := by decide +kernel
theorem dl_351 : decode code 351 = .ok (.aload_n 2, 1) := by decide +kernel
theorem dl_352 : decode code 352 = .ok (.invokevirtual 63, 3) := by decide +kernel
theorem dl_355 : decode code 355 = .ok (.if_icmp .eq 42, 3) := by decide +kernel
theorem dl_358 : decode code 358 = .ok (.iconst 0, 1) := by decide +kernel
theorem dl_359 : decode code 359 = .ok (.ireturn, 1) := by decide +kernel
theorem dl_360 : decode code 360 = .ok (.aload_n 1, 1) := by decide +kernel
theorem dl_361 : decode code 361 = .ok (.aload_n 0, 1) := by decide +kernel
theorem dl_362 : decode code 362 = .ok (.iload_n 3, 1) := by decide +kernel
theorem dl_363 : decode code 363 = .ok (.iconst 1, 1) := by decide +kernel
theorem dl_364 : decode code 364 = .ok (.iadd, 1) := by decide +kernel
theorem dl_365 : decode code 365 = .ok (.iaload, 1) := by decide +kernel
theorem dl_366 : decode code 366 = .ok (.invokevirtual 64, 3) := by decide +kernel
theorem dl_369 : decode code 369 = .ok (.aload_n 2, 1) := by decide +kernel
theorem dl_370 : decode code 370 = .ok (.aload_n 0, 1) := by decide +kernel
theorem dl_371 : decode code 371 = .ok (.iload_n 3, 1) := by decide +kernel
theorem dl_372 : decode code 372 = .ok (.iconst 1, 1) := by decide +kernel
theorem dl_373 : decode code 373 = .ok (.iadd, 1) := by decide +kernel
theorem dl_374 : decode code 374 = .ok (.iaload, 1) := by decide +kernel
theorem dl_375 : decode code 375 = .ok (.invokevirtual 67, 3) := by decide +kernel
theorem dl_378 : decode code 378 = .ok (.if_icmp .eq 19, 3) := by decide +kernel
theorem dl_381 : decode code 381 = .ok (.iconst 0, 1) := by decide +kernel
theorem dl_382 : decode code 382 = .ok (.ireturn, 1) := by decide +kernel
theorem dl_383 : decode code 383 = .ok (.aload_n 1, 1) := by decide +kernel
theorem dl_384 : decode code 384 = .ok (.invokevirtual 68, 3) := by decide +kernel
theorem dl_387 : decode code 387 = .ok (.aload_n 2, 1) := by decide +kernel
theorem dl_388 : decode code 388 = .ok (.invokevirtual 72, 3) := by decide +kernel
theorem dl_391 : decode code 391 = .ok (.lcmp, 1) := by decide +kernel
theorem dl_392 : decode code 392 = .ok (.ifCond .eq 5, 3) := by decide +kernel
theorem dl_395 : decode code 395 = .ok (.iconst 0, 1) := by decide +kernel
theorem dl_396 : decode code 396 = .ok (.ireturn, 1) := by decide +kernel
theorem dl_397 : decode code 397 = .ok (.iinc 3 3, 3) := by decide +kernel
theorem dl_400 : decode code 400 = .ok (.goto (-382), 3) := by decide +kernel
theorem dl_403 : decode code 403 = .ok (.iconst 1, 1) := by decide +kernel
theorem dl_404 : decode code 404 = .ok (.ireturn, 1) := by decide +kernel
/-- the calls of the law: entry, method, places of its words -/
def lTab : List (Nat × Nat × Nat × Nat × Nat) := [(13, 32, 506, 507, 508), (17, 103, 916, 917, 918), (18, 35, 518, 519, 520), (22, 106, 928, 929, 930), (23, 36, 522, 523, 524), (26, 107, 932, 933, 934), (27, 56, 605, 606, 607), (30, 119, 980, 981, 982), (31, 57, 611, 612, 613), (35, 121, 988, 989, 990), (36, 64, 639, 640, 641), (39, 133, 1037, 1038, 1039), (40, 75, 692, 693, 694), (43, 136, 1050, 1051, 1052), (44, 86, 743, 744, 745), (47, 143, 1079, 1080, 1081), (48, 89, 755, 756, 757), (51, 146, 1093, 1094, 1095), (52, 92, 768, 769, 770), (55, 149, 1105, 1106, 1107), (56, 94, 776, 777, 778), (59, 150, 1110, 1111, 1112), (60, 95, 780, 781, 782), (63, 152, 1118, 1119, 1120), (64, 97, 788, 789, 790), (67, 153, 1122, 1123, 1124), (68, 99, 796, 797, 798), (72, 155, 1131, 1132, 1133)]
def lOkB (q : Nat × Nat × Nat × Nat × Nat) : Bool := decide (q.2.1 < mN) && (lw_tbl[q.2.2.1]? == some (Cond.methodLink R_law q.1 (mY q.2.1))) && (lw_tbl[q.2.2.2.1]? == some (Cond.instanceMethod (mY q.2.1))) && (lw_tbl[q.2.2.2.2]? == some (Cond.selects (mY q.2.1).cls (mY q.2.1) (mY q.2.1)))
theorem lOk : lTab.all lOkB = true := by decide +kernel
theorem lTab_ok {idx μ a b c : Nat} (hf : (idx, μ, a, b, c) ∈ lTab) : μ < mN ∧ Cond.methodLink R_law idx (mY μ) ∈ lw_tbl ∧ Cond.instanceMethod (mY μ) ∈ lw_tbl ∧ Cond.selects (mY μ).cls (mY μ) (mY μ) ∈ lw_tbl := by
  have h := List.all_eq_true.mp lOk _ hf
  simp only [lOkB, Bool.and_eq_true, decide_eq_true_eq, beq_iff_eq] at h
  obtain ⟨⟨⟨h1, h2⟩, h3⟩, h4⟩ := h
  exact ⟨h1, List.mem_of_getElem? h2, List.mem_of_getElem? h3, List.mem_of_getElem? h4⟩
theorem clInst : ∀ ci, ci < 11 → Cond.instantiable (clT ci).1 (clT ci).2.2 ∈ lw_tbl := by decide +kernel
theorem lwNew : (Cond.classLink R_law 7 (clT 9).1 ∈ lw_tbl ∧ Cond.initialized (clT 9).1 ∈ lw_tbl) ∧ (Cond.classLink R_law 10 (clT 10).1 ∈ lw_tbl ∧ Cond.initialized (clT 10).1 ∈ lw_tbl) := by decide +kernel
theorem lwIni : (Cond.methodLink R_law 9 (mY 0) ∈ lw_tbl ∧ Cond.instanceMethod (mY 0) ∈ lw_tbl) ∧ (Cond.methodLink R_law 12 (mY 100) ∈ lw_tbl ∧ Cond.instanceMethod (mY 100) ∈ lw_tbl) := by decide +kernel
theorem lwArr : (Cond.arrayClass .byte ∈ lw_tbl ∧ Cond.arrayClass .int ∈ lw_tbl ∧ Cond.arrayClass .long ∈ lw_tbl) ∧ Cond.arrayOver (.object "ResidualJudge$Machine") ∈ lw_tbl ∧ Cond.arrayOver (.object "ResidualJudge$Scene") ∈ lw_tbl := by decide +kernel
