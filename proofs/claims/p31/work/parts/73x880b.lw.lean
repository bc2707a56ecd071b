/-! PC: the law, stretch by stretch, by program -/
section LWS
theorem at_373_288 : mjAtI 373 288 = some (.aload_n 1, 1, 0, 0, 0) := by decide +kernel
theorem at_373_289 : mjAtI 373 289 = some (.aload_n 0, 1, 0, 0, 0) := by decide +kernel
theorem at_373_290 : mjAtI 373 290 = some (.iload 4, 2, 0, 0, 0) := by decide +kernel
theorem at_373_292 : mjAtI 373 292 = some (.iconst 1, 1, 0, 0, 0) := by decide +kernel
theorem at_373_293 : mjAtI 373 293 = some (.iadd, 1, 0, 0, 0) := by decide +kernel
theorem at_373_294 : mjAtI 373 294 = some (.iaload, 1, 0, 0, 0) := by decide +kernel
theorem at_373_295 : mjAtI 373 295 = some (.aload_n 0, 1, 0, 0, 0) := by decide +kernel
theorem at_373_296 : mjAtI 373 296 = some (.iload 4, 2, 0, 0, 0) := by decide +kernel
theorem at_373_298 : mjAtI 373 298 = some (.iconst 2, 1, 0, 0, 0) := by decide +kernel
theorem at_373_299 : mjAtI 373 299 = some (.iadd, 1, 0, 0, 0) := by decide +kernel
theorem at_373_300 : mjAtI 373 300 = some (.iaload, 1, 0, 0, 0) := by decide +kernel
theorem at_373_301 : mjAtI 373 301 = some (.aload_n 0, 1, 0, 0, 0) := by decide +kernel
theorem at_373_302 : mjAtI 373 302 = some (.iload 4, 2, 0, 0, 0) := by decide +kernel
theorem at_373_304 : mjAtI 373 304 = some (.iconst 3, 1, 0, 0, 0) := by decide +kernel
theorem at_373_305 : mjAtI 373 305 = some (.iadd, 1, 0, 0, 0) := by decide +kernel
theorem at_373_306 : mjAtI 373 306 = some (.iaload, 1, 0, 0, 0) := by decide +kernel
theorem at_373_307 : mjAtI 373 307 = some (.aload_n 0, 1, 0, 0, 0) := by decide +kernel
theorem at_373_308 : mjAtI 373 308 = some (.iload 4, 2, 0, 0, 0) := by decide +kernel
theorem at_373_310 : mjAtI 373 310 = some (.iconst 4, 1, 0, 0, 0) := by decide +kernel
theorem at_373_311 : mjAtI 373 311 = some (.iadd, 1, 0, 0, 0) := by decide +kernel
theorem at_373_312 : mjAtI 373 312 = some (.iaload, 1, 0, 0, 0) := by decide +kernel
theorem at_373_313 : mjAtI 373 313 = some (.aload_n 0, 1, 0, 0, 0) := by decide +kernel
theorem at_373_314 : mjAtI 373 314 = some (.iload 4, 2, 0, 0, 0) := by decide +kernel
theorem at_373_316 : mjAtI 373 316 = some (.iconst 5, 1, 0, 0, 0) := by decide +kernel
theorem at_373_317 : mjAtI 373 317 = some (.iadd, 1, 0, 0, 0) := by decide +kernel
theorem at_373_318 : mjAtI 373 318 = some (.iaload, 1, 0, 0, 0) := by decide +kernel
theorem at_373_319 : mjAtI 373 319 = some (.invokevirtual 157, 3, 113, 0, 433) := by decide +kernel
theorem kc_373_319 : kCall (.invokevirtual 157) 113 373 = true ∧ kArg 113 = 6 := by decide +kernel
theorem la_0 {m : Nat} {L : mjL} {H H' : mjH} {r : Option Value ⊕ Nat} {xs : List Int32} {i : Int32} (hT : HT H) (hL : LG L [(0, .ref 3000000), (1, .ref 0), (2, .ref 78), (3, .ref 578), (4, .int i)]) (h : Pn (some xs) m 373 288 L [] H r H') : ∃ y0, (¬ (i + (Int32.ofInt 1)) < 0 ∧ xs[(i + (Int32.ofInt 1)).toNatClampNeg]? = some y0) ∧ ∃ y1, (¬ (i + (Int32.ofInt 2)) < 0 ∧ xs[(i + (Int32.ofInt 2)).toNatClampNeg]? = some y1) ∧ ∃ y2, (¬ (i + (Int32.ofInt 3)) < 0 ∧ xs[(i + (Int32.ofInt 3)).toNatClampNeg]? = some y2) ∧ ∃ y3, (¬ (i + (Int32.ofInt 4)) < 0 ∧ xs[(i + (Int32.ofInt 4)).toNatClampNeg]? = some y3) ∧ ∃ y4, (¬ (i + (Int32.ofInt 5)) < 0 ∧ xs[(i + (Int32.ofInt 5)).toNatClampNeg]? = some y4) ∧ ∃ L', LG L' [(0, .ref 3000000), (1, .ref 0), (2, .ref 78), (3, .ref 578), (4, .int i)] ∧ ∃ r2 H2, Pn none m 113 0 [(0, .ref 0), (1, .int y0), (2, .int y1), (3, .int y2), (4, .int y3), (5, .int y4)] [] H r2 H2 ∧ ((∃ cv, r2 = .inl cv ∧ Pn (some xs) m 373 322 L' (cv.toList ++ []) H2 r H') ∨ (∃ E, r2 = .inr E ∧ r = .inr E ∧ H' = H2)) := by
  obtain ⟨g0, g1, g2, g3, g4, -⟩ := hL
  have h : Pn (some xs) m 373 289 L [.ref 0] H r H' := pnLrn g1 h at_373_288
  have h : Pn (some xs) m 373 290 L [.ref 3000000, .ref 0] H r H' := pnLrn g0 h at_373_289
  have h : Pn (some xs) m 373 292 L [.int i, .ref 3000000, .ref 0] H r H' := pnLi g4 h at_373_290
  have h : Pn (some xs) m 373 293 L [.int (Int32.ofInt 1), .int i, .ref 3000000, .ref 0] H r H' := pnA h at_373_292 rfl rfl
  have h : Pn (some xs) m 373 294 L [.int (i + (Int32.ofInt 1)), .ref 3000000, .ref 0] H r H' := pnA h at_373_293 rfl rfl
  obtain ⟨y0, zy0, h⟩ := pnSa h at_373_294
  have h : Pn (some xs) m 373 295 L [.int y0, .ref 0] H r H' := h
  refine ⟨y0, zy0, ?_⟩
  have h : Pn (some xs) m 373 296 L [.ref 3000000, .int y0, .ref 0] H r H' := pnLrn g0 h at_373_295
  have h : Pn (some xs) m 373 298 L [.int i, .ref 3000000, .int y0, .ref 0] H r H' := pnLi g4 h at_373_296
  have h : Pn (some xs) m 373 299 L [.int (Int32.ofInt 2), .int i, .ref 3000000, .int y0, .ref 0] H r H' := pnA h at_373_298 rfl rfl
  have h : Pn (some xs) m 373 300 L [.int (i + (Int32.ofInt 2)), .ref 3000000, .int y0, .ref 0] H r H' := pnA h at_373_299 rfl rfl
  obtain ⟨y1, zy1, h⟩ := pnSa h at_373_300
  have h : Pn (some xs) m 373 301 L [.int y1, .int y0, .ref 0] H r H' := h
  refine ⟨y1, zy1, ?_⟩
  have h : Pn (some xs) m 373 302 L [.ref 3000000, .int y1, .int y0, .ref 0] H r H' := pnLrn g0 h at_373_301
  have h : Pn (some xs) m 373 304 L [.int i, .ref 3000000, .int y1, .int y0, .ref 0] H r H' := pnLi g4 h at_373_302
  have h : Pn (some xs) m 373 305 L [.int (Int32.ofInt 3), .int i, .ref 3000000, .int y1, .int y0, .ref 0] H r H' := pnA h at_373_304 rfl rfl
  have h : Pn (some xs) m 373 306 L [.int (i + (Int32.ofInt 3)), .ref 3000000, .int y1, .int y0, .ref 0] H r H' := pnA h at_373_305 rfl rfl
  obtain ⟨y2, zy2, h⟩ := pnSa h at_373_306
  have h : Pn (some xs) m 373 307 L [.int y2, .int y1, .int y0, .ref 0] H r H' := h
  refine ⟨y2, zy2, ?_⟩
  have h : Pn (some xs) m 373 308 L [.ref 3000000, .int y2, .int y1, .int y0, .ref 0] H r H' := pnLrn g0 h at_373_307
  have h : Pn (some xs) m 373 310 L [.int i, .ref 3000000, .int y2, .int y1, .int y0, .ref 0] H r H' := pnLi g4 h at_373_308
  have h : Pn (some xs) m 373 311 L [.int (Int32.ofInt 4), .int i, .ref 3000000, .int y2, .int y1, .int y0, .ref 0] H r H' := pnA h at_373_310 rfl rfl
  have h : Pn (some xs) m 373 312 L [.int (i + (Int32.ofInt 4)), .ref 3000000, .int y2, .int y1, .int y0, .ref 0] H r H' := pnA h at_373_311 rfl rfl
  obtain ⟨y3, zy3, h⟩ := pnSa h at_373_312
  have h : Pn (some xs) m 373 313 L [.int y3, .int y2, .int y1, .int y0, .ref 0] H r H' := h
  refine ⟨y3, zy3, ?_⟩
  have h : Pn (some xs) m 373 314 L [.ref 3000000, .int y3, .int y2, .int y1, .int y0, .ref 0] H r H' := pnLrn g0 h at_373_313
  have h : Pn (some xs) m 373 316 L [.int i, .ref 3000000, .int y3, .int y2, .int y1, .int y0, .ref 0] H r H' := pnLi g4 h at_373_314
  have h : Pn (some xs) m 373 317 L [.int (Int32.ofInt 5), .int i, .ref 3000000, .int y3, .int y2, .int y1, .int y0, .ref 0] H r H' := pnA h at_373_316 rfl rfl
  have h : Pn (some xs) m 373 318 L [.int (i + (Int32.ofInt 5)), .ref 3000000, .int y3, .int y2, .int y1, .int y0, .ref 0] H r H' := pnA h at_373_317 rfl rfl
  obtain ⟨y4, zy4, h⟩ := pnSa h at_373_318
  have h : Pn (some xs) m 373 319 L [.int y4, .int y3, .int y2, .int y1, .int y0, .ref 0] H r H' := h
  refine ⟨y4, zy4, ?_⟩
  obtain ⟨r2, H2, q, h⟩ := pnC h at_373_319 kc_373_319.1 kc_373_319.2 (as := [.ref 0, .int y0, .int y1, .int y2, .int y3, .int y4]) (rest := []) rfl
  have q : Pn none m 113 0 [(0, .ref 0), (1, .int y0), (2, .int y1), (3, .int y2), (4, .int y3), (5, .int y4)] [] H r2 H2 := q
  exact ⟨_, ⟨g0, g1, g2, g3, g4, trivial⟩, r2, H2, q, h⟩
theorem at_373_322 : mjAtI 373 322 = some (.pop, 1, 0, 0, 0) := by decide +kernel
theorem at_373_323 : mjAtI 373 323 = some (.aload_n 2, 1, 0, 0, 0) := by decide +kernel
theorem at_373_324 : mjAtI 373 324 = some (.aload_n 0, 1, 0, 0, 0) := by decide +kernel
theorem at_373_325 : mjAtI 373 325 = some (.iload 4, 2, 0, 0, 0) := by decide +kernel
theorem at_373_327 : mjAtI 373 327 = some (.iconst 1, 1, 0, 0, 0) := by decide +kernel
theorem at_373_328 : mjAtI 373 328 = some (.iadd, 1, 0, 0, 0) := by decide +kernel
theorem at_373_329 : mjAtI 373 329 = some (.iaload, 1, 0, 0, 0) := by decide +kernel
theorem at_373_330 : mjAtI 373 330 = some (.aload_n 0, 1, 0, 0, 0) := by decide +kernel
theorem at_373_331 : mjAtI 373 331 = some (.iload 4, 2, 0, 0, 0) := by decide +kernel
theorem at_373_333 : mjAtI 373 333 = some (.iconst 2, 1, 0, 0, 0) := by decide +kernel
theorem at_373_334 : mjAtI 373 334 = some (.iadd, 1, 0, 0, 0) := by decide +kernel
theorem at_373_335 : mjAtI 373 335 = some (.iaload, 1, 0, 0, 0) := by decide +kernel
theorem at_373_336 : mjAtI 373 336 = some (.aload_n 0, 1, 0, 0, 0) := by decide +kernel
theorem at_373_337 : mjAtI 373 337 = some (.iload 4, 2, 0, 0, 0) := by decide +kernel
theorem at_373_339 : mjAtI 373 339 = some (.iconst 3, 1, 0, 0, 0) := by decide +kernel
theorem at_373_340 : mjAtI 373 340 = some (.iadd, 1, 0, 0, 0) := by decide +kernel
theorem at_373_341 : mjAtI 373 341 = some (.iaload, 1, 0, 0, 0) := by decide +kernel
theorem at_373_342 : mjAtI 373 342 = some (.aload_n 0, 1, 0, 0, 0) := by decide +kernel
theorem at_373_343 : mjAtI 373 343 = some (.iload 4, 2, 0, 0, 0) := by decide +kernel
theorem at_373_345 : mjAtI 373 345 = some (.iconst 4, 1, 0, 0, 0) := by decide +kernel
theorem at_373_346 : mjAtI 373 346 = some (.iadd, 1, 0, 0, 0) := by decide +kernel
theorem at_373_347 : mjAtI 373 347 = some (.iaload, 1, 0, 0, 0) := by decide +kernel
theorem at_373_348 : mjAtI 373 348 = some (.aload_n 0, 1, 0, 0, 0) := by decide +kernel
theorem at_373_349 : mjAtI 373 349 = some (.iload 4, 2, 0, 0, 0) := by decide +kernel
theorem at_373_351 : mjAtI 373 351 = some (.iconst 5, 1, 0, 0, 0) := by decide +kernel
theorem at_373_352 : mjAtI 373 352 = some (.iadd, 1, 0, 0, 0) := by decide +kernel
theorem at_373_353 : mjAtI 373 353 = some (.iaload, 1, 0, 0, 0) := by decide +kernel
theorem at_373_354 : mjAtI 373 354 = some (.invokevirtual 161, 3, 199, 0, 1796) := by decide +kernel
theorem kc_373_354 : kCall (.invokevirtual 161) 199 373 = true ∧ kArg 199 = 6 := by decide +kernel
theorem lb_0 {m : Nat} {L : mjL} {H H' : mjH} {r : Option Value ⊕ Nat} {xs : List Int32} {i : Int32} {s0 : Int32} (hT : HT H) (hL : LG L [(0, .ref 3000000), (1, .ref 0), (2, .ref 78), (3, .ref 578), (4, .int i)]) (h : Pn (some xs) m 373 322 L [.int s0] H r H') : ∃ y0, (¬ (i + (Int32.ofInt 1)) < 0 ∧ xs[(i + (Int32.ofInt 1)).toNatClampNeg]? = some y0) ∧ ∃ y1, (¬ (i + (Int32.ofInt 2)) < 0 ∧ xs[(i + (Int32.ofInt 2)).toNatClampNeg]? = some y1) ∧ ∃ y2, (¬ (i + (Int32.ofInt 3)) < 0 ∧ xs[(i + (Int32.ofInt 3)).toNatClampNeg]? = some y2) ∧ ∃ y3, (¬ (i + (Int32.ofInt 4)) < 0 ∧ xs[(i + (Int32.ofInt 4)).toNatClampNeg]? = some y3) ∧ ∃ y4, (¬ (i + (Int32.ofInt 5)) < 0 ∧ xs[(i + (Int32.ofInt 5)).toNatClampNeg]? = some y4) ∧ ∃ L', LG L' [(0, .ref 3000000), (1, .ref 0), (2, .ref 78), (3, .ref 578), (4, .int i)] ∧ ∃ r2 H2, Pn none m 199 0 [(0, .ref 78), (1, .int y0), (2, .int y1), (3, .int y2), (4, .int y3), (5, .int y4)] [] H r2 H2 ∧ ((∃ cv, r2 = .inl cv ∧ Pn (some xs) m 373 357 L' (cv.toList ++ []) H2 r H') ∨ (∃ E, r2 = .inr E ∧ r = .inr E ∧ H' = H2)) := by
  obtain ⟨g0, g1, g2, g3, g4, -⟩ := hL
  have h : Pn (some xs) m 373 323 L [] H r H' := pnA h at_373_322 rfl rfl
  have h : Pn (some xs) m 373 324 L [.ref 78] H r H' := pnLrn g2 h at_373_323
  have h : Pn (some xs) m 373 325 L [.ref 3000000, .ref 78] H r H' := pnLrn g0 h at_373_324
  have h : Pn (some xs) m 373 327 L [.int i, .ref 3000000, .ref 78] H r H' := pnLi g4 h at_373_325
  have h : Pn (some xs) m 373 328 L [.int (Int32.ofInt 1), .int i, .ref 3000000, .ref 78] H r H' := pnA h at_373_327 rfl rfl
  have h : Pn (some xs) m 373 329 L [.int (i + (Int32.ofInt 1)), .ref 3000000, .ref 78] H r H' := pnA h at_373_328 rfl rfl
  obtain ⟨y0, zy0, h⟩ := pnSa h at_373_329
  have h : Pn (some xs) m 373 330 L [.int y0, .ref 78] H r H' := h
  refine ⟨y0, zy0, ?_⟩
  have h : Pn (some xs) m 373 331 L [.ref 3000000, .int y0, .ref 78] H r H' := pnLrn g0 h at_373_330
  have h : Pn (some xs) m 373 333 L [.int i, .ref 3000000, .int y0, .ref 78] H r H' := pnLi g4 h at_373_331
  have h : Pn (some xs) m 373 334 L [.int (Int32.ofInt 2), .int i, .ref 3000000, .int y0, .ref 78] H r H' := pnA h at_373_333 rfl rfl
  have h : Pn (some xs) m 373 335 L [.int (i + (Int32.ofInt 2)), .ref 3000000, .int y0, .ref 78] H r H' := pnA h at_373_334 rfl rfl
  obtain ⟨y1, zy1, h⟩ := pnSa h at_373_335
  have h : Pn (some xs) m 373 336 L [.int y1, .int y0, .ref 78] H r H' := h
  refine ⟨y1, zy1, ?_⟩
  have h : Pn (some xs) m 373 337 L [.ref 3000000, .int y1, .int y0, .ref 78] H r H' := pnLrn g0 h at_373_336
  have h : Pn (some xs) m 373 339 L [.int i, .ref 3000000, .int y1, .int y0, .ref 78] H r H' := pnLi g4 h at_373_337
  have h : Pn (some xs) m 373 340 L [.int (Int32.ofInt 3), .int i, .ref 3000000, .int y1, .int y0, .ref 78] H r H' := pnA h at_373_339 rfl rfl
  have h : Pn (some xs) m 373 341 L [.int (i + (Int32.ofInt 3)), .ref 3000000, .int y1, .int y0, .ref 78] H r H' := pnA h at_373_340 rfl rfl
  obtain ⟨y2, zy2, h⟩ := pnSa h at_373_341
  have h : Pn (some xs) m 373 342 L [.int y2, .int y1, .int y0, .ref 78] H r H' := h
  refine ⟨y2, zy2, ?_⟩
  have h : Pn (some xs) m 373 343 L [.ref 3000000, .int y2, .int y1, .int y0, .ref 78] H r H' := pnLrn g0 h at_373_342
  have h : Pn (some xs) m 373 345 L [.int i, .ref 3000000, .int y2, .int y1, .int y0, .ref 78] H r H' := pnLi g4 h at_373_343
  have h : Pn (some xs) m 373 346 L [.int (Int32.ofInt 4), .int i, .ref 3000000, .int y2, .int y1, .int y0, .ref 78] H r H' := pnA h at_373_345 rfl rfl
  have h : Pn (some xs) m 373 347 L [.int (i + (Int32.ofInt 4)), .ref 3000000, .int y2, .int y1, .int y0, .ref 78] H r H' := pnA h at_373_346 rfl rfl
  obtain ⟨y3, zy3, h⟩ := pnSa h at_373_347
  have h : Pn (some xs) m 373 348 L [.int y3, .int y2, .int y1, .int y0, .ref 78] H r H' := h
  refine ⟨y3, zy3, ?_⟩
  have h : Pn (some xs) m 373 349 L [.ref 3000000, .int y3, .int y2, .int y1, .int y0, .ref 78] H r H' := pnLrn g0 h at_373_348
  have h : Pn (some xs) m 373 351 L [.int i, .ref 3000000, .int y3, .int y2, .int y1, .int y0, .ref 78] H r H' := pnLi g4 h at_373_349
  have h : Pn (some xs) m 373 352 L [.int (Int32.ofInt 5), .int i, .ref 3000000, .int y3, .int y2, .int y1, .int y0, .ref 78] H r H' := pnA h at_373_351 rfl rfl
  have h : Pn (some xs) m 373 353 L [.int (i + (Int32.ofInt 5)), .ref 3000000, .int y3, .int y2, .int y1, .int y0, .ref 78] H r H' := pnA h at_373_352 rfl rfl
  obtain ⟨y4, zy4, h⟩ := pnSa h at_373_353
  have h : Pn (some xs) m 373 354 L [.int y4, .int y3, .int y2, .int y1, .int y0, .ref 78] H r H' := h
  refine ⟨y4, zy4, ?_⟩
  obtain ⟨r2, H2, q, h⟩ := pnC h at_373_354 kc_373_354.1 kc_373_354.2 (as := [.ref 78, .int y0, .int y1, .int y2, .int y3, .int y4]) (rest := []) rfl
  have q : Pn none m 199 0 [(0, .ref 78), (1, .int y0), (2, .int y1), (3, .int y2), (4, .int y3), (5, .int y4)] [] H r2 H2 := q
  exact ⟨_, ⟨g0, g1, g2, g3, g4, trivial⟩, r2, H2, q, h⟩
theorem at_373_357 : mjAtI 373 357 = some (.pop, 1, 0, 0, 0) := by decide +kernel
theorem at_373_358 : mjAtI 373 358 = some (.goto 1749, 3, 0, 2107, 0) := by decide +kernel
theorem at_373_2107 : mjAtI 373 2107 = some (.iinc 4 6, 3, 0, 0, 0) := by decide +kernel
theorem at_373_2110 : mjAtI 373 2110 = some (.goto (-2087), 3, 0, 23, 0) := by decide +kernel
theorem lc_0 {m : Nat} {L : mjL} {H H' : mjH} {r : Option Value ⊕ Nat} {xs : List Int32} {i : Int32} {s1 : Int32} (hT : HT H) (hL : LG L [(0, .ref 3000000), (1, .ref 0), (2, .ref 78), (3, .ref 578), (4, .int i)]) (h : Pn (some xs) m 373 357 L [.int s1] H r H') : ∃ L', LG L' [(0, .ref 3000000), (1, .ref 0), (2, .ref 78), (3, .ref 578), (4, .int (i + Int32.ofInt 6))] ∧ Pn (some xs) m 373 23 L' [] H r H' := by
  obtain ⟨g0, g1, g2, g3, g4, -⟩ := hL
  have h : Pn (some xs) m 373 358 L [] H r H' := pnA h at_373_357 rfl rfl
  have h : Pn (some xs) m 373 2107 L [] H r H' := pnA h at_373_358 rfl rfl
  have h : Pn (some xs) m 373 2110 (mjSt 4 (.int (i + Int32.ofInt 6)) L) [] H r H' := pnInc g4 h at_373_2107
  have g0 : mjGet (mjSt 4 (.int (i + Int32.ofInt 6)) L) 0 = some (.ref 3000000) := gt_ne g0 (by decide) rfl
  have g1 : mjGet (mjSt 4 (.int (i + Int32.ofInt 6)) L) 1 = some (.ref 0) := gt_ne g1 (by decide) rfl
  have g2 : mjGet (mjSt 4 (.int (i + Int32.ofInt 6)) L) 2 = some (.ref 78) := gt_ne g2 (by decide) rfl
  have g3 : mjGet (mjSt 4 (.int (i + Int32.ofInt 6)) L) 3 = some (.ref 578) := gt_ne g3 (by decide) rfl
  have g4 : mjGet (mjSt 4 (.int (i + Int32.ofInt 6)) L) 4 = some (.int (i + Int32.ofInt 6)) := gt_eq
  have h : Pn (some xs) m 373 23 (mjSt 4 (.int (i + Int32.ofInt 6)) L) [] H r H' := pnA h at_373_2110 rfl rfl
  exact ⟨_, ⟨g0, g1, g2, g3, g4, trivial⟩, h⟩
theorem at_373_361 : mjAtI 373 361 = some (.aload_n 1, 1, 0, 0, 0) := by decide +kernel
theorem at_373_362 : mjAtI 373 362 = some (.aload_n 0, 1, 0, 0, 0) := by decide +kernel
theorem at_373_363 : mjAtI 373 363 = some (.iload 4, 2, 0, 0, 0) := by decide +kernel
theorem at_373_365 : mjAtI 373 365 = some (.iconst 1, 1, 0, 0, 0) := by decide +kernel
theorem at_373_366 : mjAtI 373 366 = some (.iadd, 1, 0, 0, 0) := by decide +kernel
theorem at_373_367 : mjAtI 373 367 = some (.iaload, 1, 0, 0, 0) := by decide +kernel
theorem at_373_368 : mjAtI 373 368 = some (.aload_n 3, 1, 0, 0, 0) := by decide +kernel
theorem at_373_369 : mjAtI 373 369 = some (.invokestatic 162, 3, 330, 1, 634) := by decide +kernel
theorem kc_373_369 : kCall (.invokestatic 162) 330 373 = true ∧ kArg 330 = 3 := by decide +kernel
theorem la_1 {m : Nat} {L : mjL} {H H' : mjH} {r : Option Value ⊕ Nat} {xs : List Int32} {i : Int32} (hT : HT H) (hL : LG L [(0, .ref 3000000), (1, .ref 0), (2, .ref 78), (3, .ref 578), (4, .int i)]) (h : Pn (some xs) m 373 361 L [] H r H') : ∃ y0, (¬ (i + (Int32.ofInt 1)) < 0 ∧ xs[(i + (Int32.ofInt 1)).toNatClampNeg]? = some y0) ∧ ∃ L', LG L' [(0, .ref 3000000), (1, .ref 0), (2, .ref 78), (3, .ref 578), (4, .int i)] ∧ ∃ r2 H2, Pn none m 330 0 [(0, .ref 0), (1, .int y0), (2, .ref 578)] [] H r2 H2 ∧ ((∃ cv, r2 = .inl cv ∧ Pn (some xs) m 373 372 L' (cv.toList ++ []) H2 r H') ∨ (∃ E, r2 = .inr E ∧ r = .inr E ∧ H' = H2)) := by
  obtain ⟨g0, g1, g2, g3, g4, -⟩ := hL
  have h : Pn (some xs) m 373 362 L [.ref 0] H r H' := pnLrn g1 h at_373_361
  have h : Pn (some xs) m 373 363 L [.ref 3000000, .ref 0] H r H' := pnLrn g0 h at_373_362
  have h : Pn (some xs) m 373 365 L [.int i, .ref 3000000, .ref 0] H r H' := pnLi g4 h at_373_363
  have h : Pn (some xs) m 373 366 L [.int (Int32.ofInt 1), .int i, .ref 3000000, .ref 0] H r H' := pnA h at_373_365 rfl rfl
  have h : Pn (some xs) m 373 367 L [.int (i + (Int32.ofInt 1)), .ref 3000000, .ref 0] H r H' := pnA h at_373_366 rfl rfl
  obtain ⟨y0, zy0, h⟩ := pnSa h at_373_367
  have h : Pn (some xs) m 373 368 L [.int y0, .ref 0] H r H' := h
  refine ⟨y0, zy0, ?_⟩
  have h : Pn (some xs) m 373 369 L [.ref 578, .int y0, .ref 0] H r H' := pnLrn g3 h at_373_368
  obtain ⟨r2, H2, q, h⟩ := pnC h at_373_369 kc_373_369.1 kc_373_369.2 (as := [.ref 0, .int y0, .ref 578]) (rest := []) rfl
  have q : Pn none m 330 0 [(0, .ref 0), (1, .int y0), (2, .ref 578)] [] H r2 H2 := q
  exact ⟨_, ⟨g0, g1, g2, g3, g4, trivial⟩, r2, H2, q, h⟩
theorem at_373_372 : mjAtI 373 372 = some (.istore 5, 2, 0, 0, 0) := by decide +kernel
theorem at_373_374 : mjAtI 373 374 = some (.aload_n 2, 1, 0, 0, 0) := by decide +kernel
theorem at_373_375 : mjAtI 373 375 = some (.aload_n 0, 1, 0, 0, 0) := by decide +kernel
theorem at_373_376 : mjAtI 373 376 = some (.iload 4, 2, 0, 0, 0) := by decide +kernel
theorem at_373_378 : mjAtI 373 378 = some (.iconst 1, 1, 0, 0, 0) := by decide +kernel
theorem at_373_379 : mjAtI 373 379 = some (.iadd, 1, 0, 0, 0) := by decide +kernel
theorem at_373_380 : mjAtI 373 380 = some (.iaload, 1, 0, 0, 0) := by decide +kernel
theorem at_373_381 : mjAtI 373 381 = some (.invokevirtual 167, 3, 223, 0, 1800) := by decide +kernel
theorem kc_373_381 : kCall (.invokevirtual 167) 223 373 = true ∧ kArg 223 = 2 := by decide +kernel
theorem lb_1 {m : Nat} {L : mjL} {H H' : mjH} {r : Option Value ⊕ Nat} {xs : List Int32} {i : Int32} {s0 : Int32} (hT : HT H) (hL : LG L [(0, .ref 3000000), (1, .ref 0), (2, .ref 78), (3, .ref 578), (4, .int i)]) (h : Pn (some xs) m 373 372 L [.int s0] H r H') : ∃ y0, (¬ (i + (Int32.ofInt 1)) < 0 ∧ xs[(i + (Int32.ofInt 1)).toNatClampNeg]? = some y0) ∧ ∃ L', LG L' [(0, .ref 3000000), (1, .ref 0), (2, .ref 78), (3, .ref 578), (4, .int i)] ∧ ∃ r2 H2, Pn none m 223 0 [(0, .ref 78), (1, .int y0)] [] H r2 H2 ∧ ((∃ cv, r2 = .inl cv ∧ Pn (some xs) m 373 384 L' (cv.toList ++ []) H2 r H') ∨ (∃ E, r2 = .inr E ∧ r = .inr E ∧ H' = H2)) := by
  obtain ⟨g0, g1, g2, g3, g4, -⟩ := hL
  have h : Pn (some xs) m 373 374 (mjSt 5 (.int s0) L) [] H r H' := pnA h at_373_372 rfl rfl
  have g0 : mjGet (mjSt 5 (.int s0) L) 0 = some (.ref 3000000) := gt_ne g0 (by decide) rfl
  have g1 : mjGet (mjSt 5 (.int s0) L) 1 = some (.ref 0) := gt_ne g1 (by decide) rfl
  have g2 : mjGet (mjSt 5 (.int s0) L) 2 = some (.ref 78) := gt_ne g2 (by decide) rfl
  have g3 : mjGet (mjSt 5 (.int s0) L) 3 = some (.ref 578) := gt_ne g3 (by decide) rfl
  have g4 : mjGet (mjSt 5 (.int s0) L) 4 = some (.int i) := gt_ne g4 (by decide) rfl
  have g5 : mjGet (mjSt 5 (.int s0) L) 5 = some (.int s0) := gt_eq
  have h : Pn (some xs) m 373 375 (mjSt 5 (.int s0) L) [.ref 78] H r H' := pnLrn g2 h at_373_374
  have h : Pn (some xs) m 373 376 (mjSt 5 (.int s0) L) [.ref 3000000, .ref 78] H r H' := pnLrn g0 h at_373_375
  have h : Pn (some xs) m 373 378 (mjSt 5 (.int s0) L) [.int i, .ref 3000000, .ref 78] H r H' := pnLi g4 h at_373_376
  have h : Pn (some xs) m 373 379 (mjSt 5 (.int s0) L) [.int (Int32.ofInt 1), .int i, .ref 3000000, .ref 78] H r H' := pnA h at_373_378 rfl rfl
  have h : Pn (some xs) m 373 380 (mjSt 5 (.int s0) L) [.int (i + (Int32.ofInt 1)), .ref 3000000, .ref 78] H r H' := pnA h at_373_379 rfl rfl
  obtain ⟨y0, zy0, h⟩ := pnSa h at_373_380
  have h : Pn (some xs) m 373 381 (mjSt 5 (.int s0) L) [.int y0, .ref 78] H r H' := h
  refine ⟨y0, zy0, ?_⟩
  obtain ⟨r2, H2, q, h⟩ := pnC h at_373_381 kc_373_381.1 kc_373_381.2 (as := [.ref 78, .int y0]) (rest := []) rfl
  have q : Pn none m 223 0 [(0, .ref 78), (1, .int y0)] [] H r2 H2 := q
  exact ⟨_, ⟨g0, g1, g2, g3, g4, trivial⟩, r2, H2, q, h⟩
theorem at_373_384 : mjAtI 373 384 = some (.istore 6, 2, 0, 0, 0) := by decide +kernel
theorem at_373_386 : mjAtI 373 386 = some (.goto 1721, 3, 0, 2107, 0) := by decide +kernel
theorem lc_1 {m : Nat} {L : mjL} {H H' : mjH} {r : Option Value ⊕ Nat} {xs : List Int32} {i : Int32} {s1 : Int32} (hT : HT H) (hL : LG L [(0, .ref 3000000), (1, .ref 0), (2, .ref 78), (3, .ref 578), (4, .int i)]) (h : Pn (some xs) m 373 384 L [.int s1] H r H') : ∃ L', LG L' [(0, .ref 3000000), (1, .ref 0), (2, .ref 78), (3, .ref 578), (4, .int (i + Int32.ofInt 6))] ∧ Pn (some xs) m 373 23 L' [] H r H' := by
  obtain ⟨g0, g1, g2, g3, g4, -⟩ := hL
  have h : Pn (some xs) m 373 386 (mjSt 6 (.int s1) L) [] H r H' := pnA h at_373_384 rfl rfl
  have g0 : mjGet (mjSt 6 (.int s1) L) 0 = some (.ref 3000000) := gt_ne g0 (by decide) rfl
  have g1 : mjGet (mjSt 6 (.int s1) L) 1 = some (.ref 0) := gt_ne g1 (by decide) rfl
  have g2 : mjGet (mjSt 6 (.int s1) L) 2 = some (.ref 78) := gt_ne g2 (by decide) rfl
  have g3 : mjGet (mjSt 6 (.int s1) L) 3 = some (.ref 578) := gt_ne g3 (by decide) rfl
  have g4 : mjGet (mjSt 6 (.int s1) L) 4 = some (.int i) := gt_ne g4 (by decide) rfl
  have g6 : mjGet (mjSt 6 (.int s1) L) 6 = some (.int s1) := gt_eq
  have h : Pn (some xs) m 373 2107 (mjSt 6 (.int s1) L) [] H r H' := pnA h at_373_386 rfl rfl
  have h : Pn (some xs) m 373 2110 (mjSt 4 (.int (i + Int32.ofInt 6)) (mjSt 6 (.int s1) L)) [] H r H' := pnInc g4 h at_373_2107
  have g0 : mjGet (mjSt 4 (.int (i + Int32.ofInt 6)) (mjSt 6 (.int s1) L)) 0 = some (.ref 3000000) := gt_ne g0 (by decide) rfl
  have g1 : mjGet (mjSt 4 (.int (i + Int32.ofInt 6)) (mjSt 6 (.int s1) L)) 1 = some (.ref 0) := gt_ne g1 (by decide) rfl
  have g2 : mjGet (mjSt 4 (.int (i + Int32.ofInt 6)) (mjSt 6 (.int s1) L)) 2 = some (.ref 78) := gt_ne g2 (by decide) rfl
  have g3 : mjGet (mjSt 4 (.int (i + Int32.ofInt 6)) (mjSt 6 (.int s1) L)) 3 = some (.ref 578) := gt_ne g3 (by decide) rfl
  have g6 : mjGet (mjSt 4 (.int (i + Int32.ofInt 6)) (mjSt 6 (.int s1) L)) 6 = some (.int s1) := gt_ne g6 (by decide) rfl
  have g4 : mjGet (mjSt 4 (.int (i + Int32.ofInt 6)) (mjSt 6 (.int s1) L)) 4 = some (.int (i + Int32.ofInt 6)) := gt_eq
  have h : Pn (some xs) m 373 23 (mjSt 4 (.int (i + Int32.ofInt 6)) (mjSt 6 (.int s1) L)) [] H r H' := pnA h at_373_2110 rfl rfl
  exact ⟨_, ⟨g0, g1, g2, g3, g4, trivial⟩, h⟩
theorem at_373_389 : mjAtI 373 389 = some (.aload_n 1, 1, 0, 0, 0) := by decide +kernel
theorem at_373_390 : mjAtI 373 390 = some (.aload_n 0, 1, 0, 0, 0) := by decide +kernel
theorem at_373_391 : mjAtI 373 391 = some (.iload 4, 2, 0, 0, 0) := by decide +kernel
theorem at_373_393 : mjAtI 373 393 = some (.iconst 1, 1, 0, 0, 0) := by decide +kernel
theorem at_373_394 : mjAtI 373 394 = some (.iadd, 1, 0, 0, 0) := by decide +kernel
theorem at_373_395 : mjAtI 373 395 = some (.iaload, 1, 0, 0, 0) := by decide +kernel
theorem at_373_396 : mjAtI 373 396 = some (.aload_n 3, 1, 0, 0, 0) := by decide +kernel
theorem at_373_397 : mjAtI 373 397 = some (.invokestatic 168, 3, 331, 1, 929) := by decide +kernel
theorem kc_373_397 : kCall (.invokestatic 168) 331 373 = true ∧ kArg 331 = 3 := by decide +kernel
theorem la_2 {m : Nat} {L : mjL} {H H' : mjH} {r : Option Value ⊕ Nat} {xs : List Int32} {i : Int32} (hT : HT H) (hL : LG L [(0, .ref 3000000), (1, .ref 0), (2, .ref 78), (3, .ref 578), (4, .int i)]) (h : Pn (some xs) m 373 389 L [] H r H') : ∃ y0, (¬ (i + (Int32.ofInt 1)) < 0 ∧ xs[(i + (Int32.ofInt 1)).toNatClampNeg]? = some y0) ∧ ∃ L', LG L' [(0, .ref 3000000), (1, .ref 0), (2, .ref 78), (3, .ref 578), (4, .int i)] ∧ ∃ r2 H2, Pn none m 331 0 [(0, .ref 0), (1, .int y0), (2, .ref 578)] [] H r2 H2 ∧ ((∃ cv, r2 = .inl cv ∧ Pn (some xs) m 373 400 L' (cv.toList ++ []) H2 r H') ∨ (∃ E, r2 = .inr E ∧ r = .inr E ∧ H' = H2)) := by
  obtain ⟨g0, g1, g2, g3, g4, -⟩ := hL
  have h : Pn (some xs) m 373 390 L [.ref 0] H r H' := pnLrn g1 h at_373_389
  have h : Pn (some xs) m 373 391 L [.ref 3000000, .ref 0] H r H' := pnLrn g0 h at_373_390
  have h : Pn (some xs) m 373 393 L [.int i, .ref 3000000, .ref 0] H r H' := pnLi g4 h at_373_391
  have h : Pn (some xs) m 373 394 L [.int (Int32.ofInt 1), .int i, .ref 3000000, .ref 0] H r H' := pnA h at_373_393 rfl rfl
  have h : Pn (some xs) m 373 395 L [.int (i + (Int32.ofInt 1)), .ref 3000000, .ref 0] H r H' := pnA h at_373_394 rfl rfl
  obtain ⟨y0, zy0, h⟩ := pnSa h at_373_395
  have h : Pn (some xs) m 373 396 L [.int y0, .ref 0] H r H' := h
  refine ⟨y0, zy0, ?_⟩
  have h : Pn (some xs) m 373 397 L [.ref 578, .int y0, .ref 0] H r H' := pnLrn g3 h at_373_396
  obtain ⟨r2, H2, q, h⟩ := pnC h at_373_397 kc_373_397.1 kc_373_397.2 (as := [.ref 0, .int y0, .ref 578]) (rest := []) rfl
  have q : Pn none m 331 0 [(0, .ref 0), (1, .int y0), (2, .ref 578)] [] H r2 H2 := q
  exact ⟨_, ⟨g0, g1, g2, g3, g4, trivial⟩, r2, H2, q, h⟩
theorem at_373_400 : mjAtI 373 400 = some (.istore 5, 2, 0, 0, 0) := by decide +kernel
theorem at_373_402 : mjAtI 373 402 = some (.aload_n 2, 1, 0, 0, 0) := by decide +kernel
theorem at_373_403 : mjAtI 373 403 = some (.aload_n 0, 1, 0, 0, 0) := by decide +kernel
theorem at_373_404 : mjAtI 373 404 = some (.iload 4, 2, 0, 0, 0) := by decide +kernel
theorem at_373_406 : mjAtI 373 406 = some (.iconst 1, 1, 0, 0, 0) := by decide +kernel
theorem at_373_407 : mjAtI 373 407 = some (.iadd, 1, 0, 0, 0) := by decide +kernel
theorem at_373_408 : mjAtI 373 408 = some (.iaload, 1, 0, 0, 0) := by decide +kernel
theorem at_373_409 : mjAtI 373 409 = some (.invokevirtual 170, 3, 226, 0, 1892) := by decide +kernel
theorem kc_373_409 : kCall (.invokevirtual 170) 226 373 = true ∧ kArg 226 = 2 := by decide +kernel
theorem lb_2 {m : Nat} {L : mjL} {H H' : mjH} {r : Option Value ⊕ Nat} {xs : List Int32} {i : Int32} {s0 : Int32} (hT : HT H) (hL : LG L [(0, .ref 3000000), (1, .ref 0), (2, .ref 78), (3, .ref 578), (4, .int i)]) (h : Pn (some xs) m 373 400 L [.int s0] H r H') : ∃ y0, (¬ (i + (Int32.ofInt 1)) < 0 ∧ xs[(i + (Int32.ofInt 1)).toNatClampNeg]? = some y0) ∧ ∃ L', LG L' [(0, .ref 3000000), (1, .ref 0), (2, .ref 78), (3, .ref 578), (4, .int i)] ∧ ∃ r2 H2, Pn none m 226 0 [(0, .ref 78), (1, .int y0)] [] H r2 H2 ∧ ((∃ cv, r2 = .inl cv ∧ Pn (some xs) m 373 412 L' (cv.toList ++ []) H2 r H') ∨ (∃ E, r2 = .inr E ∧ r = .inr E ∧ H' = H2)) := by
  obtain ⟨g0, g1, g2, g3, g4, -⟩ := hL
  have h : Pn (some xs) m 373 402 (mjSt 5 (.int s0) L) [] H r H' := pnA h at_373_400 rfl rfl
  have g0 : mjGet (mjSt 5 (.int s0) L) 0 = some (.ref 3000000) := gt_ne g0 (by decide) rfl
  have g1 : mjGet (mjSt 5 (.int s0) L) 1 = some (.ref 0) := gt_ne g1 (by decide) rfl
  have g2 : mjGet (mjSt 5 (.int s0) L) 2 = some (.ref 78) := gt_ne g2 (by decide) rfl
  have g3 : mjGet (mjSt 5 (.int s0) L) 3 = some (.ref 578) := gt_ne g3 (by decide) rfl
  have g4 : mjGet (mjSt 5 (.int s0) L) 4 = some (.int i) := gt_ne g4 (by decide) rfl
  have g5 : mjGet (mjSt 5 (.int s0) L) 5 = some (.int s0) := gt_eq
  have h : Pn (some xs) m 373 403 (mjSt 5 (.int s0) L) [.ref 78] H r H' := pnLrn g2 h at_373_402
  have h : Pn (some xs) m 373 404 (mjSt 5 (.int s0) L) [.ref 3000000, .ref 78] H r H' := pnLrn g0 h at_373_403
  have h : Pn (some xs) m 373 406 (mjSt 5 (.int s0) L) [.int i, .ref 3000000, .ref 78] H r H' := pnLi g4 h at_373_404
  have h : Pn (some xs) m 373 407 (mjSt 5 (.int s0) L) [.int (Int32.ofInt 1), .int i, .ref 3000000, .ref 78] H r H' := pnA h at_373_406 rfl rfl
  have h : Pn (some xs) m 373 408 (mjSt 5 (.int s0) L) [.int (i + (Int32.ofInt 1)), .ref 3000000, .ref 78] H r H' := pnA h at_373_407 rfl rfl
  obtain ⟨y0, zy0, h⟩ := pnSa h at_373_408
  have h : Pn (some xs) m 373 409 (mjSt 5 (.int s0) L) [.int y0, .ref 78] H r H' := h
  refine ⟨y0, zy0, ?_⟩
  obtain ⟨r2, H2, q, h⟩ := pnC h at_373_409 kc_373_409.1 kc_373_409.2 (as := [.ref 78, .int y0]) (rest := []) rfl
  have q : Pn none m 226 0 [(0, .ref 78), (1, .int y0)] [] H r2 H2 := q
  exact ⟨_, ⟨g0, g1, g2, g3, g4, trivial⟩, r2, H2, q, h⟩
theorem at_373_412 : mjAtI 373 412 = some (.istore 6, 2, 0, 0, 0) := by decide +kernel
theorem at_373_414 : mjAtI 373 414 = some (.goto 1693, 3, 0, 2107, 0) := by decide +kernel
theorem lc_2 {m : Nat} {L : mjL} {H H' : mjH} {r : Option Value ⊕ Nat} {xs : List Int32} {i : Int32} {s1 : Int32} (hT : HT H) (hL : LG L [(0, .ref 3000000), (1, .ref 0), (2, .ref 78), (3, .ref 578), (4, .int i)]) (h : Pn (some xs) m 373 412 L [.int s1] H r H') : ∃ L', LG L' [(0, .ref 3000000), (1, .ref 0), (2, .ref 78), (3, .ref 578), (4, .int (i + Int32.ofInt 6))] ∧ Pn (some xs) m 373 23 L' [] H r H' := by
  obtain ⟨g0, g1, g2, g3, g4, -⟩ := hL
  have h : Pn (some xs) m 373 414 (mjSt 6 (.int s1) L) [] H r H' := pnA h at_373_412 rfl rfl
  have g0 : mjGet (mjSt 6 (.int s1) L) 0 = some (.ref 3000000) := gt_ne g0 (by decide) rfl
  have g1 : mjGet (mjSt 6 (.int s1) L) 1 = some (.ref 0) := gt_ne g1 (by decide) rfl
  have g2 : mjGet (mjSt 6 (.int s1) L) 2 = some (.ref 78) := gt_ne g2 (by decide) rfl
  have g3 : mjGet (mjSt 6 (.int s1) L) 3 = some (.ref 578) := gt_ne g3 (by decide) rfl
  have g4 : mjGet (mjSt 6 (.int s1) L) 4 = some (.int i) := gt_ne g4 (by decide) rfl
  have g6 : mjGet (mjSt 6 (.int s1) L) 6 = some (.int s1) := gt_eq
  have h : Pn (some xs) m 373 2107 (mjSt 6 (.int s1) L) [] H r H' := pnA h at_373_414 rfl rfl
  have h : Pn (some xs) m 373 2110 (mjSt 4 (.int (i + Int32.ofInt 6)) (mjSt 6 (.int s1) L)) [] H r H' := pnInc g4 h at_373_2107
  have g0 : mjGet (mjSt 4 (.int (i + Int32.ofInt 6)) (mjSt 6 (.int s1) L)) 0 = some (.ref 3000000) := gt_ne g0 (by decide) rfl
  have g1 : mjGet (mjSt 4 (.int (i + Int32.ofInt 6)) (mjSt 6 (.int s1) L)) 1 = some (.ref 0) := gt_ne g1 (by decide) rfl
  have g2 : mjGet (mjSt 4 (.int (i + Int32.ofInt 6)) (mjSt 6 (.int s1) L)) 2 = some (.ref 78) := gt_ne g2 (by decide) rfl
  have g3 : mjGet (mjSt 4 (.int (i + Int32.ofInt 6)) (mjSt 6 (.int s1) L)) 3 = some (.ref 578) := gt_ne g3 (by decide) rfl
  have g6 : mjGet (mjSt 4 (.int (i + Int32.ofInt 6)) (mjSt 6 (.int s1) L)) 6 = some (.int s1) := gt_ne g6 (by decide) rfl
  have g4 : mjGet (mjSt 4 (.int (i + Int32.ofInt 6)) (mjSt 6 (.int s1) L)) 4 = some (.int (i + Int32.ofInt 6)) := gt_eq
  have h : Pn (some xs) m 373 23 (mjSt 4 (.int (i + Int32.ofInt 6)) (mjSt 6 (.int s1) L)) [] H r H' := pnA h at_373_2110 rfl rfl
  exact ⟨_, ⟨g0, g1, g2, g3, g4, trivial⟩, h⟩
theorem at_373_417 : mjAtI 373 417 = some (.aload_n 1, 1, 0, 0, 0) := by decide +kernel
theorem at_373_418 : mjAtI 373 418 = some (.aload_n 0, 1, 0, 0, 0) := by decide +kernel
theorem at_373_419 : mjAtI 373 419 = some (.iload 4, 2, 0, 0, 0) := by decide +kernel
theorem at_373_421 : mjAtI 373 421 = some (.iconst 1, 1, 0, 0, 0) := by decide +kernel
theorem at_373_422 : mjAtI 373 422 = some (.iadd, 1, 0, 0, 0) := by decide +kernel
theorem at_373_423 : mjAtI 373 423 = some (.iaload, 1, 0, 0, 0) := by decide +kernel
theorem at_373_424 : mjAtI 373 424 = some (.aload_n 3, 1, 0, 0, 0) := by decide +kernel
theorem at_373_425 : mjAtI 373 425 = some (.invokestatic 171, 3, 332, 1, 941) := by decide +kernel
theorem kc_373_425 : kCall (.invokestatic 171) 332 373 = true ∧ kArg 332 = 3 := by decide +kernel
theorem la_3 {m : Nat} {L : mjL} {H H' : mjH} {r : Option Value ⊕ Nat} {xs : List Int32} {i : Int32} (hT : HT H) (hL : LG L [(0, .ref 3000000), (1, .ref 0), (2, .ref 78), (3, .ref 578), (4, .int i)]) (h : Pn (some xs) m 373 417 L [] H r H') : ∃ y0, (¬ (i + (Int32.ofInt 1)) < 0 ∧ xs[(i + (Int32.ofInt 1)).toNatClampNeg]? = some y0) ∧ ∃ L', LG L' [(0, .ref 3000000), (1, .ref 0), (2, .ref 78), (3, .ref 578), (4, .int i)] ∧ ∃ r2 H2, Pn none m 332 0 [(0, .ref 0), (1, .int y0), (2, .ref 578)] [] H r2 H2 ∧ ((∃ cv, r2 = .inl cv ∧ Pn (some xs) m 373 428 L' (cv.toList ++ []) H2 r H') ∨ (∃ E, r2 = .inr E ∧ r = .inr E ∧ H' = H2)) := by
  obtain ⟨g0, g1, g2, g3, g4, -⟩ := hL
  have h : Pn (some xs) m 373 418 L [.ref 0] H r H' := pnLrn g1 h at_373_417
  have h : Pn (some xs) m 373 419 L [.ref 3000000, .ref 0] H r H' := pnLrn g0 h at_373_418
  have h : Pn (some xs) m 373 421 L [.int i, .ref 3000000, .ref 0] H r H' := pnLi g4 h at_373_419
  have h : Pn (some xs) m 373 422 L [.int (Int32.ofInt 1), .int i, .ref 3000000, .ref 0] H r H' := pnA h at_373_421 rfl rfl
  have h : Pn (some xs) m 373 423 L [.int (i + (Int32.ofInt 1)), .ref 3000000, .ref 0] H r H' := pnA h at_373_422 rfl rfl
  obtain ⟨y0, zy0, h⟩ := pnSa h at_373_423
  have h : Pn (some xs) m 373 424 L [.int y0, .ref 0] H r H' := h
  refine ⟨y0, zy0, ?_⟩
  have h : Pn (some xs) m 373 425 L [.ref 578, .int y0, .ref 0] H r H' := pnLrn g3 h at_373_424
  obtain ⟨r2, H2, q, h⟩ := pnC h at_373_425 kc_373_425.1 kc_373_425.2 (as := [.ref 0, .int y0, .ref 578]) (rest := []) rfl
  have q : Pn none m 332 0 [(0, .ref 0), (1, .int y0), (2, .ref 578)] [] H r2 H2 := q
  exact ⟨_, ⟨g0, g1, g2, g3, g4, trivial⟩, r2, H2, q, h⟩
theorem at_373_428 : mjAtI 373 428 = some (.istore 5, 2, 0, 0, 0) := by decide +kernel
theorem at_373_430 : mjAtI 373 430 = some (.aload_n 2, 1, 0, 0, 0) := by decide +kernel
theorem at_373_431 : mjAtI 373 431 = some (.aload_n 0, 1, 0, 0, 0) := by decide +kernel
theorem at_373_432 : mjAtI 373 432 = some (.iload 4, 2, 0, 0, 0) := by decide +kernel
theorem at_373_434 : mjAtI 373 434 = some (.iconst 1, 1, 0, 0, 0) := by decide +kernel
theorem at_373_435 : mjAtI 373 435 = some (.iadd, 1, 0, 0, 0) := by decide +kernel
theorem at_373_436 : mjAtI 373 436 = some (.iaload, 1, 0, 0, 0) := by decide +kernel
theorem at_373_437 : mjAtI 373 437 = some (.invokevirtual 173, 3, 236, 0, 1899) := by decide +kernel
theorem kc_373_437 : kCall (.invokevirtual 173) 236 373 = true ∧ kArg 236 = 2 := by decide +kernel
theorem lb_3 {m : Nat} {L : mjL} {H H' : mjH} {r : Option Value ⊕ Nat} {xs : List Int32} {i : Int32} {s0 : Int32} (hT : HT H) (hL : LG L [(0, .ref 3000000), (1, .ref 0), (2, .ref 78), (3, .ref 578), (4, .int i)]) (h : Pn (some xs) m 373 428 L [.int s0] H r H') : ∃ y0, (¬ (i + (Int32.ofInt 1)) < 0 ∧ xs[(i + (Int32.ofInt 1)).toNatClampNeg]? = some y0) ∧ ∃ L', LG L' [(0, .ref 3000000), (1, .ref 0), (2, .ref 78), (3, .ref 578), (4, .int i)] ∧ ∃ r2 H2, Pn none m 236 0 [(0, .ref 78), (1, .int y0)] [] H r2 H2 ∧ ((∃ cv, r2 = .inl cv ∧ Pn (some xs) m 373 440 L' (cv.toList ++ []) H2 r H') ∨ (∃ E, r2 = .inr E ∧ r = .inr E ∧ H' = H2)) := by
  obtain ⟨g0, g1, g2, g3, g4, -⟩ := hL
  have h : Pn (some xs) m 373 430 (mjSt 5 (.int s0) L) [] H r H' := pnA h at_373_428 rfl rfl
  have g0 : mjGet (mjSt 5 (.int s0) L) 0 = some (.ref 3000000) := gt_ne g0 (by decide) rfl
  have g1 : mjGet (mjSt 5 (.int s0) L) 1 = some (.ref 0) := gt_ne g1 (by decide) rfl
  have g2 : mjGet (mjSt 5 (.int s0) L) 2 = some (.ref 78) := gt_ne g2 (by decide) rfl
  have g3 : mjGet (mjSt 5 (.int s0) L) 3 = some (.ref 578) := gt_ne g3 (by decide) rfl
  have g4 : mjGet (mjSt 5 (.int s0) L) 4 = some (.int i) := gt_ne g4 (by decide) rfl
  have g5 : mjGet (mjSt 5 (.int s0) L) 5 = some (.int s0) := gt_eq
  have h : Pn (some xs) m 373 431 (mjSt 5 (.int s0) L) [.ref 78] H r H' := pnLrn g2 h at_373_430
  have h : Pn (some xs) m 373 432 (mjSt 5 (.int s0) L) [.ref 3000000, .ref 78] H r H' := pnLrn g0 h at_373_431
  have h : Pn (some xs) m 373 434 (mjSt 5 (.int s0) L) [.int i, .ref 3000000, .ref 78] H r H' := pnLi g4 h at_373_432
  have h : Pn (some xs) m 373 435 (mjSt 5 (.int s0) L) [.int (Int32.ofInt 1), .int i, .ref 3000000, .ref 78] H r H' := pnA h at_373_434 rfl rfl
  have h : Pn (some xs) m 373 436 (mjSt 5 (.int s0) L) [.int (i + (Int32.ofInt 1)), .ref 3000000, .ref 78] H r H' := pnA h at_373_435 rfl rfl
  obtain ⟨y0, zy0, h⟩ := pnSa h at_373_436
  have h : Pn (some xs) m 373 437 (mjSt 5 (.int s0) L) [.int y0, .ref 78] H r H' := h
  refine ⟨y0, zy0, ?_⟩
  obtain ⟨r2, H2, q, h⟩ := pnC h at_373_437 kc_373_437.1 kc_373_437.2 (as := [.ref 78, .int y0]) (rest := []) rfl
  have q : Pn none m 236 0 [(0, .ref 78), (1, .int y0)] [] H r2 H2 := q
  exact ⟨_, ⟨g0, g1, g2, g3, g4, trivial⟩, r2, H2, q, h⟩
theorem at_373_440 : mjAtI 373 440 = some (.istore 6, 2, 0, 0, 0) := by decide +kernel
theorem at_373_442 : mjAtI 373 442 = some (.goto 1665, 3, 0, 2107, 0) := by decide +kernel
theorem lc_3 {m : Nat} {L : mjL} {H H' : mjH} {r : Option Value ⊕ Nat} {xs : List Int32} {i : Int32} {s1 : Int32} (hT : HT H) (hL : LG L [(0, .ref 3000000), (1, .ref 0), (2, .ref 78), (3, .ref 578), (4, .int i)]) (h : Pn (some xs) m 373 440 L [.int s1] H r H') : ∃ L', LG L' [(0, .ref 3000000), (1, .ref 0), (2, .ref 78), (3, .ref 578), (4, .int (i + Int32.ofInt 6))] ∧ Pn (some xs) m 373 23 L' [] H r H' := by
  obtain ⟨g0, g1, g2, g3, g4, -⟩ := hL
  have h : Pn (some xs) m 373 442 (mjSt 6 (.int s1) L) [] H r H' := pnA h at_373_440 rfl rfl
  have g0 : mjGet (mjSt 6 (.int s1) L) 0 = some (.ref 3000000) := gt_ne g0 (by decide) rfl
  have g1 : mjGet (mjSt 6 (.int s1) L) 1 = some (.ref 0) := gt_ne g1 (by decide) rfl
  have g2 : mjGet (mjSt 6 (.int s1) L) 2 = some (.ref 78) := gt_ne g2 (by decide) rfl
  have g3 : mjGet (mjSt 6 (.int s1) L) 3 = some (.ref 578) := gt_ne g3 (by decide) rfl
  have g4 : mjGet (mjSt 6 (.int s1) L) 4 = some (.int i) := gt_ne g4 (by decide) rfl
  have g6 : mjGet (mjSt 6 (.int s1) L) 6 = some (.int s1) := gt_eq
  have h : Pn (some xs) m 373 2107 (mjSt 6 (.int s1) L) [] H r H' := pnA h at_373_442 rfl rfl
  have h : Pn (some xs) m 373 2110 (mjSt 4 (.int (i + Int32.ofInt 6)) (mjSt 6 (.int s1) L)) [] H r H' := pnInc g4 h at_373_2107
  have g0 : mjGet (mjSt 4 (.int (i + Int32.ofInt 6)) (mjSt 6 (.int s1) L)) 0 = some (.ref 3000000) := gt_ne g0 (by decide) rfl
  have g1 : mjGet (mjSt 4 (.int (i + Int32.ofInt 6)) (mjSt 6 (.int s1) L)) 1 = some (.ref 0) := gt_ne g1 (by decide) rfl
  have g2 : mjGet (mjSt 4 (.int (i + Int32.ofInt 6)) (mjSt 6 (.int s1) L)) 2 = some (.ref 78) := gt_ne g2 (by decide) rfl
  have g3 : mjGet (mjSt 4 (.int (i + Int32.ofInt 6)) (mjSt 6 (.int s1) L)) 3 = some (.ref 578) := gt_ne g3 (by decide) rfl
  have g6 : mjGet (mjSt 4 (.int (i + Int32.ofInt 6)) (mjSt 6 (.int s1) L)) 6 = some (.int s1) := gt_ne g6 (by decide) rfl
  have g4 : mjGet (mjSt 4 (.int (i + Int32.ofInt 6)) (mjSt 6 (.int s1) L)) 4 = some (.int (i + Int32.ofInt 6)) := gt_eq
  have h : Pn (some xs) m 373 23 (mjSt 4 (.int (i + Int32.ofInt 6)) (mjSt 6 (.int s1) L)) [] H r H' := pnA h at_373_2110 rfl rfl
  exact ⟨_, ⟨g0, g1, g2, g3, g4, trivial⟩, h⟩
theorem at_373_445 : mjAtI 373 445 = some (.aload_n 1, 1, 0, 0, 0) := by decide +kernel
theorem at_373_446 : mjAtI 373 446 = some (.invokevirtual 174, 3, 117, 0, 441) := by decide +kernel
theorem kc_373_446 : kCall (.invokevirtual 174) 117 373 = true ∧ kArg 117 = 1 := by decide +kernel
theorem la_4 {m : Nat} {L : mjL} {H H' : mjH} {r : Option Value ⊕ Nat} {xs : List Int32} {i : Int32} (hT : HT H) (hL : LG L [(0, .ref 3000000), (1, .ref 0), (2, .ref 78), (3, .ref 578), (4, .int i)]) (h : Pn (some xs) m 373 445 L [] H r H') : ∃ L', LG L' [(0, .ref 3000000), (1, .ref 0), (2, .ref 78), (3, .ref 578), (4, .int i)] ∧ ∃ r2 H2, Pn none m 117 0 [(0, .ref 0)] [] H r2 H2 ∧ ((∃ cv, r2 = .inl cv ∧ Pn (some xs) m 373 449 L' (cv.toList ++ []) H2 r H') ∨ (∃ E, r2 = .inr E ∧ r = .inr E ∧ H' = H2)) := by
  obtain ⟨g0, g1, g2, g3, g4, -⟩ := hL
  have h : Pn (some xs) m 373 446 L [.ref 0] H r H' := pnLrn g1 h at_373_445
  obtain ⟨r2, H2, q, h⟩ := pnC h at_373_446 kc_373_446.1 kc_373_446.2 (as := [.ref 0]) (rest := []) rfl
  have q : Pn none m 117 0 [(0, .ref 0)] [] H r2 H2 := q
  exact ⟨_, ⟨g0, g1, g2, g3, g4, trivial⟩, r2, H2, q, h⟩
theorem at_373_449 : mjAtI 373 449 = some (.pop, 1, 0, 0, 0) := by decide +kernel
theorem at_373_450 : mjAtI 373 450 = some (.aload_n 2, 1, 0, 0, 0) := by decide +kernel
theorem at_373_451 : mjAtI 373 451 = some (.invokevirtual 177, 3, 241, 0, 1943) := by decide +kernel
theorem kc_373_451 : kCall (.invokevirtual 177) 241 373 = true ∧ kArg 241 = 1 := by decide +kernel
theorem lb_4 {m : Nat} {L : mjL} {H H' : mjH} {r : Option Value ⊕ Nat} {xs : List Int32} {i : Int32} {s0 : Int32} (hT : HT H) (hL : LG L [(0, .ref 3000000), (1, .ref 0), (2, .ref 78), (3, .ref 578), (4, .int i)]) (h : Pn (some xs) m 373 449 L [.int s0] H r H') : ∃ L', LG L' [(0, .ref 3000000), (1, .ref 0), (2, .ref 78), (3, .ref 578), (4, .int i)] ∧ ∃ r2 H2, Pn none m 241 0 [(0, .ref 78)] [] H r2 H2 ∧ ((∃ cv, r2 = .inl cv ∧ Pn (some xs) m 373 454 L' (cv.toList ++ []) H2 r H') ∨ (∃ E, r2 = .inr E ∧ r = .inr E ∧ H' = H2)) := by
  obtain ⟨g0, g1, g2, g3, g4, -⟩ := hL
  have h : Pn (some xs) m 373 450 L [] H r H' := pnA h at_373_449 rfl rfl
  have h : Pn (some xs) m 373 451 L [.ref 78] H r H' := pnLrn g2 h at_373_450
  obtain ⟨r2, H2, q, h⟩ := pnC h at_373_451 kc_373_451.1 kc_373_451.2 (as := [.ref 78]) (rest := []) rfl
  have q : Pn none m 241 0 [(0, .ref 78)] [] H r2 H2 := q
  exact ⟨_, ⟨g0, g1, g2, g3, g4, trivial⟩, r2, H2, q, h⟩
theorem at_373_454 : mjAtI 373 454 = some (.pop, 1, 0, 0, 0) := by decide +kernel
theorem at_373_455 : mjAtI 373 455 = some (.goto 1652, 3, 0, 2107, 0) := by decide +kernel
theorem lc_4 {m : Nat} {L : mjL} {H H' : mjH} {r : Option Value ⊕ Nat} {xs : List Int32} {i : Int32} {s1 : Int32} (hT : HT H) (hL : LG L [(0, .ref 3000000), (1, .ref 0), (2, .ref 78), (3, .ref 578), (4, .int i)]) (h : Pn (some xs) m 373 454 L [.int s1] H r H') : ∃ L', LG L' [(0, .ref 3000000), (1, .ref 0), (2, .ref 78), (3, .ref 578), (4, .int (i + Int32.ofInt 6))] ∧ Pn (some xs) m 373 23 L' [] H r H' := by
  obtain ⟨g0, g1, g2, g3, g4, -⟩ := hL
  have h : Pn (some xs) m 373 455 L [] H r H' := pnA h at_373_454 rfl rfl
  have h : Pn (some xs) m 373 2107 L [] H r H' := pnA h at_373_455 rfl rfl
  have h : Pn (some xs) m 373 2110 (mjSt 4 (.int (i + Int32.ofInt 6)) L) [] H r H' := pnInc g4 h at_373_2107
  have g0 : mjGet (mjSt 4 (.int (i + Int32.ofInt 6)) L) 0 = some (.ref 3000000) := gt_ne g0 (by decide) rfl
  have g1 : mjGet (mjSt 4 (.int (i + Int32.ofInt 6)) L) 1 = some (.ref 0) := gt_ne g1 (by decide) rfl
  have g2 : mjGet (mjSt 4 (.int (i + Int32.ofInt 6)) L) 2 = some (.ref 78) := gt_ne g2 (by decide) rfl
  have g3 : mjGet (mjSt 4 (.int (i + Int32.ofInt 6)) L) 3 = some (.ref 578) := gt_ne g3 (by decide) rfl
  have g4 : mjGet (mjSt 4 (.int (i + Int32.ofInt 6)) L) 4 = some (.int (i + Int32.ofInt 6)) := gt_eq
  have h : Pn (some xs) m 373 23 (mjSt 4 (.int (i + Int32.ofInt 6)) L) [] H r H' := pnA h at_373_2110 rfl rfl
  exact ⟨_, ⟨g0, g1, g2, g3, g4, trivial⟩, h⟩
theorem at_373_458 : mjAtI 373 458 = some (.aload_n 1, 1, 0, 0, 0) := by decide +kernel
theorem at_373_459 : mjAtI 373 459 = some (.aload_n 0, 1, 0, 0, 0) := by decide +kernel
theorem at_373_460 : mjAtI 373 460 = some (.iload 4, 2, 0, 0, 0) := by decide +kernel
theorem at_373_462 : mjAtI 373 462 = some (.iconst 1, 1, 0, 0, 0) := by decide +kernel
theorem at_373_463 : mjAtI 373 463 = some (.iadd, 1, 0, 0, 0) := by decide +kernel
theorem at_373_464 : mjAtI 373 464 = some (.iaload, 1, 0, 0, 0) := by decide +kernel
theorem at_373_465 : mjAtI 373 465 = some (.aload_n 3, 1, 0, 0, 0) := by decide +kernel
theorem at_373_466 : mjAtI 373 466 = some (.invokestatic 178, 3, 333, 1, 1028) := by decide +kernel
theorem kc_373_466 : kCall (.invokestatic 178) 333 373 = true ∧ kArg 333 = 3 := by decide +kernel
theorem la_5 {m : Nat} {L : mjL} {H H' : mjH} {r : Option Value ⊕ Nat} {xs : List Int32} {i : Int32} (hT : HT H) (hL : LG L [(0, .ref 3000000), (1, .ref 0), (2, .ref 78), (3, .ref 578), (4, .int i)]) (h : Pn (some xs) m 373 458 L [] H r H') : ∃ y0, (¬ (i + (Int32.ofInt 1)) < 0 ∧ xs[(i + (Int32.ofInt 1)).toNatClampNeg]? = some y0) ∧ ∃ L', LG L' [(0, .ref 3000000), (1, .ref 0), (2, .ref 78), (3, .ref 578), (4, .int i)] ∧ ∃ r2 H2, Pn none m 333 0 [(0, .ref 0), (1, .int y0), (2, .ref 578)] [] H r2 H2 ∧ ((∃ cv, r2 = .inl cv ∧ Pn (some xs) m 373 469 L' (cv.toList ++ []) H2 r H') ∨ (∃ E, r2 = .inr E ∧ r = .inr E ∧ H' = H2)) := by
  obtain ⟨g0, g1, g2, g3, g4, -⟩ := hL
  have h : Pn (some xs) m 373 459 L [.ref 0] H r H' := pnLrn g1 h at_373_458
  have h : Pn (some xs) m 373 460 L [.ref 3000000, .ref 0] H r H' := pnLrn g0 h at_373_459
  have h : Pn (some xs) m 373 462 L [.int i, .ref 3000000, .ref 0] H r H' := pnLi g4 h at_373_460
  have h : Pn (some xs) m 373 463 L [.int (Int32.ofInt 1), .int i, .ref 3000000, .ref 0] H r H' := pnA h at_373_462 rfl rfl
  have h : Pn (some xs) m 373 464 L [.int (i + (Int32.ofInt 1)), .ref 3000000, .ref 0] H r H' := pnA h at_373_463 rfl rfl
  obtain ⟨y0, zy0, h⟩ := pnSa h at_373_464
  have h : Pn (some xs) m 373 465 L [.int y0, .ref 0] H r H' := h
  refine ⟨y0, zy0, ?_⟩
  have h : Pn (some xs) m 373 466 L [.ref 578, .int y0, .ref 0] H r H' := pnLrn g3 h at_373_465
  obtain ⟨r2, H2, q, h⟩ := pnC h at_373_466 kc_373_466.1 kc_373_466.2 (as := [.ref 0, .int y0, .ref 578]) (rest := []) rfl
  have q : Pn none m 333 0 [(0, .ref 0), (1, .int y0), (2, .ref 578)] [] H r2 H2 := q
  exact ⟨_, ⟨g0, g1, g2, g3, g4, trivial⟩, r2, H2, q, h⟩
theorem at_373_469 : mjAtI 373 469 = some (.istore 5, 2, 0, 0, 0) := by decide +kernel
theorem at_373_471 : mjAtI 373 471 = some (.aload_n 2, 1, 0, 0, 0) := by decide +kernel
theorem at_373_472 : mjAtI 373 472 = some (.aload_n 0, 1, 0, 0, 0) := by decide +kernel
theorem at_373_473 : mjAtI 373 473 = some (.iload 4, 2, 0, 0, 0) := by decide +kernel
theorem at_373_475 : mjAtI 373 475 = some (.iconst 1, 1, 0, 0, 0) := by decide +kernel
theorem at_373_476 : mjAtI 373 476 = some (.iadd, 1, 0, 0, 0) := by decide +kernel
theorem at_373_477 : mjAtI 373 477 = some (.iaload, 1, 0, 0, 0) := by decide +kernel
theorem at_373_478 : mjAtI 373 478 = some (.invokevirtual 180, 3, 242, 0, 1947) := by decide +kernel
theorem kc_373_478 : kCall (.invokevirtual 180) 242 373 = true ∧ kArg 242 = 2 := by decide +kernel
theorem lb_5 {m : Nat} {L : mjL} {H H' : mjH} {r : Option Value ⊕ Nat} {xs : List Int32} {i : Int32} {s0 : Int32} (hT : HT H) (hL : LG L [(0, .ref 3000000), (1, .ref 0), (2, .ref 78), (3, .ref 578), (4, .int i)]) (h : Pn (some xs) m 373 469 L [.int s0] H r H') : ∃ y0, (¬ (i + (Int32.ofInt 1)) < 0 ∧ xs[(i + (Int32.ofInt 1)).toNatClampNeg]? = some y0) ∧ ∃ L', LG L' [(0, .ref 3000000), (1, .ref 0), (2, .ref 78), (3, .ref 578), (4, .int i)] ∧ ∃ r2 H2, Pn none m 242 0 [(0, .ref 78), (1, .int y0)] [] H r2 H2 ∧ ((∃ cv, r2 = .inl cv ∧ Pn (some xs) m 373 481 L' (cv.toList ++ []) H2 r H') ∨ (∃ E, r2 = .inr E ∧ r = .inr E ∧ H' = H2)) := by
  obtain ⟨g0, g1, g2, g3, g4, -⟩ := hL
  have h : Pn (some xs) m 373 471 (mjSt 5 (.int s0) L) [] H r H' := pnA h at_373_469 rfl rfl
  have g0 : mjGet (mjSt 5 (.int s0) L) 0 = some (.ref 3000000) := gt_ne g0 (by decide) rfl
  have g1 : mjGet (mjSt 5 (.int s0) L) 1 = some (.ref 0) := gt_ne g1 (by decide) rfl
  have g2 : mjGet (mjSt 5 (.int s0) L) 2 = some (.ref 78) := gt_ne g2 (by decide) rfl
  have g3 : mjGet (mjSt 5 (.int s0) L) 3 = some (.ref 578) := gt_ne g3 (by decide) rfl
  have g4 : mjGet (mjSt 5 (.int s0) L) 4 = some (.int i) := gt_ne g4 (by decide) rfl
  have g5 : mjGet (mjSt 5 (.int s0) L) 5 = some (.int s0) := gt_eq
  have h : Pn (some xs) m 373 472 (mjSt 5 (.int s0) L) [.ref 78] H r H' := pnLrn g2 h at_373_471
  have h : Pn (some xs) m 373 473 (mjSt 5 (.int s0) L) [.ref 3000000, .ref 78] H r H' := pnLrn g0 h at_373_472
  have h : Pn (some xs) m 373 475 (mjSt 5 (.int s0) L) [.int i, .ref 3000000, .ref 78] H r H' := pnLi g4 h at_373_473
  have h : Pn (some xs) m 373 476 (mjSt 5 (.int s0) L) [.int (Int32.ofInt 1), .int i, .ref 3000000, .ref 78] H r H' := pnA h at_373_475 rfl rfl
  have h : Pn (some xs) m 373 477 (mjSt 5 (.int s0) L) [.int (i + (Int32.ofInt 1)), .ref 3000000, .ref 78] H r H' := pnA h at_373_476 rfl rfl
  obtain ⟨y0, zy0, h⟩ := pnSa h at_373_477
  have h : Pn (some xs) m 373 478 (mjSt 5 (.int s0) L) [.int y0, .ref 78] H r H' := h
  refine ⟨y0, zy0, ?_⟩
  obtain ⟨r2, H2, q, h⟩ := pnC h at_373_478 kc_373_478.1 kc_373_478.2 (as := [.ref 78, .int y0]) (rest := []) rfl
  have q : Pn none m 242 0 [(0, .ref 78), (1, .int y0)] [] H r2 H2 := q
  exact ⟨_, ⟨g0, g1, g2, g3, g4, trivial⟩, r2, H2, q, h⟩
theorem at_373_481 : mjAtI 373 481 = some (.istore 6, 2, 0, 0, 0) := by decide +kernel
theorem at_373_483 : mjAtI 373 483 = some (.goto 1624, 3, 0, 2107, 0) := by decide +kernel
theorem lc_5 {m : Nat} {L : mjL} {H H' : mjH} {r : Option Value ⊕ Nat} {xs : List Int32} {i : Int32} {s1 : Int32} (hT : HT H) (hL : LG L [(0, .ref 3000000), (1, .ref 0), (2, .ref 78), (3, .ref 578), (4, .int i)]) (h : Pn (some xs) m 373 481 L [.int s1] H r H') : ∃ L', LG L' [(0, .ref 3000000), (1, .ref 0), (2, .ref 78), (3, .ref 578), (4, .int (i + Int32.ofInt 6))] ∧ Pn (some xs) m 373 23 L' [] H r H' := by
  obtain ⟨g0, g1, g2, g3, g4, -⟩ := hL
  have h : Pn (some xs) m 373 483 (mjSt 6 (.int s1) L) [] H r H' := pnA h at_373_481 rfl rfl
  have g0 : mjGet (mjSt 6 (.int s1) L) 0 = some (.ref 3000000) := gt_ne g0 (by decide) rfl
  have g1 : mjGet (mjSt 6 (.int s1) L) 1 = some (.ref 0) := gt_ne g1 (by decide) rfl
  have g2 : mjGet (mjSt 6 (.int s1) L) 2 = some (.ref 78) := gt_ne g2 (by decide) rfl
  have g3 : mjGet (mjSt 6 (.int s1) L) 3 = some (.ref 578) := gt_ne g3 (by decide) rfl
  have g4 : mjGet (mjSt 6 (.int s1) L) 4 = some (.int i) := gt_ne g4 (by decide) rfl
  have g6 : mjGet (mjSt 6 (.int s1) L) 6 = some (.int s1) := gt_eq
  have h : Pn (some xs) m 373 2107 (mjSt 6 (.int s1) L) [] H r H' := pnA h at_373_483 rfl rfl
  have h : Pn (some xs) m 373 2110 (mjSt 4 (.int (i + Int32.ofInt 6)) (mjSt 6 (.int s1) L)) [] H r H' := pnInc g4 h at_373_2107
  have g0 : mjGet (mjSt 4 (.int (i + Int32.ofInt 6)) (mjSt 6 (.int s1) L)) 0 = some (.ref 3000000) := gt_ne g0 (by decide) rfl
  have g1 : mjGet (mjSt 4 (.int (i + Int32.ofInt 6)) (mjSt 6 (.int s1) L)) 1 = some (.ref 0) := gt_ne g1 (by decide) rfl
  have g2 : mjGet (mjSt 4 (.int (i + Int32.ofInt 6)) (mjSt 6 (.int s1) L)) 2 = some (.ref 78) := gt_ne g2 (by decide) rfl
  have g3 : mjGet (mjSt 4 (.int (i + Int32.ofInt 6)) (mjSt 6 (.int s1) L)) 3 = some (.ref 578) := gt_ne g3 (by decide) rfl
  have g6 : mjGet (mjSt 4 (.int (i + Int32.ofInt 6)) (mjSt 6 (.int s1) L)) 6 = some (.int s1) := gt_ne g6 (by decide) rfl
  have g4 : mjGet (mjSt 4 (.int (i + Int32.ofInt 6)) (mjSt 6 (.int s1) L)) 4 = some (.int (i + Int32.ofInt 6)) := gt_eq
  have h : Pn (some xs) m 373 23 (mjSt 4 (.int (i + Int32.ofInt 6)) (mjSt 6 (.int s1) L)) [] H r H' := pnA h at_373_2110 rfl rfl
  exact ⟨_, ⟨g0, g1, g2, g3, g4, trivial⟩, h⟩
theorem at_373_486 : mjAtI 373 486 = some (.aload_n 1, 1, 0, 0, 0) := by decide +kernel
theorem at_373_487 : mjAtI 373 487 = some (.aload_n 0, 1, 0, 0, 0) := by decide +kernel
theorem at_373_488 : mjAtI 373 488 = some (.iload 4, 2, 0, 0, 0) := by decide +kernel
theorem at_373_490 : mjAtI 373 490 = some (.iconst 1, 1, 0, 0, 0) := by decide +kernel
theorem at_373_491 : mjAtI 373 491 = some (.iadd, 1, 0, 0, 0) := by decide +kernel
theorem at_373_492 : mjAtI 373 492 = some (.iaload, 1, 0, 0, 0) := by decide +kernel
theorem at_373_493 : mjAtI 373 493 = some (.aload_n 3, 1, 0, 0, 0) := by decide +kernel
theorem at_373_494 : mjAtI 373 494 = some (.invokestatic 181, 3, 334, 1, 1039) := by decide +kernel
theorem kc_373_494 : kCall (.invokestatic 181) 334 373 = true ∧ kArg 334 = 3 := by decide +kernel
theorem la_6 {m : Nat} {L : mjL} {H H' : mjH} {r : Option Value ⊕ Nat} {xs : List Int32} {i : Int32} (hT : HT H) (hL : LG L [(0, .ref 3000000), (1, .ref 0), (2, .ref 78), (3, .ref 578), (4, .int i)]) (h : Pn (some xs) m 373 486 L [] H r H') : ∃ y0, (¬ (i + (Int32.ofInt 1)) < 0 ∧ xs[(i + (Int32.ofInt 1)).toNatClampNeg]? = some y0) ∧ ∃ L', LG L' [(0, .ref 3000000), (1, .ref 0), (2, .ref 78), (3, .ref 578), (4, .int i)] ∧ ∃ r2 H2, Pn none m 334 0 [(0, .ref 0), (1, .int y0), (2, .ref 578)] [] H r2 H2 ∧ ((∃ cv, r2 = .inl cv ∧ Pn (some xs) m 373 497 L' (cv.toList ++ []) H2 r H') ∨ (∃ E, r2 = .inr E ∧ r = .inr E ∧ H' = H2)) := by
  obtain ⟨g0, g1, g2, g3, g4, -⟩ := hL
  have h : Pn (some xs) m 373 487 L [.ref 0] H r H' := pnLrn g1 h at_373_486
  have h : Pn (some xs) m 373 488 L [.ref 3000000, .ref 0] H r H' := pnLrn g0 h at_373_487
  have h : Pn (some xs) m 373 490 L [.int i, .ref 3000000, .ref 0] H r H' := pnLi g4 h at_373_488
  have h : Pn (some xs) m 373 491 L [.int (Int32.ofInt 1), .int i, .ref 3000000, .ref 0] H r H' := pnA h at_373_490 rfl rfl
  have h : Pn (some xs) m 373 492 L [.int (i + (Int32.ofInt 1)), .ref 3000000, .ref 0] H r H' := pnA h at_373_491 rfl rfl
  obtain ⟨y0, zy0, h⟩ := pnSa h at_373_492
  have h : Pn (some xs) m 373 493 L [.int y0, .ref 0] H r H' := h
  refine ⟨y0, zy0, ?_⟩
  have h : Pn (some xs) m 373 494 L [.ref 578, .int y0, .ref 0] H r H' := pnLrn g3 h at_373_493
  obtain ⟨r2, H2, q, h⟩ := pnC h at_373_494 kc_373_494.1 kc_373_494.2 (as := [.ref 0, .int y0, .ref 578]) (rest := []) rfl
  have q : Pn none m 334 0 [(0, .ref 0), (1, .int y0), (2, .ref 578)] [] H r2 H2 := q
  exact ⟨_, ⟨g0, g1, g2, g3, g4, trivial⟩, r2, H2, q, h⟩
theorem at_373_497 : mjAtI 373 497 = some (.istore 5, 2, 0, 0, 0) := by decide +kernel
theorem at_373_499 : mjAtI 373 499 = some (.aload_n 2, 1, 0, 0, 0) := by decide +kernel
theorem at_373_500 : mjAtI 373 500 = some (.aload_n 0, 1, 0, 0, 0) := by decide +kernel
theorem at_373_501 : mjAtI 373 501 = some (.iload 4, 2, 0, 0, 0) := by decide +kernel
theorem at_373_503 : mjAtI 373 503 = some (.iconst 1, 1, 0, 0, 0) := by decide +kernel
theorem at_373_504 : mjAtI 373 504 = some (.iadd, 1, 0, 0, 0) := by decide +kernel
theorem at_373_505 : mjAtI 373 505 = some (.iaload, 1, 0, 0, 0) := by decide +kernel
theorem at_373_506 : mjAtI 373 506 = some (.invokevirtual 183, 3, 246, 0, 1951) := by decide +kernel
theorem kc_373_506 : kCall (.invokevirtual 183) 246 373 = true ∧ kArg 246 = 2 := by decide +kernel
theorem lb_6 {m : Nat} {L : mjL} {H H' : mjH} {r : Option Value ⊕ Nat} {xs : List Int32} {i : Int32} {s0 : Int32} (hT : HT H) (hL : LG L [(0, .ref 3000000), (1, .ref 0), (2, .ref 78), (3, .ref 578), (4, .int i)]) (h : Pn (some xs) m 373 497 L [.int s0] H r H') : ∃ y0, (¬ (i + (Int32.ofInt 1)) < 0 ∧ xs[(i + (Int32.ofInt 1)).toNatClampNeg]? = some y0) ∧ ∃ L', LG L' [(0, .ref 3000000), (1, .ref 0), (2, .ref 78), (3, .ref 578), (4, .int i)] ∧ ∃ r2 H2, Pn none m 246 0 [(0, .ref 78), (1, .int y0)] [] H r2 H2 ∧ ((∃ cv, r2 = .inl cv ∧ Pn (some xs) m 373 509 L' (cv.toList ++ []) H2 r H') ∨ (∃ E, r2 = .inr E ∧ r = .inr E ∧ H' = H2)) := by
  obtain ⟨g0, g1, g2, g3, g4, -⟩ := hL
  have h : Pn (some xs) m 373 499 (mjSt 5 (.int s0) L) [] H r H' := pnA h at_373_497 rfl rfl
  have g0 : mjGet (mjSt 5 (.int s0) L) 0 = some (.ref 3000000) := gt_ne g0 (by decide) rfl
  have g1 : mjGet (mjSt 5 (.int s0) L) 1 = some (.ref 0) := gt_ne g1 (by decide) rfl
  have g2 : mjGet (mjSt 5 (.int s0) L) 2 = some (.ref 78) := gt_ne g2 (by decide) rfl
  have g3 : mjGet (mjSt 5 (.int s0) L) 3 = some (.ref 578) := gt_ne g3 (by decide) rfl
  have g4 : mjGet (mjSt 5 (.int s0) L) 4 = some (.int i) := gt_ne g4 (by decide) rfl
  have g5 : mjGet (mjSt 5 (.int s0) L) 5 = some (.int s0) := gt_eq
  have h : Pn (some xs) m 373 500 (mjSt 5 (.int s0) L) [.ref 78] H r H' := pnLrn g2 h at_373_499
  have h : Pn (some xs) m 373 501 (mjSt 5 (.int s0) L) [.ref 3000000, .ref 78] H r H' := pnLrn g0 h at_373_500
  have h : Pn (some xs) m 373 503 (mjSt 5 (.int s0) L) [.int i, .ref 3000000, .ref 78] H r H' := pnLi g4 h at_373_501
  have h : Pn (some xs) m 373 504 (mjSt 5 (.int s0) L) [.int (Int32.ofInt 1), .int i, .ref 3000000, .ref 78] H r H' := pnA h at_373_503 rfl rfl
  have h : Pn (some xs) m 373 505 (mjSt 5 (.int s0) L) [.int (i + (Int32.ofInt 1)), .ref 3000000, .ref 78] H r H' := pnA h at_373_504 rfl rfl
  obtain ⟨y0, zy0, h⟩ := pnSa h at_373_505
  have h : Pn (some xs) m 373 506 (mjSt 5 (.int s0) L) [.int y0, .ref 78] H r H' := h
  refine ⟨y0, zy0, ?_⟩
  obtain ⟨r2, H2, q, h⟩ := pnC h at_373_506 kc_373_506.1 kc_373_506.2 (as := [.ref 78, .int y0]) (rest := []) rfl
  have q : Pn none m 246 0 [(0, .ref 78), (1, .int y0)] [] H r2 H2 := q
  exact ⟨_, ⟨g0, g1, g2, g3, g4, trivial⟩, r2, H2, q, h⟩
theorem at_373_509 : mjAtI 373 509 = some (.lstore 6, 2, 0, 0, 0) := by decide +kernel
theorem at_373_511 : mjAtI 373 511 = some (.goto 1596, 3, 0, 2107, 0) := by decide +kernel
theorem lc_6 {m : Nat} {L : mjL} {H H' : mjH} {r : Option Value ⊕ Nat} {xs : List Int32} {i : Int32} {s1 : Int64} (hT : HT H) (hL : LG L [(0, .ref 3000000), (1, .ref 0), (2, .ref 78), (3, .ref 578), (4, .int i)]) (h : Pn (some xs) m 373 509 L [.long s1] H r H') : ∃ L', LG L' [(0, .ref 3000000), (1, .ref 0), (2, .ref 78), (3, .ref 578), (4, .int (i + Int32.ofInt 6))] ∧ Pn (some xs) m 373 23 L' [] H r H' := by
  obtain ⟨g0, g1, g2, g3, g4, -⟩ := hL
  have h : Pn (some xs) m 373 511 (mjSt2 6 (.long s1) L) [] H r H' := pnA h at_373_509 rfl rfl
  have g0 : mjGet (mjSt2 6 (.long s1) L) 0 = some (.ref 3000000) := gt_ne2 g0 (by decide) (by decide) rfl
  have g1 : mjGet (mjSt2 6 (.long s1) L) 1 = some (.ref 0) := gt_ne2 g1 (by decide) (by decide) rfl
  have g2 : mjGet (mjSt2 6 (.long s1) L) 2 = some (.ref 78) := gt_ne2 g2 (by decide) (by decide) rfl
  have g3 : mjGet (mjSt2 6 (.long s1) L) 3 = some (.ref 578) := gt_ne2 g3 (by decide) (by decide) rfl
  have g4 : mjGet (mjSt2 6 (.long s1) L) 4 = some (.int i) := gt_ne2 g4 (by decide) (by decide) rfl
  have g6 : mjGet (mjSt2 6 (.long s1) L) 6 = some (.long s1) := gt_eq2
  have h : Pn (some xs) m 373 2107 (mjSt2 6 (.long s1) L) [] H r H' := pnA h at_373_511 rfl rfl
  have h : Pn (some xs) m 373 2110 (mjSt 4 (.int (i + Int32.ofInt 6)) (mjSt2 6 (.long s1) L)) [] H r H' := pnInc g4 h at_373_2107
  have g0 : mjGet (mjSt 4 (.int (i + Int32.ofInt 6)) (mjSt2 6 (.long s1) L)) 0 = some (.ref 3000000) := gt_ne g0 (by decide) rfl
  have g1 : mjGet (mjSt 4 (.int (i + Int32.ofInt 6)) (mjSt2 6 (.long s1) L)) 1 = some (.ref 0) := gt_ne g1 (by decide) rfl
  have g2 : mjGet (mjSt 4 (.int (i + Int32.ofInt 6)) (mjSt2 6 (.long s1) L)) 2 = some (.ref 78) := gt_ne g2 (by decide) rfl
  have g3 : mjGet (mjSt 4 (.int (i + Int32.ofInt 6)) (mjSt2 6 (.long s1) L)) 3 = some (.ref 578) := gt_ne g3 (by decide) rfl
  have g6 : mjGet (mjSt 4 (.int (i + Int32.ofInt 6)) (mjSt2 6 (.long s1) L)) 6 = some (.long s1) := gt_ne g6 (by decide) rfl
  have g4 : mjGet (mjSt 4 (.int (i + Int32.ofInt 6)) (mjSt2 6 (.long s1) L)) 4 = some (.int (i + Int32.ofInt 6)) := gt_eq
  have h : Pn (some xs) m 373 23 (mjSt 4 (.int (i + Int32.ofInt 6)) (mjSt2 6 (.long s1) L)) [] H r H' := pnA h at_373_2110 rfl rfl
  exact ⟨_, ⟨g0, g1, g2, g3, g4, trivial⟩, h⟩
theorem at_373_514 : mjAtI 373 514 = some (.aload_n 1, 1, 0, 0, 0) := by decide +kernel
theorem at_373_515 : mjAtI 373 515 = some (.aload_n 0, 1, 0, 0, 0) := by decide +kernel
theorem at_373_516 : mjAtI 373 516 = some (.iload 4, 2, 0, 0, 0) := by decide +kernel
theorem at_373_518 : mjAtI 373 518 = some (.iconst 1, 1, 0, 0, 0) := by decide +kernel
theorem at_373_519 : mjAtI 373 519 = some (.iadd, 1, 0, 0, 0) := by decide +kernel
theorem at_373_520 : mjAtI 373 520 = some (.iaload, 1, 0, 0, 0) := by decide +kernel
theorem at_373_521 : mjAtI 373 521 = some (.aload_n 3, 1, 0, 0, 0) := by decide +kernel
theorem at_373_522 : mjAtI 373 522 = some (.invokestatic 184, 3, 335, 1, 1071) := by decide +kernel
theorem kc_373_522 : kCall (.invokestatic 184) 335 373 = true ∧ kArg 335 = 3 := by decide +kernel
theorem la_7 {m : Nat} {L : mjL} {H H' : mjH} {r : Option Value ⊕ Nat} {xs : List Int32} {i : Int32} (hT : HT H) (hL : LG L [(0, .ref 3000000), (1, .ref 0), (2, .ref 78), (3, .ref 578), (4, .int i)]) (h : Pn (some xs) m 373 514 L [] H r H') : ∃ y0, (¬ (i + (Int32.ofInt 1)) < 0 ∧ xs[(i + (Int32.ofInt 1)).toNatClampNeg]? = some y0) ∧ ∃ L', LG L' [(0, .ref 3000000), (1, .ref 0), (2, .ref 78), (3, .ref 578), (4, .int i)] ∧ ∃ r2 H2, Pn none m 335 0 [(0, .ref 0), (1, .int y0), (2, .ref 578)] [] H r2 H2 ∧ ((∃ cv, r2 = .inl cv ∧ Pn (some xs) m 373 525 L' (cv.toList ++ []) H2 r H') ∨ (∃ E, r2 = .inr E ∧ r = .inr E ∧ H' = H2)) := by
  obtain ⟨g0, g1, g2, g3, g4, -⟩ := hL
  have h : Pn (some xs) m 373 515 L [.ref 0] H r H' := pnLrn g1 h at_373_514
  have h : Pn (some xs) m 373 516 L [.ref 3000000, .ref 0] H r H' := pnLrn g0 h at_373_515
  have h : Pn (some xs) m 373 518 L [.int i, .ref 3000000, .ref 0] H r H' := pnLi g4 h at_373_516
  have h : Pn (some xs) m 373 519 L [.int (Int32.ofInt 1), .int i, .ref 3000000, .ref 0] H r H' := pnA h at_373_518 rfl rfl
  have h : Pn (some xs) m 373 520 L [.int (i + (Int32.ofInt 1)), .ref 3000000, .ref 0] H r H' := pnA h at_373_519 rfl rfl
  obtain ⟨y0, zy0, h⟩ := pnSa h at_373_520
  have h : Pn (some xs) m 373 521 L [.int y0, .ref 0] H r H' := h
  refine ⟨y0, zy0, ?_⟩
  have h : Pn (some xs) m 373 522 L [.ref 578, .int y0, .ref 0] H r H' := pnLrn g3 h at_373_521
  obtain ⟨r2, H2, q, h⟩ := pnC h at_373_522 kc_373_522.1 kc_373_522.2 (as := [.ref 0, .int y0, .ref 578]) (rest := []) rfl
  have q : Pn none m 335 0 [(0, .ref 0), (1, .int y0), (2, .ref 578)] [] H r2 H2 := q
  exact ⟨_, ⟨g0, g1, g2, g3, g4, trivial⟩, r2, H2, q, h⟩
theorem at_373_525 : mjAtI 373 525 = some (.istore 5, 2, 0, 0, 0) := by decide +kernel
theorem at_373_527 : mjAtI 373 527 = some (.aload_n 2, 1, 0, 0, 0) := by decide +kernel
theorem at_373_528 : mjAtI 373 528 = some (.aload_n 0, 1, 0, 0, 0) := by decide +kernel
theorem at_373_529 : mjAtI 373 529 = some (.iload 4, 2, 0, 0, 0) := by decide +kernel
theorem at_373_531 : mjAtI 373 531 = some (.iconst 1, 1, 0, 0, 0) := by decide +kernel
theorem at_373_532 : mjAtI 373 532 = some (.iadd, 1, 0, 0, 0) := by decide +kernel
theorem at_373_533 : mjAtI 373 533 = some (.iaload, 1, 0, 0, 0) := by decide +kernel
theorem at_373_534 : mjAtI 373 534 = some (.invokevirtual 186, 3, 247, 0, 1959) := by decide +kernel
theorem kc_373_534 : kCall (.invokevirtual 186) 247 373 = true ∧ kArg 247 = 2 := by decide +kernel
theorem lb_7 {m : Nat} {L : mjL} {H H' : mjH} {r : Option Value ⊕ Nat} {xs : List Int32} {i : Int32} {s0 : Int32} (hT : HT H) (hL : LG L [(0, .ref 3000000), (1, .ref 0), (2, .ref 78), (3, .ref 578), (4, .int i)]) (h : Pn (some xs) m 373 525 L [.int s0] H r H') : ∃ y0, (¬ (i + (Int32.ofInt 1)) < 0 ∧ xs[(i + (Int32.ofInt 1)).toNatClampNeg]? = some y0) ∧ ∃ L', LG L' [(0, .ref 3000000), (1, .ref 0), (2, .ref 78), (3, .ref 578), (4, .int i)] ∧ ∃ r2 H2, Pn none m 247 0 [(0, .ref 78), (1, .int y0)] [] H r2 H2 ∧ ((∃ cv, r2 = .inl cv ∧ Pn (some xs) m 373 537 L' (cv.toList ++ []) H2 r H') ∨ (∃ E, r2 = .inr E ∧ r = .inr E ∧ H' = H2)) := by
  obtain ⟨g0, g1, g2, g3, g4, -⟩ := hL
  have h : Pn (some xs) m 373 527 (mjSt 5 (.int s0) L) [] H r H' := pnA h at_373_525 rfl rfl
  have g0 : mjGet (mjSt 5 (.int s0) L) 0 = some (.ref 3000000) := gt_ne g0 (by decide) rfl
  have g1 : mjGet (mjSt 5 (.int s0) L) 1 = some (.ref 0) := gt_ne g1 (by decide) rfl
  have g2 : mjGet (mjSt 5 (.int s0) L) 2 = some (.ref 78) := gt_ne g2 (by decide) rfl
  have g3 : mjGet (mjSt 5 (.int s0) L) 3 = some (.ref 578) := gt_ne g3 (by decide) rfl
  have g4 : mjGet (mjSt 5 (.int s0) L) 4 = some (.int i) := gt_ne g4 (by decide) rfl
  have g5 : mjGet (mjSt 5 (.int s0) L) 5 = some (.int s0) := gt_eq
  have h : Pn (some xs) m 373 528 (mjSt 5 (.int s0) L) [.ref 78] H r H' := pnLrn g2 h at_373_527
  have h : Pn (some xs) m 373 529 (mjSt 5 (.int s0) L) [.ref 3000000, .ref 78] H r H' := pnLrn g0 h at_373_528
  have h : Pn (some xs) m 373 531 (mjSt 5 (.int s0) L) [.int i, .ref 3000000, .ref 78] H r H' := pnLi g4 h at_373_529
  have h : Pn (some xs) m 373 532 (mjSt 5 (.int s0) L) [.int (Int32.ofInt 1), .int i, .ref 3000000, .ref 78] H r H' := pnA h at_373_531 rfl rfl
  have h : Pn (some xs) m 373 533 (mjSt 5 (.int s0) L) [.int (i + (Int32.ofInt 1)), .ref 3000000, .ref 78] H r H' := pnA h at_373_532 rfl rfl
  obtain ⟨y0, zy0, h⟩ := pnSa h at_373_533
  have h : Pn (some xs) m 373 534 (mjSt 5 (.int s0) L) [.int y0, .ref 78] H r H' := h
  refine ⟨y0, zy0, ?_⟩
  obtain ⟨r2, H2, q, h⟩ := pnC h at_373_534 kc_373_534.1 kc_373_534.2 (as := [.ref 78, .int y0]) (rest := []) rfl
  have q : Pn none m 247 0 [(0, .ref 78), (1, .int y0)] [] H r2 H2 := q
  exact ⟨_, ⟨g0, g1, g2, g3, g4, trivial⟩, r2, H2, q, h⟩
theorem at_373_537 : mjAtI 373 537 = some (.lstore 6, 2, 0, 0, 0) := by decide +kernel
theorem at_373_539 : mjAtI 373 539 = some (.goto 1568, 3, 0, 2107, 0) := by decide +kernel
theorem lc_7 {m : Nat} {L : mjL} {H H' : mjH} {r : Option Value ⊕ Nat} {xs : List Int32} {i : Int32} {s1 : Int64} (hT : HT H) (hL : LG L [(0, .ref 3000000), (1, .ref 0), (2, .ref 78), (3, .ref 578), (4, .int i)]) (h : Pn (some xs) m 373 537 L [.long s1] H r H') : ∃ L', LG L' [(0, .ref 3000000), (1, .ref 0), (2, .ref 78), (3, .ref 578), (4, .int (i + Int32.ofInt 6))] ∧ Pn (some xs) m 373 23 L' [] H r H' := by
  obtain ⟨g0, g1, g2, g3, g4, -⟩ := hL
  have h : Pn (some xs) m 373 539 (mjSt2 6 (.long s1) L) [] H r H' := pnA h at_373_537 rfl rfl
  have g0 : mjGet (mjSt2 6 (.long s1) L) 0 = some (.ref 3000000) := gt_ne2 g0 (by decide) (by decide) rfl
  have g1 : mjGet (mjSt2 6 (.long s1) L) 1 = some (.ref 0) := gt_ne2 g1 (by decide) (by decide) rfl
  have g2 : mjGet (mjSt2 6 (.long s1) L) 2 = some (.ref 78) := gt_ne2 g2 (by decide) (by decide) rfl
  have g3 : mjGet (mjSt2 6 (.long s1) L) 3 = some (.ref 578) := gt_ne2 g3 (by decide) (by decide) rfl
  have g4 : mjGet (mjSt2 6 (.long s1) L) 4 = some (.int i) := gt_ne2 g4 (by decide) (by decide) rfl
  have g6 : mjGet (mjSt2 6 (.long s1) L) 6 = some (.long s1) := gt_eq2
  have h : Pn (some xs) m 373 2107 (mjSt2 6 (.long s1) L) [] H r H' := pnA h at_373_539 rfl rfl
  have h : Pn (some xs) m 373 2110 (mjSt 4 (.int (i + Int32.ofInt 6)) (mjSt2 6 (.long s1) L)) [] H r H' := pnInc g4 h at_373_2107
  have g0 : mjGet (mjSt 4 (.int (i + Int32.ofInt 6)) (mjSt2 6 (.long s1) L)) 0 = some (.ref 3000000) := gt_ne g0 (by decide) rfl
  have g1 : mjGet (mjSt 4 (.int (i + Int32.ofInt 6)) (mjSt2 6 (.long s1) L)) 1 = some (.ref 0) := gt_ne g1 (by decide) rfl
  have g2 : mjGet (mjSt 4 (.int (i + Int32.ofInt 6)) (mjSt2 6 (.long s1) L)) 2 = some (.ref 78) := gt_ne g2 (by decide) rfl
  have g3 : mjGet (mjSt 4 (.int (i + Int32.ofInt 6)) (mjSt2 6 (.long s1) L)) 3 = some (.ref 578) := gt_ne g3 (by decide) rfl
  have g6 : mjGet (mjSt 4 (.int (i + Int32.ofInt 6)) (mjSt2 6 (.long s1) L)) 6 = some (.long s1) := gt_ne g6 (by decide) rfl
  have g4 : mjGet (mjSt 4 (.int (i + Int32.ofInt 6)) (mjSt2 6 (.long s1) L)) 4 = some (.int (i + Int32.ofInt 6)) := gt_eq
  have h : Pn (some xs) m 373 23 (mjSt 4 (.int (i + Int32.ofInt 6)) (mjSt2 6 (.long s1) L)) [] H r H' := pnA h at_373_2110 rfl rfl
  exact ⟨_, ⟨g0, g1, g2, g3, g4, trivial⟩, h⟩
theorem at_373_542 : mjAtI 373 542 = some (.aload_n 1, 1, 0, 0, 0) := by decide +kernel
theorem at_373_543 : mjAtI 373 543 = some (.aload_n 0, 1, 0, 0, 0) := by decide +kernel
theorem at_373_544 : mjAtI 373 544 = some (.iload 4, 2, 0, 0, 0) := by decide +kernel
theorem at_373_546 : mjAtI 373 546 = some (.iconst 1, 1, 0, 0, 0) := by decide +kernel
theorem at_373_547 : mjAtI 373 547 = some (.iadd, 1, 0, 0, 0) := by decide +kernel
theorem at_373_548 : mjAtI 373 548 = some (.iaload, 1, 0, 0, 0) := by decide +kernel
theorem at_373_549 : mjAtI 373 549 = some (.aload_n 3, 1, 0, 0, 0) := by decide +kernel
theorem at_373_550 : mjAtI 373 550 = some (.invokestatic 187, 3, 336, 1, 1078) := by decide +kernel
theorem kc_373_550 : kCall (.invokestatic 187) 336 373 = true ∧ kArg 336 = 3 := by decide +kernel
theorem la_8 {m : Nat} {L : mjL} {H H' : mjH} {r : Option Value ⊕ Nat} {xs : List Int32} {i : Int32} (hT : HT H) (hL : LG L [(0, .ref 3000000), (1, .ref 0), (2, .ref 78), (3, .ref 578), (4, .int i)]) (h : Pn (some xs) m 373 542 L [] H r H') : ∃ y0, (¬ (i + (Int32.ofInt 1)) < 0 ∧ xs[(i + (Int32.ofInt 1)).toNatClampNeg]? = some y0) ∧ ∃ L', LG L' [(0, .ref 3000000), (1, .ref 0), (2, .ref 78), (3, .ref 578), (4, .int i)] ∧ ∃ r2 H2, Pn none m 336 0 [(0, .ref 0), (1, .int y0), (2, .ref 578)] [] H r2 H2 ∧ ((∃ cv, r2 = .inl cv ∧ Pn (some xs) m 373 553 L' (cv.toList ++ []) H2 r H') ∨ (∃ E, r2 = .inr E ∧ r = .inr E ∧ H' = H2)) := by
  obtain ⟨g0, g1, g2, g3, g4, -⟩ := hL
  have h : Pn (some xs) m 373 543 L [.ref 0] H r H' := pnLrn g1 h at_373_542
  have h : Pn (some xs) m 373 544 L [.ref 3000000, .ref 0] H r H' := pnLrn g0 h at_373_543
  have h : Pn (some xs) m 373 546 L [.int i, .ref 3000000, .ref 0] H r H' := pnLi g4 h at_373_544
  have h : Pn (some xs) m 373 547 L [.int (Int32.ofInt 1), .int i, .ref 3000000, .ref 0] H r H' := pnA h at_373_546 rfl rfl
  have h : Pn (some xs) m 373 548 L [.int (i + (Int32.ofInt 1)), .ref 3000000, .ref 0] H r H' := pnA h at_373_547 rfl rfl
  obtain ⟨y0, zy0, h⟩ := pnSa h at_373_548
  have h : Pn (some xs) m 373 549 L [.int y0, .ref 0] H r H' := h
  refine ⟨y0, zy0, ?_⟩
  have h : Pn (some xs) m 373 550 L [.ref 578, .int y0, .ref 0] H r H' := pnLrn g3 h at_373_549
  obtain ⟨r2, H2, q, h⟩ := pnC h at_373_550 kc_373_550.1 kc_373_550.2 (as := [.ref 0, .int y0, .ref 578]) (rest := []) rfl
  have q : Pn none m 336 0 [(0, .ref 0), (1, .int y0), (2, .ref 578)] [] H r2 H2 := q
  exact ⟨_, ⟨g0, g1, g2, g3, g4, trivial⟩, r2, H2, q, h⟩
theorem at_373_553 : mjAtI 373 553 = some (.istore 5, 2, 0, 0, 0) := by decide +kernel
theorem at_373_555 : mjAtI 373 555 = some (.aload_n 2, 1, 0, 0, 0) := by decide +kernel
theorem at_373_556 : mjAtI 373 556 = some (.aload_n 0, 1, 0, 0, 0) := by decide +kernel
theorem at_373_557 : mjAtI 373 557 = some (.iload 4, 2, 0, 0, 0) := by decide +kernel
theorem at_373_559 : mjAtI 373 559 = some (.iconst 1, 1, 0, 0, 0) := by decide +kernel
theorem at_373_560 : mjAtI 373 560 = some (.iadd, 1, 0, 0, 0) := by decide +kernel
theorem at_373_561 : mjAtI 373 561 = some (.iaload, 1, 0, 0, 0) := by decide +kernel
theorem at_373_562 : mjAtI 373 562 = some (.invokevirtual 189, 3, 248, 0, 1963) := by decide +kernel
theorem kc_373_562 : kCall (.invokevirtual 189) 248 373 = true ∧ kArg 248 = 2 := by decide +kernel
theorem lb_8 {m : Nat} {L : mjL} {H H' : mjH} {r : Option Value ⊕ Nat} {xs : List Int32} {i : Int32} {s0 : Int32} (hT : HT H) (hL : LG L [(0, .ref 3000000), (1, .ref 0), (2, .ref 78), (3, .ref 578), (4, .int i)]) (h : Pn (some xs) m 373 553 L [.int s0] H r H') : ∃ y0, (¬ (i + (Int32.ofInt 1)) < 0 ∧ xs[(i + (Int32.ofInt 1)).toNatClampNeg]? = some y0) ∧ ∃ L', LG L' [(0, .ref 3000000), (1, .ref 0), (2, .ref 78), (3, .ref 578), (4, .int i)] ∧ ∃ r2 H2, Pn none m 248 0 [(0, .ref 78), (1, .int y0)] [] H r2 H2 ∧ ((∃ cv, r2 = .inl cv ∧ Pn (some xs) m 373 565 L' (cv.toList ++ []) H2 r H') ∨ (∃ E, r2 = .inr E ∧ r = .inr E ∧ H' = H2)) := by
  obtain ⟨g0, g1, g2, g3, g4, -⟩ := hL
  have h : Pn (some xs) m 373 555 (mjSt 5 (.int s0) L) [] H r H' := pnA h at_373_553 rfl rfl
  have g0 : mjGet (mjSt 5 (.int s0) L) 0 = some (.ref 3000000) := gt_ne g0 (by decide) rfl
  have g1 : mjGet (mjSt 5 (.int s0) L) 1 = some (.ref 0) := gt_ne g1 (by decide) rfl
  have g2 : mjGet (mjSt 5 (.int s0) L) 2 = some (.ref 78) := gt_ne g2 (by decide) rfl
  have g3 : mjGet (mjSt 5 (.int s0) L) 3 = some (.ref 578) := gt_ne g3 (by decide) rfl
  have g4 : mjGet (mjSt 5 (.int s0) L) 4 = some (.int i) := gt_ne g4 (by decide) rfl
  have g5 : mjGet (mjSt 5 (.int s0) L) 5 = some (.int s0) := gt_eq
  have h : Pn (some xs) m 373 556 (mjSt 5 (.int s0) L) [.ref 78] H r H' := pnLrn g2 h at_373_555
  have h : Pn (some xs) m 373 557 (mjSt 5 (.int s0) L) [.ref 3000000, .ref 78] H r H' := pnLrn g0 h at_373_556
  have h : Pn (some xs) m 373 559 (mjSt 5 (.int s0) L) [.int i, .ref 3000000, .ref 78] H r H' := pnLi g4 h at_373_557
  have h : Pn (some xs) m 373 560 (mjSt 5 (.int s0) L) [.int (Int32.ofInt 1), .int i, .ref 3000000, .ref 78] H r H' := pnA h at_373_559 rfl rfl
  have h : Pn (some xs) m 373 561 (mjSt 5 (.int s0) L) [.int (i + (Int32.ofInt 1)), .ref 3000000, .ref 78] H r H' := pnA h at_373_560 rfl rfl
  obtain ⟨y0, zy0, h⟩ := pnSa h at_373_561
  have h : Pn (some xs) m 373 562 (mjSt 5 (.int s0) L) [.int y0, .ref 78] H r H' := h
  refine ⟨y0, zy0, ?_⟩
  obtain ⟨r2, H2, q, h⟩ := pnC h at_373_562 kc_373_562.1 kc_373_562.2 (as := [.ref 78, .int y0]) (rest := []) rfl
  have q : Pn none m 248 0 [(0, .ref 78), (1, .int y0)] [] H r2 H2 := q
  exact ⟨_, ⟨g0, g1, g2, g3, g4, trivial⟩, r2, H2, q, h⟩
theorem at_373_565 : mjAtI 373 565 = some (.lstore 6, 2, 0, 0, 0) := by decide +kernel
theorem at_373_567 : mjAtI 373 567 = some (.goto 1540, 3, 0, 2107, 0) := by decide +kernel
theorem lc_8 {m : Nat} {L : mjL} {H H' : mjH} {r : Option Value ⊕ Nat} {xs : List Int32} {i : Int32} {s1 : Int64} (hT : HT H) (hL : LG L [(0, .ref 3000000), (1, .ref 0), (2, .ref 78), (3, .ref 578), (4, .int i)]) (h : Pn (some xs) m 373 565 L [.long s1] H r H') : ∃ L', LG L' [(0, .ref 3000000), (1, .ref 0), (2, .ref 78), (3, .ref 578), (4, .int (i + Int32.ofInt 6))] ∧ Pn (some xs) m 373 23 L' [] H r H' := by
  obtain ⟨g0, g1, g2, g3, g4, -⟩ := hL
  have h : Pn (some xs) m 373 567 (mjSt2 6 (.long s1) L) [] H r H' := pnA h at_373_565 rfl rfl
  have g0 : mjGet (mjSt2 6 (.long s1) L) 0 = some (.ref 3000000) := gt_ne2 g0 (by decide) (by decide) rfl
  have g1 : mjGet (mjSt2 6 (.long s1) L) 1 = some (.ref 0) := gt_ne2 g1 (by decide) (by decide) rfl
  have g2 : mjGet (mjSt2 6 (.long s1) L) 2 = some (.ref 78) := gt_ne2 g2 (by decide) (by decide) rfl
  have g3 : mjGet (mjSt2 6 (.long s1) L) 3 = some (.ref 578) := gt_ne2 g3 (by decide) (by decide) rfl
  have g4 : mjGet (mjSt2 6 (.long s1) L) 4 = some (.int i) := gt_ne2 g4 (by decide) (by decide) rfl
  have g6 : mjGet (mjSt2 6 (.long s1) L) 6 = some (.long s1) := gt_eq2
  have h : Pn (some xs) m 373 2107 (mjSt2 6 (.long s1) L) [] H r H' := pnA h at_373_567 rfl rfl
  have h : Pn (some xs) m 373 2110 (mjSt 4 (.int (i + Int32.ofInt 6)) (mjSt2 6 (.long s1) L)) [] H r H' := pnInc g4 h at_373_2107
  have g0 : mjGet (mjSt 4 (.int (i + Int32.ofInt 6)) (mjSt2 6 (.long s1) L)) 0 = some (.ref 3000000) := gt_ne g0 (by decide) rfl
  have g1 : mjGet (mjSt 4 (.int (i + Int32.ofInt 6)) (mjSt2 6 (.long s1) L)) 1 = some (.ref 0) := gt_ne g1 (by decide) rfl
  have g2 : mjGet (mjSt 4 (.int (i + Int32.ofInt 6)) (mjSt2 6 (.long s1) L)) 2 = some (.ref 78) := gt_ne g2 (by decide) rfl
  have g3 : mjGet (mjSt 4 (.int (i + Int32.ofInt 6)) (mjSt2 6 (.long s1) L)) 3 = some (.ref 578) := gt_ne g3 (by decide) rfl
  have g6 : mjGet (mjSt 4 (.int (i + Int32.ofInt 6)) (mjSt2 6 (.long s1) L)) 6 = some (.long s1) := gt_ne g6 (by decide) rfl
  have g4 : mjGet (mjSt 4 (.int (i + Int32.ofInt 6)) (mjSt2 6 (.long s1) L)) 4 = some (.int (i + Int32.ofInt 6)) := gt_eq
  have h : Pn (some xs) m 373 23 (mjSt 4 (.int (i + Int32.ofInt 6)) (mjSt2 6 (.long s1) L)) [] H r H' := pnA h at_373_2110 rfl rfl
  exact ⟨_, ⟨g0, g1, g2, g3, g4, trivial⟩, h⟩
theorem at_373_570 : mjAtI 373 570 = some (.aload_n 1, 1, 0, 0, 0) := by decide +kernel
theorem at_373_571 : mjAtI 373 571 = some (.aload_n 0, 1, 0, 0, 0) := by decide +kernel
theorem at_373_572 : mjAtI 373 572 = some (.iload 4, 2, 0, 0, 0) := by decide +kernel
theorem at_373_574 : mjAtI 373 574 = some (.iconst 1, 1, 0, 0, 0) := by decide +kernel
theorem at_373_575 : mjAtI 373 575 = some (.iadd, 1, 0, 0, 0) := by decide +kernel
theorem at_373_576 : mjAtI 373 576 = some (.iaload, 1, 0, 0, 0) := by decide +kernel
theorem at_373_577 : mjAtI 373 577 = some (.aload_n 0, 1, 0, 0, 0) := by decide +kernel
theorem at_373_578 : mjAtI 373 578 = some (.iload 4, 2, 0, 0, 0) := by decide +kernel
theorem at_373_580 : mjAtI 373 580 = some (.iconst 2, 1, 0, 0, 0) := by decide +kernel
theorem at_373_581 : mjAtI 373 581 = some (.iadd, 1, 0, 0, 0) := by decide +kernel
theorem at_373_582 : mjAtI 373 582 = some (.iaload, 1, 0, 0, 0) := by decide +kernel
theorem at_373_583 : mjAtI 373 583 = some (.aload_n 3, 1, 0, 0, 0) := by decide +kernel
theorem at_373_584 : mjAtI 373 584 = some (.invokestatic 190, 3, 337, 1, 1089) := by decide +kernel
theorem kc_373_584 : kCall (.invokestatic 190) 337 373 = true ∧ kArg 337 = 4 := by decide +kernel
theorem la_9 {m : Nat} {L : mjL} {H H' : mjH} {r : Option Value ⊕ Nat} {xs : List Int32} {i : Int32} (hT : HT H) (hL : LG L [(0, .ref 3000000), (1, .ref 0), (2, .ref 78), (3, .ref 578), (4, .int i)]) (h : Pn (some xs) m 373 570 L [] H r H') : ∃ y0, (¬ (i + (Int32.ofInt 1)) < 0 ∧ xs[(i + (Int32.ofInt 1)).toNatClampNeg]? = some y0) ∧ ∃ y1, (¬ (i + (Int32.ofInt 2)) < 0 ∧ xs[(i + (Int32.ofInt 2)).toNatClampNeg]? = some y1) ∧ ∃ L', LG L' [(0, .ref 3000000), (1, .ref 0), (2, .ref 78), (3, .ref 578), (4, .int i)] ∧ ∃ r2 H2, Pn none m 337 0 [(0, .ref 0), (1, .int y0), (2, .int y1), (3, .ref 578)] [] H r2 H2 ∧ ((∃ cv, r2 = .inl cv ∧ Pn (some xs) m 373 587 L' (cv.toList ++ []) H2 r H') ∨ (∃ E, r2 = .inr E ∧ r = .inr E ∧ H' = H2)) := by
  obtain ⟨g0, g1, g2, g3, g4, -⟩ := hL
  have h : Pn (some xs) m 373 571 L [.ref 0] H r H' := pnLrn g1 h at_373_570
  have h : Pn (some xs) m 373 572 L [.ref 3000000, .ref 0] H r H' := pnLrn g0 h at_373_571
  have h : Pn (some xs) m 373 574 L [.int i, .ref 3000000, .ref 0] H r H' := pnLi g4 h at_373_572
  have h : Pn (some xs) m 373 575 L [.int (Int32.ofInt 1), .int i, .ref 3000000, .ref 0] H r H' := pnA h at_373_574 rfl rfl
  have h : Pn (some xs) m 373 576 L [.int (i + (Int32.ofInt 1)), .ref 3000000, .ref 0] H r H' := pnA h at_373_575 rfl rfl
  obtain ⟨y0, zy0, h⟩ := pnSa h at_373_576
  have h : Pn (some xs) m 373 577 L [.int y0, .ref 0] H r H' := h
  refine ⟨y0, zy0, ?_⟩
  have h : Pn (some xs) m 373 578 L [.ref 3000000, .int y0, .ref 0] H r H' := pnLrn g0 h at_373_577
  have h : Pn (some xs) m 373 580 L [.int i, .ref 3000000, .int y0, .ref 0] H r H' := pnLi g4 h at_373_578
  have h : Pn (some xs) m 373 581 L [.int (Int32.ofInt 2), .int i, .ref 3000000, .int y0, .ref 0] H r H' := pnA h at_373_580 rfl rfl
  have h : Pn (some xs) m 373 582 L [.int (i + (Int32.ofInt 2)), .ref 3000000, .int y0, .ref 0] H r H' := pnA h at_373_581 rfl rfl
  obtain ⟨y1, zy1, h⟩ := pnSa h at_373_582
  have h : Pn (some xs) m 373 583 L [.int y1, .int y0, .ref 0] H r H' := h
  refine ⟨y1, zy1, ?_⟩
  have h : Pn (some xs) m 373 584 L [.ref 578, .int y1, .int y0, .ref 0] H r H' := pnLrn g3 h at_373_583
  obtain ⟨r2, H2, q, h⟩ := pnC h at_373_584 kc_373_584.1 kc_373_584.2 (as := [.ref 0, .int y0, .int y1, .ref 578]) (rest := []) rfl
  have q : Pn none m 337 0 [(0, .ref 0), (1, .int y0), (2, .int y1), (3, .ref 578)] [] H r2 H2 := q
  exact ⟨_, ⟨g0, g1, g2, g3, g4, trivial⟩, r2, H2, q, h⟩
theorem at_373_587 : mjAtI 373 587 = some (.istore 5, 2, 0, 0, 0) := by decide +kernel
theorem at_373_589 : mjAtI 373 589 = some (.aload_n 2, 1, 0, 0, 0) := by decide +kernel
theorem at_373_590 : mjAtI 373 590 = some (.aload_n 0, 1, 0, 0, 0) := by decide +kernel
theorem at_373_591 : mjAtI 373 591 = some (.iload 4, 2, 0, 0, 0) := by decide +kernel
theorem at_373_593 : mjAtI 373 593 = some (.iconst 1, 1, 0, 0, 0) := by decide +kernel
theorem at_373_594 : mjAtI 373 594 = some (.iadd, 1, 0, 0, 0) := by decide +kernel
theorem at_373_595 : mjAtI 373 595 = some (.iaload, 1, 0, 0, 0) := by decide +kernel
theorem at_373_596 : mjAtI 373 596 = some (.aload_n 0, 1, 0, 0, 0) := by decide +kernel
theorem at_373_597 : mjAtI 373 597 = some (.iload 4, 2, 0, 0, 0) := by decide +kernel
theorem at_373_599 : mjAtI 373 599 = some (.iconst 2, 1, 0, 0, 0) := by decide +kernel
theorem at_373_600 : mjAtI 373 600 = some (.iadd, 1, 0, 0, 0) := by decide +kernel
theorem at_373_601 : mjAtI 373 601 = some (.iaload, 1, 0, 0, 0) := by decide +kernel
theorem at_373_602 : mjAtI 373 602 = some (.invokevirtual 193, 3, 249, 0, 1970) := by decide +kernel
theorem kc_373_602 : kCall (.invokevirtual 193) 249 373 = true ∧ kArg 249 = 3 := by decide +kernel
theorem lb_9 {m : Nat} {L : mjL} {H H' : mjH} {r : Option Value ⊕ Nat} {xs : List Int32} {i : Int32} {s0 : Int32} (hT : HT H) (hL : LG L [(0, .ref 3000000), (1, .ref 0), (2, .ref 78), (3, .ref 578), (4, .int i)]) (h : Pn (some xs) m 373 587 L [.int s0] H r H') : ∃ y0, (¬ (i + (Int32.ofInt 1)) < 0 ∧ xs[(i + (Int32.ofInt 1)).toNatClampNeg]? = some y0) ∧ ∃ y1, (¬ (i + (Int32.ofInt 2)) < 0 ∧ xs[(i + (Int32.ofInt 2)).toNatClampNeg]? = some y1) ∧ ∃ L', LG L' [(0, .ref 3000000), (1, .ref 0), (2, .ref 78), (3, .ref 578), (4, .int i)] ∧ ∃ r2 H2, Pn none m 249 0 [(0, .ref 78), (1, .int y0), (2, .int y1)] [] H r2 H2 ∧ ((∃ cv, r2 = .inl cv ∧ Pn (some xs) m 373 605 L' (cv.toList ++ []) H2 r H') ∨ (∃ E, r2 = .inr E ∧ r = .inr E ∧ H' = H2)) := by
  obtain ⟨g0, g1, g2, g3, g4, -⟩ := hL
  have h : Pn (some xs) m 373 589 (mjSt 5 (.int s0) L) [] H r H' := pnA h at_373_587 rfl rfl
  have g0 : mjGet (mjSt 5 (.int s0) L) 0 = some (.ref 3000000) := gt_ne g0 (by decide) rfl
  have g1 : mjGet (mjSt 5 (.int s0) L) 1 = some (.ref 0) := gt_ne g1 (by decide) rfl
  have g2 : mjGet (mjSt 5 (.int s0) L) 2 = some (.ref 78) := gt_ne g2 (by decide) rfl
  have g3 : mjGet (mjSt 5 (.int s0) L) 3 = some (.ref 578) := gt_ne g3 (by decide) rfl
  have g4 : mjGet (mjSt 5 (.int s0) L) 4 = some (.int i) := gt_ne g4 (by decide) rfl
  have g5 : mjGet (mjSt 5 (.int s0) L) 5 = some (.int s0) := gt_eq
  have h : Pn (some xs) m 373 590 (mjSt 5 (.int s0) L) [.ref 78] H r H' := pnLrn g2 h at_373_589
  have h : Pn (some xs) m 373 591 (mjSt 5 (.int s0) L) [.ref 3000000, .ref 78] H r H' := pnLrn g0 h at_373_590
  have h : Pn (some xs) m 373 593 (mjSt 5 (.int s0) L) [.int i, .ref 3000000, .ref 78] H r H' := pnLi g4 h at_373_591
  have h : Pn (some xs) m 373 594 (mjSt 5 (.int s0) L) [.int (Int32.ofInt 1), .int i, .ref 3000000, .ref 78] H r H' := pnA h at_373_593 rfl rfl
  have h : Pn (some xs) m 373 595 (mjSt 5 (.int s0) L) [.int (i + (Int32.ofInt 1)), .ref 3000000, .ref 78] H r H' := pnA h at_373_594 rfl rfl
  obtain ⟨y0, zy0, h⟩ := pnSa h at_373_595
  have h : Pn (some xs) m 373 596 (mjSt 5 (.int s0) L) [.int y0, .ref 78] H r H' := h
  refine ⟨y0, zy0, ?_⟩
  have h : Pn (some xs) m 373 597 (mjSt 5 (.int s0) L) [.ref 3000000, .int y0, .ref 78] H r H' := pnLrn g0 h at_373_596
  have h : Pn (some xs) m 373 599 (mjSt 5 (.int s0) L) [.int i, .ref 3000000, .int y0, .ref 78] H r H' := pnLi g4 h at_373_597
  have h : Pn (some xs) m 373 600 (mjSt 5 (.int s0) L) [.int (Int32.ofInt 2), .int i, .ref 3000000, .int y0, .ref 78] H r H' := pnA h at_373_599 rfl rfl
  have h : Pn (some xs) m 373 601 (mjSt 5 (.int s0) L) [.int (i + (Int32.ofInt 2)), .ref 3000000, .int y0, .ref 78] H r H' := pnA h at_373_600 rfl rfl
  obtain ⟨y1, zy1, h⟩ := pnSa h at_373_601
  have h : Pn (some xs) m 373 602 (mjSt 5 (.int s0) L) [.int y1, .int y0, .ref 78] H r H' := h
  refine ⟨y1, zy1, ?_⟩
  obtain ⟨r2, H2, q, h⟩ := pnC h at_373_602 kc_373_602.1 kc_373_602.2 (as := [.ref 78, .int y0, .int y1]) (rest := []) rfl
  have q : Pn none m 249 0 [(0, .ref 78), (1, .int y0), (2, .int y1)] [] H r2 H2 := q
  exact ⟨_, ⟨g0, g1, g2, g3, g4, trivial⟩, r2, H2, q, h⟩
theorem at_373_605 : mjAtI 373 605 = some (.istore 6, 2, 0, 0, 0) := by decide +kernel
theorem at_373_607 : mjAtI 373 607 = some (.goto 1500, 3, 0, 2107, 0) := by decide +kernel
theorem lc_9 {m : Nat} {L : mjL} {H H' : mjH} {r : Option Value ⊕ Nat} {xs : List Int32} {i : Int32} {s1 : Int32} (hT : HT H) (hL : LG L [(0, .ref 3000000), (1, .ref 0), (2, .ref 78), (3, .ref 578), (4, .int i)]) (h : Pn (some xs) m 373 605 L [.int s1] H r H') : ∃ L', LG L' [(0, .ref 3000000), (1, .ref 0), (2, .ref 78), (3, .ref 578), (4, .int (i + Int32.ofInt 6))] ∧ Pn (some xs) m 373 23 L' [] H r H' := by
  obtain ⟨g0, g1, g2, g3, g4, -⟩ := hL
  have h : Pn (some xs) m 373 607 (mjSt 6 (.int s1) L) [] H r H' := pnA h at_373_605 rfl rfl
  have g0 : mjGet (mjSt 6 (.int s1) L) 0 = some (.ref 3000000) := gt_ne g0 (by decide) rfl
  have g1 : mjGet (mjSt 6 (.int s1) L) 1 = some (.ref 0) := gt_ne g1 (by decide) rfl
  have g2 : mjGet (mjSt 6 (.int s1) L) 2 = some (.ref 78) := gt_ne g2 (by decide) rfl
  have g3 : mjGet (mjSt 6 (.int s1) L) 3 = some (.ref 578) := gt_ne g3 (by decide) rfl
  have g4 : mjGet (mjSt 6 (.int s1) L) 4 = some (.int i) := gt_ne g4 (by decide) rfl
  have g6 : mjGet (mjSt 6 (.int s1) L) 6 = some (.int s1) := gt_eq
  have h : Pn (some xs) m 373 2107 (mjSt 6 (.int s1) L) [] H r H' := pnA h at_373_607 rfl rfl
  have h : Pn (some xs) m 373 2110 (mjSt 4 (.int (i + Int32.ofInt 6)) (mjSt 6 (.int s1) L)) [] H r H' := pnInc g4 h at_373_2107
  have g0 : mjGet (mjSt 4 (.int (i + Int32.ofInt 6)) (mjSt 6 (.int s1) L)) 0 = some (.ref 3000000) := gt_ne g0 (by decide) rfl
  have g1 : mjGet (mjSt 4 (.int (i + Int32.ofInt 6)) (mjSt 6 (.int s1) L)) 1 = some (.ref 0) := gt_ne g1 (by decide) rfl
  have g2 : mjGet (mjSt 4 (.int (i + Int32.ofInt 6)) (mjSt 6 (.int s1) L)) 2 = some (.ref 78) := gt_ne g2 (by decide) rfl
  have g3 : mjGet (mjSt 4 (.int (i + Int32.ofInt 6)) (mjSt 6 (.int s1) L)) 3 = some (.ref 578) := gt_ne g3 (by decide) rfl
  have g6 : mjGet (mjSt 4 (.int (i + Int32.ofInt 6)) (mjSt 6 (.int s1) L)) 6 = some (.int s1) := gt_ne g6 (by decide) rfl
  have g4 : mjGet (mjSt 4 (.int (i + Int32.ofInt 6)) (mjSt 6 (.int s1) L)) 4 = some (.int (i + Int32.ofInt 6)) := gt_eq
  have h : Pn (some xs) m 373 23 (mjSt 4 (.int (i + Int32.ofInt 6)) (mjSt 6 (.int s1) L)) [] H r H' := pnA h at_373_2110 rfl rfl
  exact ⟨_, ⟨g0, g1, g2, g3, g4, trivial⟩, h⟩
theorem at_373_610 : mjAtI 373 610 = some (.aload_n 1, 1, 0, 0, 0) := by decide +kernel
theorem at_373_611 : mjAtI 373 611 = some (.aload_n 0, 1, 0, 0, 0) := by decide +kernel
theorem at_373_612 : mjAtI 373 612 = some (.iload 4, 2, 0, 0, 0) := by decide +kernel
theorem at_373_614 : mjAtI 373 614 = some (.iconst 1, 1, 0, 0, 0) := by decide +kernel
theorem at_373_615 : mjAtI 373 615 = some (.iadd, 1, 0, 0, 0) := by decide +kernel
theorem at_373_616 : mjAtI 373 616 = some (.iaload, 1, 0, 0, 0) := by decide +kernel
theorem at_373_617 : mjAtI 373 617 = some (.aload_n 0, 1, 0, 0, 0) := by decide +kernel
theorem at_373_618 : mjAtI 373 618 = some (.iload 4, 2, 0, 0, 0) := by decide +kernel
theorem at_373_620 : mjAtI 373 620 = some (.iconst 2, 1, 0, 0, 0) := by decide +kernel
theorem at_373_621 : mjAtI 373 621 = some (.iadd, 1, 0, 0, 0) := by decide +kernel
theorem at_373_622 : mjAtI 373 622 = some (.iaload, 1, 0, 0, 0) := by decide +kernel
theorem at_373_623 : mjAtI 373 623 = some (.aload_n 0, 1, 0, 0, 0) := by decide +kernel
theorem at_373_624 : mjAtI 373 624 = some (.iload 4, 2, 0, 0, 0) := by decide +kernel
theorem at_373_626 : mjAtI 373 626 = some (.iconst 3, 1, 0, 0, 0) := by decide +kernel
theorem at_373_627 : mjAtI 373 627 = some (.iadd, 1, 0, 0, 0) := by decide +kernel
theorem at_373_628 : mjAtI 373 628 = some (.iaload, 1, 0, 0, 0) := by decide +kernel
theorem at_373_629 : mjAtI 373 629 = some (.aload_n 3, 1, 0, 0, 0) := by decide +kernel
theorem at_373_630 : mjAtI 373 630 = some (.invokestatic 194, 3, 338, 1, 1097) := by decide +kernel
theorem kc_373_630 : kCall (.invokestatic 194) 338 373 = true ∧ kArg 338 = 5 := by decide +kernel
theorem la_10 {m : Nat} {L : mjL} {H H' : mjH} {r : Option Value ⊕ Nat} {xs : List Int32} {i : Int32} (hT : HT H) (hL : LG L [(0, .ref 3000000), (1, .ref 0), (2, .ref 78), (3, .ref 578), (4, .int i)]) (h : Pn (some xs) m 373 610 L [] H r H') : ∃ y0, (¬ (i + (Int32.ofInt 1)) < 0 ∧ xs[(i + (Int32.ofInt 1)).toNatClampNeg]? = some y0) ∧ ∃ y1, (¬ (i + (Int32.ofInt 2)) < 0 ∧ xs[(i + (Int32.ofInt 2)).toNatClampNeg]? = some y1) ∧ ∃ y2, (¬ (i + (Int32.ofInt 3)) < 0 ∧ xs[(i + (Int32.ofInt 3)).toNatClampNeg]? = some y2) ∧ ∃ L', LG L' [(0, .ref 3000000), (1, .ref 0), (2, .ref 78), (3, .ref 578), (4, .int i)] ∧ ∃ r2 H2, Pn none m 338 0 [(0, .ref 0), (1, .int y0), (2, .int y1), (3, .int y2), (4, .ref 578)] [] H r2 H2 ∧ ((∃ cv, r2 = .inl cv ∧ Pn (some xs) m 373 633 L' (cv.toList ++ []) H2 r H') ∨ (∃ E, r2 = .inr E ∧ r = .inr E ∧ H' = H2)) := by
  obtain ⟨g0, g1, g2, g3, g4, -⟩ := hL
  have h : Pn (some xs) m 373 611 L [.ref 0] H r H' := pnLrn g1 h at_373_610
  have h : Pn (some xs) m 373 612 L [.ref 3000000, .ref 0] H r H' := pnLrn g0 h at_373_611
  have h : Pn (some xs) m 373 614 L [.int i, .ref 3000000, .ref 0] H r H' := pnLi g4 h at_373_612
  have h : Pn (some xs) m 373 615 L [.int (Int32.ofInt 1), .int i, .ref 3000000, .ref 0] H r H' := pnA h at_373_614 rfl rfl
  have h : Pn (some xs) m 373 616 L [.int (i + (Int32.ofInt 1)), .ref 3000000, .ref 0] H r H' := pnA h at_373_615 rfl rfl
  obtain ⟨y0, zy0, h⟩ := pnSa h at_373_616
  have h : Pn (some xs) m 373 617 L [.int y0, .ref 0] H r H' := h
  refine ⟨y0, zy0, ?_⟩
  have h : Pn (some xs) m 373 618 L [.ref 3000000, .int y0, .ref 0] H r H' := pnLrn g0 h at_373_617
  have h : Pn (some xs) m 373 620 L [.int i, .ref 3000000, .int y0, .ref 0] H r H' := pnLi g4 h at_373_618
  have h : Pn (some xs) m 373 621 L [.int (Int32.ofInt 2), .int i, .ref 3000000, .int y0, .ref 0] H r H' := pnA h at_373_620 rfl rfl
  have h : Pn (some xs) m 373 622 L [.int (i + (Int32.ofInt 2)), .ref 3000000, .int y0, .ref 0] H r H' := pnA h at_373_621 rfl rfl
  obtain ⟨y1, zy1, h⟩ := pnSa h at_373_622
  have h : Pn (some xs) m 373 623 L [.int y1, .int y0, .ref 0] H r H' := h
  refine ⟨y1, zy1, ?_⟩
  have h : Pn (some xs) m 373 624 L [.ref 3000000, .int y1, .int y0, .ref 0] H r H' := pnLrn g0 h at_373_623
  have h : Pn (some xs) m 373 626 L [.int i, .ref 3000000, .int y1, .int y0, .ref 0] H r H' := pnLi g4 h at_373_624
  have h : Pn (some xs) m 373 627 L [.int (Int32.ofInt 3), .int i, .ref 3000000, .int y1, .int y0, .ref 0] H r H' := pnA h at_373_626 rfl rfl
  have h : Pn (some xs) m 373 628 L [.int (i + (Int32.ofInt 3)), .ref 3000000, .int y1, .int y0, .ref 0] H r H' := pnA h at_373_627 rfl rfl
  obtain ⟨y2, zy2, h⟩ := pnSa h at_373_628
  have h : Pn (some xs) m 373 629 L [.int y2, .int y1, .int y0, .ref 0] H r H' := h
  refine ⟨y2, zy2, ?_⟩
  have h : Pn (some xs) m 373 630 L [.ref 578, .int y2, .int y1, .int y0, .ref 0] H r H' := pnLrn g3 h at_373_629
  obtain ⟨r2, H2, q, h⟩ := pnC h at_373_630 kc_373_630.1 kc_373_630.2 (as := [.ref 0, .int y0, .int y1, .int y2, .ref 578]) (rest := []) rfl
  have q : Pn none m 338 0 [(0, .ref 0), (1, .int y0), (2, .int y1), (3, .int y2), (4, .ref 578)] [] H r2 H2 := q
  exact ⟨_, ⟨g0, g1, g2, g3, g4, trivial⟩, r2, H2, q, h⟩
theorem at_373_633 : mjAtI 373 633 = some (.istore 5, 2, 0, 0, 0) := by decide +kernel
theorem at_373_635 : mjAtI 373 635 = some (.aload_n 2, 1, 0, 0, 0) := by decide +kernel
theorem at_373_636 : mjAtI 373 636 = some (.aload_n 0, 1, 0, 0, 0) := by decide +kernel
theorem at_373_637 : mjAtI 373 637 = some (.iload 4, 2, 0, 0, 0) := by decide +kernel
theorem at_373_639 : mjAtI 373 639 = some (.iconst 1, 1, 0, 0, 0) := by decide +kernel
theorem at_373_640 : mjAtI 373 640 = some (.iadd, 1, 0, 0, 0) := by decide +kernel
theorem at_373_641 : mjAtI 373 641 = some (.iaload, 1, 0, 0, 0) := by decide +kernel
theorem at_373_642 : mjAtI 373 642 = some (.aload_n 0, 1, 0, 0, 0) := by decide +kernel
theorem at_373_643 : mjAtI 373 643 = some (.iload 4, 2, 0, 0, 0) := by decide +kernel
theorem at_373_645 : mjAtI 373 645 = some (.iconst 2, 1, 0, 0, 0) := by decide +kernel
theorem at_373_646 : mjAtI 373 646 = some (.iadd, 1, 0, 0, 0) := by decide +kernel
theorem at_373_647 : mjAtI 373 647 = some (.iaload, 1, 0, 0, 0) := by decide +kernel
theorem at_373_648 : mjAtI 373 648 = some (.aload_n 0, 1, 0, 0, 0) := by decide +kernel
theorem at_373_649 : mjAtI 373 649 = some (.iload 4, 2, 0, 0, 0) := by decide +kernel
theorem at_373_651 : mjAtI 373 651 = some (.iconst 3, 1, 0, 0, 0) := by decide +kernel
theorem at_373_652 : mjAtI 373 652 = some (.iadd, 1, 0, 0, 0) := by decide +kernel
theorem at_373_653 : mjAtI 373 653 = some (.iaload, 1, 0, 0, 0) := by decide +kernel
theorem at_373_654 : mjAtI 373 654 = some (.invokevirtual 197, 3, 251, 0, 1974) := by decide +kernel
theorem kc_373_654 : kCall (.invokevirtual 197) 251 373 = true ∧ kArg 251 = 4 := by decide +kernel
theorem lb_10 {m : Nat} {L : mjL} {H H' : mjH} {r : Option Value ⊕ Nat} {xs : List Int32} {i : Int32} {s0 : Int32} (hT : HT H) (hL : LG L [(0, .ref 3000000), (1, .ref 0), (2, .ref 78), (3, .ref 578), (4, .int i)]) (h : Pn (some xs) m 373 633 L [.int s0] H r H') : ∃ y0, (¬ (i + (Int32.ofInt 1)) < 0 ∧ xs[(i + (Int32.ofInt 1)).toNatClampNeg]? = some y0) ∧ ∃ y1, (¬ (i + (Int32.ofInt 2)) < 0 ∧ xs[(i + (Int32.ofInt 2)).toNatClampNeg]? = some y1) ∧ ∃ y2, (¬ (i + (Int32.ofInt 3)) < 0 ∧ xs[(i + (Int32.ofInt 3)).toNatClampNeg]? = some y2) ∧ ∃ L', LG L' [(0, .ref 3000000), (1, .ref 0), (2, .ref 78), (3, .ref 578), (4, .int i)] ∧ ∃ r2 H2, Pn none m 251 0 [(0, .ref 78), (1, .int y0), (2, .int y1), (3, .int y2)] [] H r2 H2 ∧ ((∃ cv, r2 = .inl cv ∧ Pn (some xs) m 373 657 L' (cv.toList ++ []) H2 r H') ∨ (∃ E, r2 = .inr E ∧ r = .inr E ∧ H' = H2)) := by
  obtain ⟨g0, g1, g2, g3, g4, -⟩ := hL
  have h : Pn (some xs) m 373 635 (mjSt 5 (.int s0) L) [] H r H' := pnA h at_373_633 rfl rfl
  have g0 : mjGet (mjSt 5 (.int s0) L) 0 = some (.ref 3000000) := gt_ne g0 (by decide) rfl
  have g1 : mjGet (mjSt 5 (.int s0) L) 1 = some (.ref 0) := gt_ne g1 (by decide) rfl
  have g2 : mjGet (mjSt 5 (.int s0) L) 2 = some (.ref 78) := gt_ne g2 (by decide) rfl
  have g3 : mjGet (mjSt 5 (.int s0) L) 3 = some (.ref 578) := gt_ne g3 (by decide) rfl
  have g4 : mjGet (mjSt 5 (.int s0) L) 4 = some (.int i) := gt_ne g4 (by decide) rfl
  have g5 : mjGet (mjSt 5 (.int s0) L) 5 = some (.int s0) := gt_eq
  have h : Pn (some xs) m 373 636 (mjSt 5 (.int s0) L) [.ref 78] H r H' := pnLrn g2 h at_373_635
  have h : Pn (some xs) m 373 637 (mjSt 5 (.int s0) L) [.ref 3000000, .ref 78] H r H' := pnLrn g0 h at_373_636
  have h : Pn (some xs) m 373 639 (mjSt 5 (.int s0) L) [.int i, .ref 3000000, .ref 78] H r H' := pnLi g4 h at_373_637
  have h : Pn (some xs) m 373 640 (mjSt 5 (.int s0) L) [.int (Int32.ofInt 1), .int i, .ref 3000000, .ref 78] H r H' := pnA h at_373_639 rfl rfl
  have h : Pn (some xs) m 373 641 (mjSt 5 (.int s0) L) [.int (i + (Int32.ofInt 1)), .ref 3000000, .ref 78] H r H' := pnA h at_373_640 rfl rfl
  obtain ⟨y0, zy0, h⟩ := pnSa h at_373_641
  have h : Pn (some xs) m 373 642 (mjSt 5 (.int s0) L) [.int y0, .ref 78] H r H' := h
  refine ⟨y0, zy0, ?_⟩
  have h : Pn (some xs) m 373 643 (mjSt 5 (.int s0) L) [.ref 3000000, .int y0, .ref 78] H r H' := pnLrn g0 h at_373_642
  have h : Pn (some xs) m 373 645 (mjSt 5 (.int s0) L) [.int i, .ref 3000000, .int y0, .ref 78] H r H' := pnLi g4 h at_373_643
  have h : Pn (some xs) m 373 646 (mjSt 5 (.int s0) L) [.int (Int32.ofInt 2), .int i, .ref 3000000, .int y0, .ref 78] H r H' := pnA h at_373_645 rfl rfl
  have h : Pn (some xs) m 373 647 (mjSt 5 (.int s0) L) [.int (i + (Int32.ofInt 2)), .ref 3000000, .int y0, .ref 78] H r H' := pnA h at_373_646 rfl rfl
  obtain ⟨y1, zy1, h⟩ := pnSa h at_373_647
  have h : Pn (some xs) m 373 648 (mjSt 5 (.int s0) L) [.int y1, .int y0, .ref 78] H r H' := h
  refine ⟨y1, zy1, ?_⟩
  have h : Pn (some xs) m 373 649 (mjSt 5 (.int s0) L) [.ref 3000000, .int y1, .int y0, .ref 78] H r H' := pnLrn g0 h at_373_648
  have h : Pn (some xs) m 373 651 (mjSt 5 (.int s0) L) [.int i, .ref 3000000, .int y1, .int y0, .ref 78] H r H' := pnLi g4 h at_373_649
  have h : Pn (some xs) m 373 652 (mjSt 5 (.int s0) L) [.int (Int32.ofInt 3), .int i, .ref 3000000, .int y1, .int y0, .ref 78] H r H' := pnA h at_373_651 rfl rfl
  have h : Pn (some xs) m 373 653 (mjSt 5 (.int s0) L) [.int (i + (Int32.ofInt 3)), .ref 3000000, .int y1, .int y0, .ref 78] H r H' := pnA h at_373_652 rfl rfl
  obtain ⟨y2, zy2, h⟩ := pnSa h at_373_653
  have h : Pn (some xs) m 373 654 (mjSt 5 (.int s0) L) [.int y2, .int y1, .int y0, .ref 78] H r H' := h
  refine ⟨y2, zy2, ?_⟩
  obtain ⟨r2, H2, q, h⟩ := pnC h at_373_654 kc_373_654.1 kc_373_654.2 (as := [.ref 78, .int y0, .int y1, .int y2]) (rest := []) rfl
  have q : Pn none m 251 0 [(0, .ref 78), (1, .int y0), (2, .int y1), (3, .int y2)] [] H r2 H2 := q
  exact ⟨_, ⟨g0, g1, g2, g3, g4, trivial⟩, r2, H2, q, h⟩
theorem at_373_657 : mjAtI 373 657 = some (.istore 6, 2, 0, 0, 0) := by decide +kernel
theorem at_373_659 : mjAtI 373 659 = some (.goto 1448, 3, 0, 2107, 0) := by decide +kernel
theorem lc_10 {m : Nat} {L : mjL} {H H' : mjH} {r : Option Value ⊕ Nat} {xs : List Int32} {i : Int32} {s1 : Int32} (hT : HT H) (hL : LG L [(0, .ref 3000000), (1, .ref 0), (2, .ref 78), (3, .ref 578), (4, .int i)]) (h : Pn (some xs) m 373 657 L [.int s1] H r H') : ∃ L', LG L' [(0, .ref 3000000), (1, .ref 0), (2, .ref 78), (3, .ref 578), (4, .int (i + Int32.ofInt 6))] ∧ Pn (some xs) m 373 23 L' [] H r H' := by
  obtain ⟨g0, g1, g2, g3, g4, -⟩ := hL
  have h : Pn (some xs) m 373 659 (mjSt 6 (.int s1) L) [] H r H' := pnA h at_373_657 rfl rfl
  have g0 : mjGet (mjSt 6 (.int s1) L) 0 = some (.ref 3000000) := gt_ne g0 (by decide) rfl
  have g1 : mjGet (mjSt 6 (.int s1) L) 1 = some (.ref 0) := gt_ne g1 (by decide) rfl
  have g2 : mjGet (mjSt 6 (.int s1) L) 2 = some (.ref 78) := gt_ne g2 (by decide) rfl
  have g3 : mjGet (mjSt 6 (.int s1) L) 3 = some (.ref 578) := gt_ne g3 (by decide) rfl
  have g4 : mjGet (mjSt 6 (.int s1) L) 4 = some (.int i) := gt_ne g4 (by decide) rfl
  have g6 : mjGet (mjSt 6 (.int s1) L) 6 = some (.int s1) := gt_eq
  have h : Pn (some xs) m 373 2107 (mjSt 6 (.int s1) L) [] H r H' := pnA h at_373_659 rfl rfl
  have h : Pn (some xs) m 373 2110 (mjSt 4 (.int (i + Int32.ofInt 6)) (mjSt 6 (.int s1) L)) [] H r H' := pnInc g4 h at_373_2107
  have g0 : mjGet (mjSt 4 (.int (i + Int32.ofInt 6)) (mjSt 6 (.int s1) L)) 0 = some (.ref 3000000) := gt_ne g0 (by decide) rfl
  have g1 : mjGet (mjSt 4 (.int (i + Int32.ofInt 6)) (mjSt 6 (.int s1) L)) 1 = some (.ref 0) := gt_ne g1 (by decide) rfl
  have g2 : mjGet (mjSt 4 (.int (i + Int32.ofInt 6)) (mjSt 6 (.int s1) L)) 2 = some (.ref 78) := gt_ne g2 (by decide) rfl
  have g3 : mjGet (mjSt 4 (.int (i + Int32.ofInt 6)) (mjSt 6 (.int s1) L)) 3 = some (.ref 578) := gt_ne g3 (by decide) rfl
  have g6 : mjGet (mjSt 4 (.int (i + Int32.ofInt 6)) (mjSt 6 (.int s1) L)) 6 = some (.int s1) := gt_ne g6 (by decide) rfl
  have g4 : mjGet (mjSt 4 (.int (i + Int32.ofInt 6)) (mjSt 6 (.int s1) L)) 4 = some (.int (i + Int32.ofInt 6)) := gt_eq
  have h : Pn (some xs) m 373 23 (mjSt 4 (.int (i + Int32.ofInt 6)) (mjSt 6 (.int s1) L)) [] H r H' := pnA h at_373_2110 rfl rfl
  exact ⟨_, ⟨g0, g1, g2, g3, g4, trivial⟩, h⟩
theorem at_373_662 : mjAtI 373 662 = some (.aload_n 1, 1, 0, 0, 0) := by decide +kernel
theorem at_373_663 : mjAtI 373 663 = some (.invokevirtual 198, 3, 124, 0, 445) := by decide +kernel
theorem kc_373_663 : kCall (.invokevirtual 198) 124 373 = true ∧ kArg 124 = 1 := by decide +kernel
theorem la_11 {m : Nat} {L : mjL} {H H' : mjH} {r : Option Value ⊕ Nat} {xs : List Int32} {i : Int32} (hT : HT H) (hL : LG L [(0, .ref 3000000), (1, .ref 0), (2, .ref 78), (3, .ref 578), (4, .int i)]) (h : Pn (some xs) m 373 662 L [] H r H') : ∃ L', LG L' [(0, .ref 3000000), (1, .ref 0), (2, .ref 78), (3, .ref 578), (4, .int i)] ∧ ∃ r2 H2, Pn none m 124 0 [(0, .ref 0)] [] H r2 H2 ∧ ((∃ cv, r2 = .inl cv ∧ Pn (some xs) m 373 666 L' (cv.toList ++ []) H2 r H') ∨ (∃ E, r2 = .inr E ∧ r = .inr E ∧ H' = H2)) := by
  obtain ⟨g0, g1, g2, g3, g4, -⟩ := hL
  have h : Pn (some xs) m 373 663 L [.ref 0] H r H' := pnLrn g1 h at_373_662
  obtain ⟨r2, H2, q, h⟩ := pnC h at_373_663 kc_373_663.1 kc_373_663.2 (as := [.ref 0]) (rest := []) rfl
  have q : Pn none m 124 0 [(0, .ref 0)] [] H r2 H2 := q
  exact ⟨_, ⟨g0, g1, g2, g3, g4, trivial⟩, r2, H2, q, h⟩
theorem at_373_666 : mjAtI 373 666 = some (.pop, 1, 0, 0, 0) := by decide +kernel
theorem at_373_667 : mjAtI 373 667 = some (.aload_n 2, 1, 0, 0, 0) := by decide +kernel
theorem at_373_668 : mjAtI 373 668 = some (.invokevirtual 201, 3, 254, 0, 1982) := by decide +kernel
theorem kc_373_668 : kCall (.invokevirtual 201) 254 373 = true ∧ kArg 254 = 1 := by decide +kernel
theorem lb_11 {m : Nat} {L : mjL} {H H' : mjH} {r : Option Value ⊕ Nat} {xs : List Int32} {i : Int32} {s0 : Int32} (hT : HT H) (hL : LG L [(0, .ref 3000000), (1, .ref 0), (2, .ref 78), (3, .ref 578), (4, .int i)]) (h : Pn (some xs) m 373 666 L [.int s0] H r H') : ∃ L', LG L' [(0, .ref 3000000), (1, .ref 0), (2, .ref 78), (3, .ref 578), (4, .int i)] ∧ ∃ r2 H2, Pn none m 254 0 [(0, .ref 78)] [] H r2 H2 ∧ ((∃ cv, r2 = .inl cv ∧ Pn (some xs) m 373 671 L' (cv.toList ++ []) H2 r H') ∨ (∃ E, r2 = .inr E ∧ r = .inr E ∧ H' = H2)) := by
  obtain ⟨g0, g1, g2, g3, g4, -⟩ := hL
  have h : Pn (some xs) m 373 667 L [] H r H' := pnA h at_373_666 rfl rfl
  have h : Pn (some xs) m 373 668 L [.ref 78] H r H' := pnLrn g2 h at_373_667
  obtain ⟨r2, H2, q, h⟩ := pnC h at_373_668 kc_373_668.1 kc_373_668.2 (as := [.ref 78]) (rest := []) rfl
  have q : Pn none m 254 0 [(0, .ref 78)] [] H r2 H2 := q
  exact ⟨_, ⟨g0, g1, g2, g3, g4, trivial⟩, r2, H2, q, h⟩
theorem at_373_671 : mjAtI 373 671 = some (.pop, 1, 0, 0, 0) := by decide +kernel
theorem at_373_672 : mjAtI 373 672 = some (.goto 1435, 3, 0, 2107, 0) := by decide +kernel
theorem lc_11 {m : Nat} {L : mjL} {H H' : mjH} {r : Option Value ⊕ Nat} {xs : List Int32} {i : Int32} {s1 : Int32} (hT : HT H) (hL : LG L [(0, .ref 3000000), (1, .ref 0), (2, .ref 78), (3, .ref 578), (4, .int i)]) (h : Pn (some xs) m 373 671 L [.int s1] H r H') : ∃ L', LG L' [(0, .ref 3000000), (1, .ref 0), (2, .ref 78), (3, .ref 578), (4, .int (i + Int32.ofInt 6))] ∧ Pn (some xs) m 373 23 L' [] H r H' := by
  obtain ⟨g0, g1, g2, g3, g4, -⟩ := hL
  have h : Pn (some xs) m 373 672 L [] H r H' := pnA h at_373_671 rfl rfl
  have h : Pn (some xs) m 373 2107 L [] H r H' := pnA h at_373_672 rfl rfl
  have h : Pn (some xs) m 373 2110 (mjSt 4 (.int (i + Int32.ofInt 6)) L) [] H r H' := pnInc g4 h at_373_2107
  have g0 : mjGet (mjSt 4 (.int (i + Int32.ofInt 6)) L) 0 = some (.ref 3000000) := gt_ne g0 (by decide) rfl
  have g1 : mjGet (mjSt 4 (.int (i + Int32.ofInt 6)) L) 1 = some (.ref 0) := gt_ne g1 (by decide) rfl
  have g2 : mjGet (mjSt 4 (.int (i + Int32.ofInt 6)) L) 2 = some (.ref 78) := gt_ne g2 (by decide) rfl
  have g3 : mjGet (mjSt 4 (.int (i + Int32.ofInt 6)) L) 3 = some (.ref 578) := gt_ne g3 (by decide) rfl
  have g4 : mjGet (mjSt 4 (.int (i + Int32.ofInt 6)) L) 4 = some (.int (i + Int32.ofInt 6)) := gt_eq
  have h : Pn (some xs) m 373 23 (mjSt 4 (.int (i + Int32.ofInt 6)) L) [] H r H' := pnA h at_373_2110 rfl rfl
  exact ⟨_, ⟨g0, g1, g2, g3, g4, trivial⟩, h⟩
theorem at_373_675 : mjAtI 373 675 = some (.aload_n 1, 1, 0, 0, 0) := by decide +kernel
theorem at_373_676 : mjAtI 373 676 = some (.invokevirtual 202, 3, 125, 0, 457) := by decide +kernel
theorem kc_373_676 : kCall (.invokevirtual 202) 125 373 = true ∧ kArg 125 = 1 := by decide +kernel
theorem la_12 {m : Nat} {L : mjL} {H H' : mjH} {r : Option Value ⊕ Nat} {xs : List Int32} {i : Int32} (hT : HT H) (hL : LG L [(0, .ref 3000000), (1, .ref 0), (2, .ref 78), (3, .ref 578), (4, .int i)]) (h : Pn (some xs) m 373 675 L [] H r H') : ∃ L', LG L' [(0, .ref 3000000), (1, .ref 0), (2, .ref 78), (3, .ref 578), (4, .int i)] ∧ ∃ r2 H2, Pn none m 125 0 [(0, .ref 0)] [] H r2 H2 ∧ ((∃ cv, r2 = .inl cv ∧ Pn (some xs) m 373 679 L' (cv.toList ++ []) H2 r H') ∨ (∃ E, r2 = .inr E ∧ r = .inr E ∧ H' = H2)) := by
  obtain ⟨g0, g1, g2, g3, g4, -⟩ := hL
  have h : Pn (some xs) m 373 676 L [.ref 0] H r H' := pnLrn g1 h at_373_675
  obtain ⟨r2, H2, q, h⟩ := pnC h at_373_676 kc_373_676.1 kc_373_676.2 (as := [.ref 0]) (rest := []) rfl
  have q : Pn none m 125 0 [(0, .ref 0)] [] H r2 H2 := q
  exact ⟨_, ⟨g0, g1, g2, g3, g4, trivial⟩, r2, H2, q, h⟩
theorem at_373_679 : mjAtI 373 679 = some (.pop, 1, 0, 0, 0) := by decide +kernel
theorem at_373_680 : mjAtI 373 680 = some (.aload_n 2, 1, 0, 0, 0) := by decide +kernel
theorem at_373_681 : mjAtI 373 681 = some (.invokevirtual 205, 3, 255, 0, 1994) := by decide +kernel
theorem kc_373_681 : kCall (.invokevirtual 205) 255 373 = true ∧ kArg 255 = 1 := by decide +kernel
theorem lb_12 {m : Nat} {L : mjL} {H H' : mjH} {r : Option Value ⊕ Nat} {xs : List Int32} {i : Int32} {s0 : Int32} (hT : HT H) (hL : LG L [(0, .ref 3000000), (1, .ref 0), (2, .ref 78), (3, .ref 578), (4, .int i)]) (h : Pn (some xs) m 373 679 L [.int s0] H r H') : ∃ L', LG L' [(0, .ref 3000000), (1, .ref 0), (2, .ref 78), (3, .ref 578), (4, .int i)] ∧ ∃ r2 H2, Pn none m 255 0 [(0, .ref 78)] [] H r2 H2 ∧ ((∃ cv, r2 = .inl cv ∧ Pn (some xs) m 373 684 L' (cv.toList ++ []) H2 r H') ∨ (∃ E, r2 = .inr E ∧ r = .inr E ∧ H' = H2)) := by
  obtain ⟨g0, g1, g2, g3, g4, -⟩ := hL
  have h : Pn (some xs) m 373 680 L [] H r H' := pnA h at_373_679 rfl rfl
  have h : Pn (some xs) m 373 681 L [.ref 78] H r H' := pnLrn g2 h at_373_680
  obtain ⟨r2, H2, q, h⟩ := pnC h at_373_681 kc_373_681.1 kc_373_681.2 (as := [.ref 78]) (rest := []) rfl
  have q : Pn none m 255 0 [(0, .ref 78)] [] H r2 H2 := q
  exact ⟨_, ⟨g0, g1, g2, g3, g4, trivial⟩, r2, H2, q, h⟩
theorem at_373_684 : mjAtI 373 684 = some (.pop, 1, 0, 0, 0) := by decide +kernel
theorem at_373_685 : mjAtI 373 685 = some (.goto 1422, 3, 0, 2107, 0) := by decide +kernel
theorem lc_12 {m : Nat} {L : mjL} {H H' : mjH} {r : Option Value ⊕ Nat} {xs : List Int32} {i : Int32} {s1 : Int32} (hT : HT H) (hL : LG L [(0, .ref 3000000), (1, .ref 0), (2, .ref 78), (3, .ref 578), (4, .int i)]) (h : Pn (some xs) m 373 684 L [.int s1] H r H') : ∃ L', LG L' [(0, .ref 3000000), (1, .ref 0), (2, .ref 78), (3, .ref 578), (4, .int (i + Int32.ofInt 6))] ∧ Pn (some xs) m 373 23 L' [] H r H' := by
  obtain ⟨g0, g1, g2, g3, g4, -⟩ := hL
  have h : Pn (some xs) m 373 685 L [] H r H' := pnA h at_373_684 rfl rfl
  have h : Pn (some xs) m 373 2107 L [] H r H' := pnA h at_373_685 rfl rfl
  have h : Pn (some xs) m 373 2110 (mjSt 4 (.int (i + Int32.ofInt 6)) L) [] H r H' := pnInc g4 h at_373_2107
  have g0 : mjGet (mjSt 4 (.int (i + Int32.ofInt 6)) L) 0 = some (.ref 3000000) := gt_ne g0 (by decide) rfl
  have g1 : mjGet (mjSt 4 (.int (i + Int32.ofInt 6)) L) 1 = some (.ref 0) := gt_ne g1 (by decide) rfl
  have g2 : mjGet (mjSt 4 (.int (i + Int32.ofInt 6)) L) 2 = some (.ref 78) := gt_ne g2 (by decide) rfl
  have g3 : mjGet (mjSt 4 (.int (i + Int32.ofInt 6)) L) 3 = some (.ref 578) := gt_ne g3 (by decide) rfl
  have g4 : mjGet (mjSt 4 (.int (i + Int32.ofInt 6)) L) 4 = some (.int (i + Int32.ofInt 6)) := gt_eq
  have h : Pn (some xs) m 373 23 (mjSt 4 (.int (i + Int32.ofInt 6)) L) [] H r H' := pnA h at_373_2110 rfl rfl
  exact ⟨_, ⟨g0, g1, g2, g3, g4, trivial⟩, h⟩
theorem at_373_688 : mjAtI 373 688 = some (.aload_n 1, 1, 0, 0, 0) := by decide +kernel
theorem at_373_689 : mjAtI 373 689 = some (.aload_n 0, 1, 0, 0, 0) := by decide +kernel
theorem at_373_690 : mjAtI 373 690 = some (.iload 4, 2, 0, 0, 0) := by decide +kernel
theorem at_373_692 : mjAtI 373 692 = some (.iconst 1, 1, 0, 0, 0) := by decide +kernel
theorem at_373_693 : mjAtI 373 693 = some (.iadd, 1, 0, 0, 0) := by decide +kernel
theorem at_373_694 : mjAtI 373 694 = some (.iaload, 1, 0, 0, 0) := by decide +kernel
theorem at_373_695 : mjAtI 373 695 = some (.i2l, 1, 0, 0, 0) := by decide +kernel
theorem at_373_696 : mjAtI 373 696 = some (.bipush 32, 2, 0, 0, 0) := by decide +kernel
theorem at_373_698 : mjAtI 373 698 = some (.lshl, 1, 0, 0, 0) := by decide +kernel
theorem at_373_699 : mjAtI 373 699 = some (.aload_n 0, 1, 0, 0, 0) := by decide +kernel
theorem at_373_700 : mjAtI 373 700 = some (.iload 4, 2, 0, 0, 0) := by decide +kernel
theorem at_373_702 : mjAtI 373 702 = some (.iconst 2, 1, 0, 0, 0) := by decide +kernel
theorem at_373_703 : mjAtI 373 703 = some (.iadd, 1, 0, 0, 0) := by decide +kernel
theorem at_373_704 : mjAtI 373 704 = some (.iaload, 1, 0, 0, 0) := by decide +kernel
theorem at_373_705 : mjAtI 373 705 = some (.i2l, 1, 0, 0, 0) := by decide +kernel
theorem at_373_706 : mjAtI 373 706 = some (.ldc2_w 206, 3, 4294967295, 0, 2339) := by decide +kernel
theorem at_373_709 : mjAtI 373 709 = some (.land, 1, 0, 0, 0) := by decide +kernel
theorem at_373_710 : mjAtI 373 710 = some (.lor, 1, 0, 0, 0) := by decide +kernel
theorem at_373_711 : mjAtI 373 711 = some (.invokevirtual 208, 3, 126, 0, 461) := by decide +kernel
theorem kc_373_711 : kCall (.invokevirtual 208) 126 373 = true ∧ kArg 126 = 2 := by decide +kernel
theorem la_13 {m : Nat} {L : mjL} {H H' : mjH} {r : Option Value ⊕ Nat} {xs : List Int32} {i : Int32} (hT : HT H) (hL : LG L [(0, .ref 3000000), (1, .ref 0), (2, .ref 78), (3, .ref 578), (4, .int i)]) (h : Pn (some xs) m 373 688 L [] H r H') : ∃ y0, (¬ (i + (Int32.ofInt 1)) < 0 ∧ xs[(i + (Int32.ofInt 1)).toNatClampNeg]? = some y0) ∧ ∃ y1, (¬ (i + (Int32.ofInt 2)) < 0 ∧ xs[(i + (Int32.ofInt 2)).toNatClampNeg]? = some y1) ∧ ∃ L', LG L' [(0, .ref 3000000), (1, .ref 0), (2, .ref 78), (3, .ref 578), (4, .int i)] ∧ ∃ r2 H2, Pn none m 126 0 [(0, .ref 0), (1, .long (((y0.toInt64) <<< ((Int32.ofInt 32).toInt64 &&& 63)) ||| ((y1.toInt64) &&& (Int64.ofNat 4294967295))))] [] H r2 H2 ∧ ((∃ cv, r2 = .inl cv ∧ Pn (some xs) m 373 714 L' (cv.toList ++ []) H2 r H') ∨ (∃ E, r2 = .inr E ∧ r = .inr E ∧ H' = H2)) := by
  obtain ⟨g0, g1, g2, g3, g4, -⟩ := hL
  have h : Pn (some xs) m 373 689 L [.ref 0] H r H' := pnLrn g1 h at_373_688
  have h : Pn (some xs) m 373 690 L [.ref 3000000, .ref 0] H r H' := pnLrn g0 h at_373_689
  have h : Pn (some xs) m 373 692 L [.int i, .ref 3000000, .ref 0] H r H' := pnLi g4 h at_373_690
  have h : Pn (some xs) m 373 693 L [.int (Int32.ofInt 1), .int i, .ref 3000000, .ref 0] H r H' := pnA h at_373_692 rfl rfl
  have h : Pn (some xs) m 373 694 L [.int (i + (Int32.ofInt 1)), .ref 3000000, .ref 0] H r H' := pnA h at_373_693 rfl rfl
  obtain ⟨y0, zy0, h⟩ := pnSa h at_373_694
  have h : Pn (some xs) m 373 695 L [.int y0, .ref 0] H r H' := h
  refine ⟨y0, zy0, ?_⟩
  have h : Pn (some xs) m 373 696 L [.long (y0.toInt64), .ref 0] H r H' := pnA h at_373_695 rfl rfl
  have h : Pn (some xs) m 373 698 L [.int (Int32.ofInt 32), .long (y0.toInt64), .ref 0] H r H' := pnBi h at_373_696 (by decide)
  have h : Pn (some xs) m 373 699 L [.long ((y0.toInt64) <<< ((Int32.ofInt 32).toInt64 &&& 63)), .ref 0] H r H' := pnA h at_373_698 rfl rfl
  have h : Pn (some xs) m 373 700 L [.ref 3000000, .long ((y0.toInt64) <<< ((Int32.ofInt 32).toInt64 &&& 63)), .ref 0] H r H' := pnLrn g0 h at_373_699
  have h : Pn (some xs) m 373 702 L [.int i, .ref 3000000, .long ((y0.toInt64) <<< ((Int32.ofInt 32).toInt64 &&& 63)), .ref 0] H r H' := pnLi g4 h at_373_700
  have h : Pn (some xs) m 373 703 L [.int (Int32.ofInt 2), .int i, .ref 3000000, .long ((y0.toInt64) <<< ((Int32.ofInt 32).toInt64 &&& 63)), .ref 0] H r H' := pnA h at_373_702 rfl rfl
  have h : Pn (some xs) m 373 704 L [.int (i + (Int32.ofInt 2)), .ref 3000000, .long ((y0.toInt64) <<< ((Int32.ofInt 32).toInt64 &&& 63)), .ref 0] H r H' := pnA h at_373_703 rfl rfl
  obtain ⟨y1, zy1, h⟩ := pnSa h at_373_704
  have h : Pn (some xs) m 373 705 L [.int y1, .long ((y0.toInt64) <<< ((Int32.ofInt 32).toInt64 &&& 63)), .ref 0] H r H' := h
  refine ⟨y1, zy1, ?_⟩
  have h : Pn (some xs) m 373 706 L [.long (y1.toInt64), .long ((y0.toInt64) <<< ((Int32.ofInt 32).toInt64 &&& 63)), .ref 0] H r H' := pnA h at_373_705 rfl rfl
  have h : Pn (some xs) m 373 709 L [.long (Int64.ofNat 4294967295), .long (y1.toInt64), .long ((y0.toInt64) <<< ((Int32.ofInt 32).toInt64 &&& 63)), .ref 0] H r H' := pnLd2 h at_373_706
  have h : Pn (some xs) m 373 710 L [.long ((y1.toInt64) &&& (Int64.ofNat 4294967295)), .long ((y0.toInt64) <<< ((Int32.ofInt 32).toInt64 &&& 63)), .ref 0] H r H' := pnA h at_373_709 rfl rfl
  have h : Pn (some xs) m 373 711 L [.long (((y0.toInt64) <<< ((Int32.ofInt 32).toInt64 &&& 63)) ||| ((y1.toInt64) &&& (Int64.ofNat 4294967295))), .ref 0] H r H' := pnA h at_373_710 rfl rfl
  obtain ⟨r2, H2, q, h⟩ := pnC h at_373_711 kc_373_711.1 kc_373_711.2 (as := [.ref 0, .long (((y0.toInt64) <<< ((Int32.ofInt 32).toInt64 &&& 63)) ||| ((y1.toInt64) &&& (Int64.ofNat 4294967295)))]) (rest := []) rfl
  have q : Pn none m 126 0 [(0, .ref 0), (1, .long (((y0.toInt64) <<< ((Int32.ofInt 32).toInt64 &&& 63)) ||| ((y1.toInt64) &&& (Int64.ofNat 4294967295))))] [] H r2 H2 := q
  exact ⟨_, ⟨g0, g1, g2, g3, g4, trivial⟩, r2, H2, q, h⟩
theorem at_373_714 : mjAtI 373 714 = some (.pop, 1, 0, 0, 0) := by decide +kernel
theorem at_373_715 : mjAtI 373 715 = some (.aload_n 2, 1, 0, 0, 0) := by decide +kernel
theorem at_373_716 : mjAtI 373 716 = some (.aload_n 0, 1, 0, 0, 0) := by decide +kernel
theorem at_373_717 : mjAtI 373 717 = some (.iload 4, 2, 0, 0, 0) := by decide +kernel
theorem at_373_719 : mjAtI 373 719 = some (.iconst 1, 1, 0, 0, 0) := by decide +kernel
theorem at_373_720 : mjAtI 373 720 = some (.iadd, 1, 0, 0, 0) := by decide +kernel
theorem at_373_721 : mjAtI 373 721 = some (.iaload, 1, 0, 0, 0) := by decide +kernel
theorem at_373_722 : mjAtI 373 722 = some (.i2l, 1, 0, 0, 0) := by decide +kernel
theorem at_373_723 : mjAtI 373 723 = some (.bipush 32, 2, 0, 0, 0) := by decide +kernel
theorem at_373_725 : mjAtI 373 725 = some (.lshl, 1, 0, 0, 0) := by decide +kernel
theorem at_373_726 : mjAtI 373 726 = some (.aload_n 0, 1, 0, 0, 0) := by decide +kernel
theorem at_373_727 : mjAtI 373 727 = some (.iload 4, 2, 0, 0, 0) := by decide +kernel
theorem at_373_729 : mjAtI 373 729 = some (.iconst 2, 1, 0, 0, 0) := by decide +kernel
theorem at_373_730 : mjAtI 373 730 = some (.iadd, 1, 0, 0, 0) := by decide +kernel
theorem at_373_731 : mjAtI 373 731 = some (.iaload, 1, 0, 0, 0) := by decide +kernel
theorem at_373_732 : mjAtI 373 732 = some (.i2l, 1, 0, 0, 0) := by decide +kernel
theorem at_373_733 : mjAtI 373 733 = some (.ldc2_w 206, 3, 4294967295, 0, 2339) := by decide +kernel
theorem at_373_736 : mjAtI 373 736 = some (.land, 1, 0, 0, 0) := by decide +kernel
theorem at_373_737 : mjAtI 373 737 = some (.lor, 1, 0, 0, 0) := by decide +kernel
theorem at_373_738 : mjAtI 373 738 = some (.invokevirtual 212, 3, 256, 0, 1998) := by decide +kernel
theorem kc_373_738 : kCall (.invokevirtual 212) 256 373 = true ∧ kArg 256 = 2 := by decide +kernel
theorem lb_13 {m : Nat} {L : mjL} {H H' : mjH} {r : Option Value ⊕ Nat} {xs : List Int32} {i : Int32} {s0 : Int32} (hT : HT H) (hL : LG L [(0, .ref 3000000), (1, .ref 0), (2, .ref 78), (3, .ref 578), (4, .int i)]) (h : Pn (some xs) m 373 714 L [.int s0] H r H') : ∃ y0, (¬ (i + (Int32.ofInt 1)) < 0 ∧ xs[(i + (Int32.ofInt 1)).toNatClampNeg]? = some y0) ∧ ∃ y1, (¬ (i + (Int32.ofInt 2)) < 0 ∧ xs[(i + (Int32.ofInt 2)).toNatClampNeg]? = some y1) ∧ ∃ L', LG L' [(0, .ref 3000000), (1, .ref 0), (2, .ref 78), (3, .ref 578), (4, .int i)] ∧ ∃ r2 H2, Pn none m 256 0 [(0, .ref 78), (1, .long (((y0.toInt64) <<< ((Int32.ofInt 32).toInt64 &&& 63)) ||| ((y1.toInt64) &&& (Int64.ofNat 4294967295))))] [] H r2 H2 ∧ ((∃ cv, r2 = .inl cv ∧ Pn (some xs) m 373 741 L' (cv.toList ++ []) H2 r H') ∨ (∃ E, r2 = .inr E ∧ r = .inr E ∧ H' = H2)) := by
  obtain ⟨g0, g1, g2, g3, g4, -⟩ := hL
  have h : Pn (some xs) m 373 715 L [] H r H' := pnA h at_373_714 rfl rfl
  have h : Pn (some xs) m 373 716 L [.ref 78] H r H' := pnLrn g2 h at_373_715
  have h : Pn (some xs) m 373 717 L [.ref 3000000, .ref 78] H r H' := pnLrn g0 h at_373_716
  have h : Pn (some xs) m 373 719 L [.int i, .ref 3000000, .ref 78] H r H' := pnLi g4 h at_373_717
  have h : Pn (some xs) m 373 720 L [.int (Int32.ofInt 1), .int i, .ref 3000000, .ref 78] H r H' := pnA h at_373_719 rfl rfl
  have h : Pn (some xs) m 373 721 L [.int (i + (Int32.ofInt 1)), .ref 3000000, .ref 78] H r H' := pnA h at_373_720 rfl rfl
  obtain ⟨y0, zy0, h⟩ := pnSa h at_373_721
  have h : Pn (some xs) m 373 722 L [.int y0, .ref 78] H r H' := h
  refine ⟨y0, zy0, ?_⟩
  have h : Pn (some xs) m 373 723 L [.long (y0.toInt64), .ref 78] H r H' := pnA h at_373_722 rfl rfl
  have h : Pn (some xs) m 373 725 L [.int (Int32.ofInt 32), .long (y0.toInt64), .ref 78] H r H' := pnBi h at_373_723 (by decide)
  have h : Pn (some xs) m 373 726 L [.long ((y0.toInt64) <<< ((Int32.ofInt 32).toInt64 &&& 63)), .ref 78] H r H' := pnA h at_373_725 rfl rfl
  have h : Pn (some xs) m 373 727 L [.ref 3000000, .long ((y0.toInt64) <<< ((Int32.ofInt 32).toInt64 &&& 63)), .ref 78] H r H' := pnLrn g0 h at_373_726
  have h : Pn (some xs) m 373 729 L [.int i, .ref 3000000, .long ((y0.toInt64) <<< ((Int32.ofInt 32).toInt64 &&& 63)), .ref 78] H r H' := pnLi g4 h at_373_727
  have h : Pn (some xs) m 373 730 L [.int (Int32.ofInt 2), .int i, .ref 3000000, .long ((y0.toInt64) <<< ((Int32.ofInt 32).toInt64 &&& 63)), .ref 78] H r H' := pnA h at_373_729 rfl rfl
  have h : Pn (some xs) m 373 731 L [.int (i + (Int32.ofInt 2)), .ref 3000000, .long ((y0.toInt64) <<< ((Int32.ofInt 32).toInt64 &&& 63)), .ref 78] H r H' := pnA h at_373_730 rfl rfl
  obtain ⟨y1, zy1, h⟩ := pnSa h at_373_731
  have h : Pn (some xs) m 373 732 L [.int y1, .long ((y0.toInt64) <<< ((Int32.ofInt 32).toInt64 &&& 63)), .ref 78] H r H' := h
  refine ⟨y1, zy1, ?_⟩
  have h : Pn (some xs) m 373 733 L [.long (y1.toInt64), .long ((y0.toInt64) <<< ((Int32.ofInt 32).toInt64 &&& 63)), .ref 78] H r H' := pnA h at_373_732 rfl rfl
  have h : Pn (some xs) m 373 736 L [.long (Int64.ofNat 4294967295), .long (y1.toInt64), .long ((y0.toInt64) <<< ((Int32.ofInt 32).toInt64 &&& 63)), .ref 78] H r H' := pnLd2 h at_373_733
  have h : Pn (some xs) m 373 737 L [.long ((y1.toInt64) &&& (Int64.ofNat 4294967295)), .long ((y0.toInt64) <<< ((Int32.ofInt 32).toInt64 &&& 63)), .ref 78] H r H' := pnA h at_373_736 rfl rfl
  have h : Pn (some xs) m 373 738 L [.long (((y0.toInt64) <<< ((Int32.ofInt 32).toInt64 &&& 63)) ||| ((y1.toInt64) &&& (Int64.ofNat 4294967295))), .ref 78] H r H' := pnA h at_373_737 rfl rfl
  obtain ⟨r2, H2, q, h⟩ := pnC h at_373_738 kc_373_738.1 kc_373_738.2 (as := [.ref 78, .long (((y0.toInt64) <<< ((Int32.ofInt 32).toInt64 &&& 63)) ||| ((y1.toInt64) &&& (Int64.ofNat 4294967295)))]) (rest := []) rfl
  have q : Pn none m 256 0 [(0, .ref 78), (1, .long (((y0.toInt64) <<< ((Int32.ofInt 32).toInt64 &&& 63)) ||| ((y1.toInt64) &&& (Int64.ofNat 4294967295))))] [] H r2 H2 := q
  exact ⟨_, ⟨g0, g1, g2, g3, g4, trivial⟩, r2, H2, q, h⟩
theorem at_373_741 : mjAtI 373 741 = some (.pop, 1, 0, 0, 0) := by decide +kernel
theorem at_373_742 : mjAtI 373 742 = some (.goto 1365, 3, 0, 2107, 0) := by decide +kernel
theorem lc_13 {m : Nat} {L : mjL} {H H' : mjH} {r : Option Value ⊕ Nat} {xs : List Int32} {i : Int32} {s1 : Int32} (hT : HT H) (hL : LG L [(0, .ref 3000000), (1, .ref 0), (2, .ref 78), (3, .ref 578), (4, .int i)]) (h : Pn (some xs) m 373 741 L [.int s1] H r H') : ∃ L', LG L' [(0, .ref 3000000), (1, .ref 0), (2, .ref 78), (3, .ref 578), (4, .int (i + Int32.ofInt 6))] ∧ Pn (some xs) m 373 23 L' [] H r H' := by
  obtain ⟨g0, g1, g2, g3, g4, -⟩ := hL
  have h : Pn (some xs) m 373 742 L [] H r H' := pnA h at_373_741 rfl rfl
  have h : Pn (some xs) m 373 2107 L [] H r H' := pnA h at_373_742 rfl rfl
  have h : Pn (some xs) m 373 2110 (mjSt 4 (.int (i + Int32.ofInt 6)) L) [] H r H' := pnInc g4 h at_373_2107
  have g0 : mjGet (mjSt 4 (.int (i + Int32.ofInt 6)) L) 0 = some (.ref 3000000) := gt_ne g0 (by decide) rfl
  have g1 : mjGet (mjSt 4 (.int (i + Int32.ofInt 6)) L) 1 = some (.ref 0) := gt_ne g1 (by decide) rfl
  have g2 : mjGet (mjSt 4 (.int (i + Int32.ofInt 6)) L) 2 = some (.ref 78) := gt_ne g2 (by decide) rfl
  have g3 : mjGet (mjSt 4 (.int (i + Int32.ofInt 6)) L) 3 = some (.ref 578) := gt_ne g3 (by decide) rfl
  have g4 : mjGet (mjSt 4 (.int (i + Int32.ofInt 6)) L) 4 = some (.int (i + Int32.ofInt 6)) := gt_eq
  have h : Pn (some xs) m 373 23 (mjSt 4 (.int (i + Int32.ofInt 6)) L) [] H r H' := pnA h at_373_2110 rfl rfl
  exact ⟨_, ⟨g0, g1, g2, g3, g4, trivial⟩, h⟩
theorem at_373_745 : mjAtI 373 745 = some (.aload_n 1, 1, 0, 0, 0) := by decide +kernel
theorem at_373_746 : mjAtI 373 746 = some (.aload_n 0, 1, 0, 0, 0) := by decide +kernel
theorem at_373_747 : mjAtI 373 747 = some (.iload 4, 2, 0, 0, 0) := by decide +kernel
theorem at_373_749 : mjAtI 373 749 = some (.iconst 1, 1, 0, 0, 0) := by decide +kernel
theorem at_373_750 : mjAtI 373 750 = some (.iadd, 1, 0, 0, 0) := by decide +kernel
theorem at_373_751 : mjAtI 373 751 = some (.iaload, 1, 0, 0, 0) := by decide +kernel
theorem at_373_752 : mjAtI 373 752 = some (.invokevirtual 213, 3, 127, 0, 473) := by decide +kernel
theorem kc_373_752 : kCall (.invokevirtual 213) 127 373 = true ∧ kArg 127 = 2 := by decide +kernel
theorem la_14 {m : Nat} {L : mjL} {H H' : mjH} {r : Option Value ⊕ Nat} {xs : List Int32} {i : Int32} (hT : HT H) (hL : LG L [(0, .ref 3000000), (1, .ref 0), (2, .ref 78), (3, .ref 578), (4, .int i)]) (h : Pn (some xs) m 373 745 L [] H r H') : ∃ y0, (¬ (i + (Int32.ofInt 1)) < 0 ∧ xs[(i + (Int32.ofInt 1)).toNatClampNeg]? = some y0) ∧ ∃ L', LG L' [(0, .ref 3000000), (1, .ref 0), (2, .ref 78), (3, .ref 578), (4, .int i)] ∧ ∃ r2 H2, Pn none m 127 0 [(0, .ref 0), (1, .int y0)] [] H r2 H2 ∧ ((∃ cv, r2 = .inl cv ∧ Pn (some xs) m 373 755 L' (cv.toList ++ []) H2 r H') ∨ (∃ E, r2 = .inr E ∧ r = .inr E ∧ H' = H2)) := by
  obtain ⟨g0, g1, g2, g3, g4, -⟩ := hL
  have h : Pn (some xs) m 373 746 L [.ref 0] H r H' := pnLrn g1 h at_373_745
  have h : Pn (some xs) m 373 747 L [.ref 3000000, .ref 0] H r H' := pnLrn g0 h at_373_746
  have h : Pn (some xs) m 373 749 L [.int i, .ref 3000000, .ref 0] H r H' := pnLi g4 h at_373_747
  have h : Pn (some xs) m 373 750 L [.int (Int32.ofInt 1), .int i, .ref 3000000, .ref 0] H r H' := pnA h at_373_749 rfl rfl
  have h : Pn (some xs) m 373 751 L [.int (i + (Int32.ofInt 1)), .ref 3000000, .ref 0] H r H' := pnA h at_373_750 rfl rfl
  obtain ⟨y0, zy0, h⟩ := pnSa h at_373_751
  have h : Pn (some xs) m 373 752 L [.int y0, .ref 0] H r H' := h
  refine ⟨y0, zy0, ?_⟩
  obtain ⟨r2, H2, q, h⟩ := pnC h at_373_752 kc_373_752.1 kc_373_752.2 (as := [.ref 0, .int y0]) (rest := []) rfl
  have q : Pn none m 127 0 [(0, .ref 0), (1, .int y0)] [] H r2 H2 := q
  exact ⟨_, ⟨g0, g1, g2, g3, g4, trivial⟩, r2, H2, q, h⟩
theorem at_373_755 : mjAtI 373 755 = some (.pop, 1, 0, 0, 0) := by decide +kernel
theorem at_373_756 : mjAtI 373 756 = some (.aload_n 2, 1, 0, 0, 0) := by decide +kernel
theorem at_373_757 : mjAtI 373 757 = some (.aload_n 0, 1, 0, 0, 0) := by decide +kernel
theorem at_373_758 : mjAtI 373 758 = some (.iload 4, 2, 0, 0, 0) := by decide +kernel
theorem at_373_760 : mjAtI 373 760 = some (.iconst 1, 1, 0, 0, 0) := by decide +kernel
theorem at_373_761 : mjAtI 373 761 = some (.iadd, 1, 0, 0, 0) := by decide +kernel
theorem at_373_762 : mjAtI 373 762 = some (.iaload, 1, 0, 0, 0) := by decide +kernel
theorem at_373_763 : mjAtI 373 763 = some (.invokevirtual 216, 3, 257, 0, 2003) := by decide +kernel
theorem kc_373_763 : kCall (.invokevirtual 216) 257 373 = true ∧ kArg 257 = 2 := by decide +kernel
theorem lb_14 {m : Nat} {L : mjL} {H H' : mjH} {r : Option Value ⊕ Nat} {xs : List Int32} {i : Int32} {s0 : Int32} (hT : HT H) (hL : LG L [(0, .ref 3000000), (1, .ref 0), (2, .ref 78), (3, .ref 578), (4, .int i)]) (h : Pn (some xs) m 373 755 L [.int s0] H r H') : ∃ y0, (¬ (i + (Int32.ofInt 1)) < 0 ∧ xs[(i + (Int32.ofInt 1)).toNatClampNeg]? = some y0) ∧ ∃ L', LG L' [(0, .ref 3000000), (1, .ref 0), (2, .ref 78), (3, .ref 578), (4, .int i)] ∧ ∃ r2 H2, Pn none m 257 0 [(0, .ref 78), (1, .int y0)] [] H r2 H2 ∧ ((∃ cv, r2 = .inl cv ∧ Pn (some xs) m 373 766 L' (cv.toList ++ []) H2 r H') ∨ (∃ E, r2 = .inr E ∧ r = .inr E ∧ H' = H2)) := by
  obtain ⟨g0, g1, g2, g3, g4, -⟩ := hL
  have h : Pn (some xs) m 373 756 L [] H r H' := pnA h at_373_755 rfl rfl
  have h : Pn (some xs) m 373 757 L [.ref 78] H r H' := pnLrn g2 h at_373_756
  have h : Pn (some xs) m 373 758 L [.ref 3000000, .ref 78] H r H' := pnLrn g0 h at_373_757
  have h : Pn (some xs) m 373 760 L [.int i, .ref 3000000, .ref 78] H r H' := pnLi g4 h at_373_758
  have h : Pn (some xs) m 373 761 L [.int (Int32.ofInt 1), .int i, .ref 3000000, .ref 78] H r H' := pnA h at_373_760 rfl rfl
  have h : Pn (some xs) m 373 762 L [.int (i + (Int32.ofInt 1)), .ref 3000000, .ref 78] H r H' := pnA h at_373_761 rfl rfl
  obtain ⟨y0, zy0, h⟩ := pnSa h at_373_762
  have h : Pn (some xs) m 373 763 L [.int y0, .ref 78] H r H' := h
  refine ⟨y0, zy0, ?_⟩
  obtain ⟨r2, H2, q, h⟩ := pnC h at_373_763 kc_373_763.1 kc_373_763.2 (as := [.ref 78, .int y0]) (rest := []) rfl
  have q : Pn none m 257 0 [(0, .ref 78), (1, .int y0)] [] H r2 H2 := q
  exact ⟨_, ⟨g0, g1, g2, g3, g4, trivial⟩, r2, H2, q, h⟩
theorem at_373_766 : mjAtI 373 766 = some (.pop, 1, 0, 0, 0) := by decide +kernel
theorem at_373_767 : mjAtI 373 767 = some (.goto 1340, 3, 0, 2107, 0) := by decide +kernel
theorem lc_14 {m : Nat} {L : mjL} {H H' : mjH} {r : Option Value ⊕ Nat} {xs : List Int32} {i : Int32} {s1 : Int32} (hT : HT H) (hL : LG L [(0, .ref 3000000), (1, .ref 0), (2, .ref 78), (3, .ref 578), (4, .int i)]) (h : Pn (some xs) m 373 766 L [.int s1] H r H') : ∃ L', LG L' [(0, .ref 3000000), (1, .ref 0), (2, .ref 78), (3, .ref 578), (4, .int (i + Int32.ofInt 6))] ∧ Pn (some xs) m 373 23 L' [] H r H' := by
  obtain ⟨g0, g1, g2, g3, g4, -⟩ := hL
  have h : Pn (some xs) m 373 767 L [] H r H' := pnA h at_373_766 rfl rfl
  have h : Pn (some xs) m 373 2107 L [] H r H' := pnA h at_373_767 rfl rfl
  have h : Pn (some xs) m 373 2110 (mjSt 4 (.int (i + Int32.ofInt 6)) L) [] H r H' := pnInc g4 h at_373_2107
  have g0 : mjGet (mjSt 4 (.int (i + Int32.ofInt 6)) L) 0 = some (.ref 3000000) := gt_ne g0 (by decide) rfl
  have g1 : mjGet (mjSt 4 (.int (i + Int32.ofInt 6)) L) 1 = some (.ref 0) := gt_ne g1 (by decide) rfl
  have g2 : mjGet (mjSt 4 (.int (i + Int32.ofInt 6)) L) 2 = some (.ref 78) := gt_ne g2 (by decide) rfl
  have g3 : mjGet (mjSt 4 (.int (i + Int32.ofInt 6)) L) 3 = some (.ref 578) := gt_ne g3 (by decide) rfl
  have g4 : mjGet (mjSt 4 (.int (i + Int32.ofInt 6)) L) 4 = some (.int (i + Int32.ofInt 6)) := gt_eq
  have h : Pn (some xs) m 373 23 (mjSt 4 (.int (i + Int32.ofInt 6)) L) [] H r H' := pnA h at_373_2110 rfl rfl
  exact ⟨_, ⟨g0, g1, g2, g3, g4, trivial⟩, h⟩
theorem at_373_770 : mjAtI 373 770 = some (.aload_n 1, 1, 0, 0, 0) := by decide +kernel
theorem at_373_771 : mjAtI 373 771 = some (.aload_n 0, 1, 0, 0, 0) := by decide +kernel
theorem at_373_772 : mjAtI 373 772 = some (.iload 4, 2, 0, 0, 0) := by decide +kernel
theorem at_373_774 : mjAtI 373 774 = some (.iconst 1, 1, 0, 0, 0) := by decide +kernel
theorem at_373_775 : mjAtI 373 775 = some (.iadd, 1, 0, 0, 0) := by decide +kernel
theorem at_373_776 : mjAtI 373 776 = some (.iaload, 1, 0, 0, 0) := by decide +kernel
theorem at_373_777 : mjAtI 373 777 = some (.aload_n 3, 1, 0, 0, 0) := by decide +kernel
theorem at_373_778 : mjAtI 373 778 = some (.invokestatic 217, 3, 339, 1, 1105) := by decide +kernel
theorem kc_373_778 : kCall (.invokestatic 217) 339 373 = true ∧ kArg 339 = 3 := by decide +kernel
theorem la_15 {m : Nat} {L : mjL} {H H' : mjH} {r : Option Value ⊕ Nat} {xs : List Int32} {i : Int32} (hT : HT H) (hL : LG L [(0, .ref 3000000), (1, .ref 0), (2, .ref 78), (3, .ref 578), (4, .int i)]) (h : Pn (some xs) m 373 770 L [] H r H') : ∃ y0, (¬ (i + (Int32.ofInt 1)) < 0 ∧ xs[(i + (Int32.ofInt 1)).toNatClampNeg]? = some y0) ∧ ∃ L', LG L' [(0, .ref 3000000), (1, .ref 0), (2, .ref 78), (3, .ref 578), (4, .int i)] ∧ ∃ r2 H2, Pn none m 339 0 [(0, .ref 0), (1, .int y0), (2, .ref 578)] [] H r2 H2 ∧ ((∃ cv, r2 = .inl cv ∧ Pn (some xs) m 373 781 L' (cv.toList ++ []) H2 r H') ∨ (∃ E, r2 = .inr E ∧ r = .inr E ∧ H' = H2)) := by
  obtain ⟨g0, g1, g2, g3, g4, -⟩ := hL
  have h : Pn (some xs) m 373 771 L [.ref 0] H r H' := pnLrn g1 h at_373_770
  have h : Pn (some xs) m 373 772 L [.ref 3000000, .ref 0] H r H' := pnLrn g0 h at_373_771
  have h : Pn (some xs) m 373 774 L [.int i, .ref 3000000, .ref 0] H r H' := pnLi g4 h at_373_772
  have h : Pn (some xs) m 373 775 L [.int (Int32.ofInt 1), .int i, .ref 3000000, .ref 0] H r H' := pnA h at_373_774 rfl rfl
  have h : Pn (some xs) m 373 776 L [.int (i + (Int32.ofInt 1)), .ref 3000000, .ref 0] H r H' := pnA h at_373_775 rfl rfl
  obtain ⟨y0, zy0, h⟩ := pnSa h at_373_776
  have h : Pn (some xs) m 373 777 L [.int y0, .ref 0] H r H' := h
  refine ⟨y0, zy0, ?_⟩
  have h : Pn (some xs) m 373 778 L [.ref 578, .int y0, .ref 0] H r H' := pnLrn g3 h at_373_777
  obtain ⟨r2, H2, q, h⟩ := pnC h at_373_778 kc_373_778.1 kc_373_778.2 (as := [.ref 0, .int y0, .ref 578]) (rest := []) rfl
  have q : Pn none m 339 0 [(0, .ref 0), (1, .int y0), (2, .ref 578)] [] H r2 H2 := q
  exact ⟨_, ⟨g0, g1, g2, g3, g4, trivial⟩, r2, H2, q, h⟩
theorem at_373_781 : mjAtI 373 781 = some (.istore 5, 2, 0, 0, 0) := by decide +kernel
theorem at_373_783 : mjAtI 373 783 = some (.aload_n 2, 1, 0, 0, 0) := by decide +kernel
theorem at_373_784 : mjAtI 373 784 = some (.aload_n 0, 1, 0, 0, 0) := by decide +kernel
theorem at_373_785 : mjAtI 373 785 = some (.iload 4, 2, 0, 0, 0) := by decide +kernel
theorem at_373_787 : mjAtI 373 787 = some (.iconst 1, 1, 0, 0, 0) := by decide +kernel
theorem at_373_788 : mjAtI 373 788 = some (.iadd, 1, 0, 0, 0) := by decide +kernel
theorem at_373_789 : mjAtI 373 789 = some (.iaload, 1, 0, 0, 0) := by decide +kernel
theorem at_373_790 : mjAtI 373 790 = some (.invokevirtual 219, 3, 258, 0, 2007) := by decide +kernel
theorem kc_373_790 : kCall (.invokevirtual 219) 258 373 = true ∧ kArg 258 = 2 := by decide +kernel
theorem lb_15 {m : Nat} {L : mjL} {H H' : mjH} {r : Option Value ⊕ Nat} {xs : List Int32} {i : Int32} {s0 : Int32} (hT : HT H) (hL : LG L [(0, .ref 3000000), (1, .ref 0), (2, .ref 78), (3, .ref 578), (4, .int i)]) (h : Pn (some xs) m 373 781 L [.int s0] H r H') : ∃ y0, (¬ (i + (Int32.ofInt 1)) < 0 ∧ xs[(i + (Int32.ofInt 1)).toNatClampNeg]? = some y0) ∧ ∃ L', LG L' [(0, .ref 3000000), (1, .ref 0), (2, .ref 78), (3, .ref 578), (4, .int i)] ∧ ∃ r2 H2, Pn none m 258 0 [(0, .ref 78), (1, .int y0)] [] H r2 H2 ∧ ((∃ cv, r2 = .inl cv ∧ Pn (some xs) m 373 793 L' (cv.toList ++ []) H2 r H') ∨ (∃ E, r2 = .inr E ∧ r = .inr E ∧ H' = H2)) := by
  obtain ⟨g0, g1, g2, g3, g4, -⟩ := hL
  have h : Pn (some xs) m 373 783 (mjSt 5 (.int s0) L) [] H r H' := pnA h at_373_781 rfl rfl
  have g0 : mjGet (mjSt 5 (.int s0) L) 0 = some (.ref 3000000) := gt_ne g0 (by decide) rfl
  have g1 : mjGet (mjSt 5 (.int s0) L) 1 = some (.ref 0) := gt_ne g1 (by decide) rfl
  have g2 : mjGet (mjSt 5 (.int s0) L) 2 = some (.ref 78) := gt_ne g2 (by decide) rfl
  have g3 : mjGet (mjSt 5 (.int s0) L) 3 = some (.ref 578) := gt_ne g3 (by decide) rfl
  have g4 : mjGet (mjSt 5 (.int s0) L) 4 = some (.int i) := gt_ne g4 (by decide) rfl
  have g5 : mjGet (mjSt 5 (.int s0) L) 5 = some (.int s0) := gt_eq
  have h : Pn (some xs) m 373 784 (mjSt 5 (.int s0) L) [.ref 78] H r H' := pnLrn g2 h at_373_783
  have h : Pn (some xs) m 373 785 (mjSt 5 (.int s0) L) [.ref 3000000, .ref 78] H r H' := pnLrn g0 h at_373_784
  have h : Pn (some xs) m 373 787 (mjSt 5 (.int s0) L) [.int i, .ref 3000000, .ref 78] H r H' := pnLi g4 h at_373_785
  have h : Pn (some xs) m 373 788 (mjSt 5 (.int s0) L) [.int (Int32.ofInt 1), .int i, .ref 3000000, .ref 78] H r H' := pnA h at_373_787 rfl rfl
  have h : Pn (some xs) m 373 789 (mjSt 5 (.int s0) L) [.int (i + (Int32.ofInt 1)), .ref 3000000, .ref 78] H r H' := pnA h at_373_788 rfl rfl
  obtain ⟨y0, zy0, h⟩ := pnSa h at_373_789
  have h : Pn (some xs) m 373 790 (mjSt 5 (.int s0) L) [.int y0, .ref 78] H r H' := h
  refine ⟨y0, zy0, ?_⟩
  obtain ⟨r2, H2, q, h⟩ := pnC h at_373_790 kc_373_790.1 kc_373_790.2 (as := [.ref 78, .int y0]) (rest := []) rfl
  have q : Pn none m 258 0 [(0, .ref 78), (1, .int y0)] [] H r2 H2 := q
  exact ⟨_, ⟨g0, g1, g2, g3, g4, trivial⟩, r2, H2, q, h⟩
theorem at_373_793 : mjAtI 373 793 = some (.istore 6, 2, 0, 0, 0) := by decide +kernel
theorem at_373_795 : mjAtI 373 795 = some (.goto 1312, 3, 0, 2107, 0) := by decide +kernel
theorem lc_15 {m : Nat} {L : mjL} {H H' : mjH} {r : Option Value ⊕ Nat} {xs : List Int32} {i : Int32} {s1 : Int32} (hT : HT H) (hL : LG L [(0, .ref 3000000), (1, .ref 0), (2, .ref 78), (3, .ref 578), (4, .int i)]) (h : Pn (some xs) m 373 793 L [.int s1] H r H') : ∃ L', LG L' [(0, .ref 3000000), (1, .ref 0), (2, .ref 78), (3, .ref 578), (4, .int (i + Int32.ofInt 6))] ∧ Pn (some xs) m 373 23 L' [] H r H' := by
  obtain ⟨g0, g1, g2, g3, g4, -⟩ := hL
  have h : Pn (some xs) m 373 795 (mjSt 6 (.int s1) L) [] H r H' := pnA h at_373_793 rfl rfl
  have g0 : mjGet (mjSt 6 (.int s1) L) 0 = some (.ref 3000000) := gt_ne g0 (by decide) rfl
  have g1 : mjGet (mjSt 6 (.int s1) L) 1 = some (.ref 0) := gt_ne g1 (by decide) rfl
  have g2 : mjGet (mjSt 6 (.int s1) L) 2 = some (.ref 78) := gt_ne g2 (by decide) rfl
  have g3 : mjGet (mjSt 6 (.int s1) L) 3 = some (.ref 578) := gt_ne g3 (by decide) rfl
  have g4 : mjGet (mjSt 6 (.int s1) L) 4 = some (.int i) := gt_ne g4 (by decide) rfl
  have g6 : mjGet (mjSt 6 (.int s1) L) 6 = some (.int s1) := gt_eq
  have h : Pn (some xs) m 373 2107 (mjSt 6 (.int s1) L) [] H r H' := pnA h at_373_795 rfl rfl
  have h : Pn (some xs) m 373 2110 (mjSt 4 (.int (i + Int32.ofInt 6)) (mjSt 6 (.int s1) L)) [] H r H' := pnInc g4 h at_373_2107
  have g0 : mjGet (mjSt 4 (.int (i + Int32.ofInt 6)) (mjSt 6 (.int s1) L)) 0 = some (.ref 3000000) := gt_ne g0 (by decide) rfl
  have g1 : mjGet (mjSt 4 (.int (i + Int32.ofInt 6)) (mjSt 6 (.int s1) L)) 1 = some (.ref 0) := gt_ne g1 (by decide) rfl
  have g2 : mjGet (mjSt 4 (.int (i + Int32.ofInt 6)) (mjSt 6 (.int s1) L)) 2 = some (.ref 78) := gt_ne g2 (by decide) rfl
  have g3 : mjGet (mjSt 4 (.int (i + Int32.ofInt 6)) (mjSt 6 (.int s1) L)) 3 = some (.ref 578) := gt_ne g3 (by decide) rfl
  have g6 : mjGet (mjSt 4 (.int (i + Int32.ofInt 6)) (mjSt 6 (.int s1) L)) 6 = some (.int s1) := gt_ne g6 (by decide) rfl
  have g4 : mjGet (mjSt 4 (.int (i + Int32.ofInt 6)) (mjSt 6 (.int s1) L)) 4 = some (.int (i + Int32.ofInt 6)) := gt_eq
  have h : Pn (some xs) m 373 23 (mjSt 4 (.int (i + Int32.ofInt 6)) (mjSt 6 (.int s1) L)) [] H r H' := pnA h at_373_2110 rfl rfl
  exact ⟨_, ⟨g0, g1, g2, g3, g4, trivial⟩, h⟩
theorem at_373_798 : mjAtI 373 798 = some (.aload_n 1, 1, 0, 0, 0) := by decide +kernel
theorem at_373_799 : mjAtI 373 799 = some (.aload_n 0, 1, 0, 0, 0) := by decide +kernel
theorem at_373_800 : mjAtI 373 800 = some (.iload 4, 2, 0, 0, 0) := by decide +kernel
theorem at_373_802 : mjAtI 373 802 = some (.iconst 1, 1, 0, 0, 0) := by decide +kernel
theorem at_373_803 : mjAtI 373 803 = some (.iadd, 1, 0, 0, 0) := by decide +kernel
theorem at_373_804 : mjAtI 373 804 = some (.iaload, 1, 0, 0, 0) := by decide +kernel
theorem at_373_805 : mjAtI 373 805 = some (.aload_n 3, 1, 0, 0, 0) := by decide +kernel
theorem at_373_806 : mjAtI 373 806 = some (.invokestatic 220, 3, 340, 1, 1112) := by decide +kernel
theorem kc_373_806 : kCall (.invokestatic 220) 340 373 = true ∧ kArg 340 = 3 := by decide +kernel
theorem la_16 {m : Nat} {L : mjL} {H H' : mjH} {r : Option Value ⊕ Nat} {xs : List Int32} {i : Int32} (hT : HT H) (hL : LG L [(0, .ref 3000000), (1, .ref 0), (2, .ref 78), (3, .ref 578), (4, .int i)]) (h : Pn (some xs) m 373 798 L [] H r H') : ∃ y0, (¬ (i + (Int32.ofInt 1)) < 0 ∧ xs[(i + (Int32.ofInt 1)).toNatClampNeg]? = some y0) ∧ ∃ L', LG L' [(0, .ref 3000000), (1, .ref 0), (2, .ref 78), (3, .ref 578), (4, .int i)] ∧ ∃ r2 H2, Pn none m 340 0 [(0, .ref 0), (1, .int y0), (2, .ref 578)] [] H r2 H2 ∧ ((∃ cv, r2 = .inl cv ∧ Pn (some xs) m 373 809 L' (cv.toList ++ []) H2 r H') ∨ (∃ E, r2 = .inr E ∧ r = .inr E ∧ H' = H2)) := by
  obtain ⟨g0, g1, g2, g3, g4, -⟩ := hL
  have h : Pn (some xs) m 373 799 L [.ref 0] H r H' := pnLrn g1 h at_373_798
  have h : Pn (some xs) m 373 800 L [.ref 3000000, .ref 0] H r H' := pnLrn g0 h at_373_799
  have h : Pn (some xs) m 373 802 L [.int i, .ref 3000000, .ref 0] H r H' := pnLi g4 h at_373_800
  have h : Pn (some xs) m 373 803 L [.int (Int32.ofInt 1), .int i, .ref 3000000, .ref 0] H r H' := pnA h at_373_802 rfl rfl
  have h : Pn (some xs) m 373 804 L [.int (i + (Int32.ofInt 1)), .ref 3000000, .ref 0] H r H' := pnA h at_373_803 rfl rfl
  obtain ⟨y0, zy0, h⟩ := pnSa h at_373_804
  have h : Pn (some xs) m 373 805 L [.int y0, .ref 0] H r H' := h
  refine ⟨y0, zy0, ?_⟩
  have h : Pn (some xs) m 373 806 L [.ref 578, .int y0, .ref 0] H r H' := pnLrn g3 h at_373_805
  obtain ⟨r2, H2, q, h⟩ := pnC h at_373_806 kc_373_806.1 kc_373_806.2 (as := [.ref 0, .int y0, .ref 578]) (rest := []) rfl
  have q : Pn none m 340 0 [(0, .ref 0), (1, .int y0), (2, .ref 578)] [] H r2 H2 := q
  exact ⟨_, ⟨g0, g1, g2, g3, g4, trivial⟩, r2, H2, q, h⟩
theorem at_373_809 : mjAtI 373 809 = some (.istore 5, 2, 0, 0, 0) := by decide +kernel
theorem at_373_811 : mjAtI 373 811 = some (.aload_n 2, 1, 0, 0, 0) := by decide +kernel
theorem at_373_812 : mjAtI 373 812 = some (.aload_n 0, 1, 0, 0, 0) := by decide +kernel
theorem at_373_813 : mjAtI 373 813 = some (.iload 4, 2, 0, 0, 0) := by decide +kernel
theorem at_373_815 : mjAtI 373 815 = some (.iconst 1, 1, 0, 0, 0) := by decide +kernel
theorem at_373_816 : mjAtI 373 816 = some (.iadd, 1, 0, 0, 0) := by decide +kernel
theorem at_373_817 : mjAtI 373 817 = some (.iaload, 1, 0, 0, 0) := by decide +kernel
theorem at_373_818 : mjAtI 373 818 = some (.invokevirtual 222, 3, 259, 0, 2011) := by decide +kernel
theorem kc_373_818 : kCall (.invokevirtual 222) 259 373 = true ∧ kArg 259 = 2 := by decide +kernel
theorem lb_16 {m : Nat} {L : mjL} {H H' : mjH} {r : Option Value ⊕ Nat} {xs : List Int32} {i : Int32} {s0 : Int32} (hT : HT H) (hL : LG L [(0, .ref 3000000), (1, .ref 0), (2, .ref 78), (3, .ref 578), (4, .int i)]) (h : Pn (some xs) m 373 809 L [.int s0] H r H') : ∃ y0, (¬ (i + (Int32.ofInt 1)) < 0 ∧ xs[(i + (Int32.ofInt 1)).toNatClampNeg]? = some y0) ∧ ∃ L', LG L' [(0, .ref 3000000), (1, .ref 0), (2, .ref 78), (3, .ref 578), (4, .int i)] ∧ ∃ r2 H2, Pn none m 259 0 [(0, .ref 78), (1, .int y0)] [] H r2 H2 ∧ ((∃ cv, r2 = .inl cv ∧ Pn (some xs) m 373 821 L' (cv.toList ++ []) H2 r H') ∨ (∃ E, r2 = .inr E ∧ r = .inr E ∧ H' = H2)) := by
  obtain ⟨g0, g1, g2, g3, g4, -⟩ := hL
  have h : Pn (some xs) m 373 811 (mjSt 5 (.int s0) L) [] H r H' := pnA h at_373_809 rfl rfl
  have g0 : mjGet (mjSt 5 (.int s0) L) 0 = some (.ref 3000000) := gt_ne g0 (by decide) rfl
  have g1 : mjGet (mjSt 5 (.int s0) L) 1 = some (.ref 0) := gt_ne g1 (by decide) rfl
  have g2 : mjGet (mjSt 5 (.int s0) L) 2 = some (.ref 78) := gt_ne g2 (by decide) rfl
  have g3 : mjGet (mjSt 5 (.int s0) L) 3 = some (.ref 578) := gt_ne g3 (by decide) rfl
  have g4 : mjGet (mjSt 5 (.int s0) L) 4 = some (.int i) := gt_ne g4 (by decide) rfl
  have g5 : mjGet (mjSt 5 (.int s0) L) 5 = some (.int s0) := gt_eq
  have h : Pn (some xs) m 373 812 (mjSt 5 (.int s0) L) [.ref 78] H r H' := pnLrn g2 h at_373_811
  have h : Pn (some xs) m 373 813 (mjSt 5 (.int s0) L) [.ref 3000000, .ref 78] H r H' := pnLrn g0 h at_373_812
  have h : Pn (some xs) m 373 815 (mjSt 5 (.int s0) L) [.int i, .ref 3000000, .ref 78] H r H' := pnLi g4 h at_373_813
  have h : Pn (some xs) m 373 816 (mjSt 5 (.int s0) L) [.int (Int32.ofInt 1), .int i, .ref 3000000, .ref 78] H r H' := pnA h at_373_815 rfl rfl
  have h : Pn (some xs) m 373 817 (mjSt 5 (.int s0) L) [.int (i + (Int32.ofInt 1)), .ref 3000000, .ref 78] H r H' := pnA h at_373_816 rfl rfl
  obtain ⟨y0, zy0, h⟩ := pnSa h at_373_817
  have h : Pn (some xs) m 373 818 (mjSt 5 (.int s0) L) [.int y0, .ref 78] H r H' := h
  refine ⟨y0, zy0, ?_⟩
  obtain ⟨r2, H2, q, h⟩ := pnC h at_373_818 kc_373_818.1 kc_373_818.2 (as := [.ref 78, .int y0]) (rest := []) rfl
  have q : Pn none m 259 0 [(0, .ref 78), (1, .int y0)] [] H r2 H2 := q
  exact ⟨_, ⟨g0, g1, g2, g3, g4, trivial⟩, r2, H2, q, h⟩
theorem at_373_821 : mjAtI 373 821 = some (.istore 6, 2, 0, 0, 0) := by decide +kernel
theorem at_373_823 : mjAtI 373 823 = some (.goto 1284, 3, 0, 2107, 0) := by decide +kernel
theorem lc_16 {m : Nat} {L : mjL} {H H' : mjH} {r : Option Value ⊕ Nat} {xs : List Int32} {i : Int32} {s1 : Int32} (hT : HT H) (hL : LG L [(0, .ref 3000000), (1, .ref 0), (2, .ref 78), (3, .ref 578), (4, .int i)]) (h : Pn (some xs) m 373 821 L [.int s1] H r H') : ∃ L', LG L' [(0, .ref 3000000), (1, .ref 0), (2, .ref 78), (3, .ref 578), (4, .int (i + Int32.ofInt 6))] ∧ Pn (some xs) m 373 23 L' [] H r H' := by
  obtain ⟨g0, g1, g2, g3, g4, -⟩ := hL
  have h : Pn (some xs) m 373 823 (mjSt 6 (.int s1) L) [] H r H' := pnA h at_373_821 rfl rfl
  have g0 : mjGet (mjSt 6 (.int s1) L) 0 = some (.ref 3000000) := gt_ne g0 (by decide) rfl
  have g1 : mjGet (mjSt 6 (.int s1) L) 1 = some (.ref 0) := gt_ne g1 (by decide) rfl
  have g2 : mjGet (mjSt 6 (.int s1) L) 2 = some (.ref 78) := gt_ne g2 (by decide) rfl
  have g3 : mjGet (mjSt 6 (.int s1) L) 3 = some (.ref 578) := gt_ne g3 (by decide) rfl
  have g4 : mjGet (mjSt 6 (.int s1) L) 4 = some (.int i) := gt_ne g4 (by decide) rfl
  have g6 : mjGet (mjSt 6 (.int s1) L) 6 = some (.int s1) := gt_eq
  have h : Pn (some xs) m 373 2107 (mjSt 6 (.int s1) L) [] H r H' := pnA h at_373_823 rfl rfl
  have h : Pn (some xs) m 373 2110 (mjSt 4 (.int (i + Int32.ofInt 6)) (mjSt 6 (.int s1) L)) [] H r H' := pnInc g4 h at_373_2107
  have g0 : mjGet (mjSt 4 (.int (i + Int32.ofInt 6)) (mjSt 6 (.int s1) L)) 0 = some (.ref 3000000) := gt_ne g0 (by decide) rfl
  have g1 : mjGet (mjSt 4 (.int (i + Int32.ofInt 6)) (mjSt 6 (.int s1) L)) 1 = some (.ref 0) := gt_ne g1 (by decide) rfl
  have g2 : mjGet (mjSt 4 (.int (i + Int32.ofInt 6)) (mjSt 6 (.int s1) L)) 2 = some (.ref 78) := gt_ne g2 (by decide) rfl
  have g3 : mjGet (mjSt 4 (.int (i + Int32.ofInt 6)) (mjSt 6 (.int s1) L)) 3 = some (.ref 578) := gt_ne g3 (by decide) rfl
  have g6 : mjGet (mjSt 4 (.int (i + Int32.ofInt 6)) (mjSt 6 (.int s1) L)) 6 = some (.int s1) := gt_ne g6 (by decide) rfl
  have g4 : mjGet (mjSt 4 (.int (i + Int32.ofInt 6)) (mjSt 6 (.int s1) L)) 4 = some (.int (i + Int32.ofInt 6)) := gt_eq
  have h : Pn (some xs) m 373 23 (mjSt 4 (.int (i + Int32.ofInt 6)) (mjSt 6 (.int s1) L)) [] H r H' := pnA h at_373_2110 rfl rfl
  exact ⟨_, ⟨g0, g1, g2, g3, g4, trivial⟩, h⟩
theorem at_373_826 : mjAtI 373 826 = some (.aload_n 1, 1, 0, 0, 0) := by decide +kernel
theorem at_373_827 : mjAtI 373 827 = some (.aload_n 0, 1, 0, 0, 0) := by decide +kernel
theorem at_373_828 : mjAtI 373 828 = some (.iload 4, 2, 0, 0, 0) := by decide +kernel
theorem at_373_830 : mjAtI 373 830 = some (.iconst 1, 1, 0, 0, 0) := by decide +kernel
theorem at_373_831 : mjAtI 373 831 = some (.iadd, 1, 0, 0, 0) := by decide +kernel
theorem at_373_832 : mjAtI 373 832 = some (.iaload, 1, 0, 0, 0) := by decide +kernel
theorem at_373_833 : mjAtI 373 833 = some (.aload_n 3, 1, 0, 0, 0) := by decide +kernel
theorem at_373_834 : mjAtI 373 834 = some (.invokestatic 223, 3, 341, 1, 1119) := by decide +kernel
theorem kc_373_834 : kCall (.invokestatic 223) 341 373 = true ∧ kArg 341 = 3 := by decide +kernel
theorem la_17 {m : Nat} {L : mjL} {H H' : mjH} {r : Option Value ⊕ Nat} {xs : List Int32} {i : Int32} (hT : HT H) (hL : LG L [(0, .ref 3000000), (1, .ref 0), (2, .ref 78), (3, .ref 578), (4, .int i)]) (h : Pn (some xs) m 373 826 L [] H r H') : ∃ y0, (¬ (i + (Int32.ofInt 1)) < 0 ∧ xs[(i + (Int32.ofInt 1)).toNatClampNeg]? = some y0) ∧ ∃ L', LG L' [(0, .ref 3000000), (1, .ref 0), (2, .ref 78), (3, .ref 578), (4, .int i)] ∧ ∃ r2 H2, Pn none m 341 0 [(0, .ref 0), (1, .int y0), (2, .ref 578)] [] H r2 H2 ∧ ((∃ cv, r2 = .inl cv ∧ Pn (some xs) m 373 837 L' (cv.toList ++ []) H2 r H') ∨ (∃ E, r2 = .inr E ∧ r = .inr E ∧ H' = H2)) := by
  obtain ⟨g0, g1, g2, g3, g4, -⟩ := hL
  have h : Pn (some xs) m 373 827 L [.ref 0] H r H' := pnLrn g1 h at_373_826
  have h : Pn (some xs) m 373 828 L [.ref 3000000, .ref 0] H r H' := pnLrn g0 h at_373_827
  have h : Pn (some xs) m 373 830 L [.int i, .ref 3000000, .ref 0] H r H' := pnLi g4 h at_373_828
  have h : Pn (some xs) m 373 831 L [.int (Int32.ofInt 1), .int i, .ref 3000000, .ref 0] H r H' := pnA h at_373_830 rfl rfl
  have h : Pn (some xs) m 373 832 L [.int (i + (Int32.ofInt 1)), .ref 3000000, .ref 0] H r H' := pnA h at_373_831 rfl rfl
  obtain ⟨y0, zy0, h⟩ := pnSa h at_373_832
  have h : Pn (some xs) m 373 833 L [.int y0, .ref 0] H r H' := h
  refine ⟨y0, zy0, ?_⟩
  have h : Pn (some xs) m 373 834 L [.ref 578, .int y0, .ref 0] H r H' := pnLrn g3 h at_373_833
  obtain ⟨r2, H2, q, h⟩ := pnC h at_373_834 kc_373_834.1 kc_373_834.2 (as := [.ref 0, .int y0, .ref 578]) (rest := []) rfl
  have q : Pn none m 341 0 [(0, .ref 0), (1, .int y0), (2, .ref 578)] [] H r2 H2 := q
  exact ⟨_, ⟨g0, g1, g2, g3, g4, trivial⟩, r2, H2, q, h⟩
theorem at_373_837 : mjAtI 373 837 = some (.istore 5, 2, 0, 0, 0) := by decide +kernel
theorem at_373_839 : mjAtI 373 839 = some (.aload_n 2, 1, 0, 0, 0) := by decide +kernel
theorem at_373_840 : mjAtI 373 840 = some (.aload_n 0, 1, 0, 0, 0) := by decide +kernel
theorem at_373_841 : mjAtI 373 841 = some (.iload 4, 2, 0, 0, 0) := by decide +kernel
theorem at_373_843 : mjAtI 373 843 = some (.iconst 1, 1, 0, 0, 0) := by decide +kernel
theorem at_373_844 : mjAtI 373 844 = some (.iadd, 1, 0, 0, 0) := by decide +kernel
theorem at_373_845 : mjAtI 373 845 = some (.iaload, 1, 0, 0, 0) := by decide +kernel
theorem at_373_846 : mjAtI 373 846 = some (.invokevirtual 225, 3, 272, 0, 2015) := by decide +kernel
theorem kc_373_846 : kCall (.invokevirtual 225) 272 373 = true ∧ kArg 272 = 2 := by decide +kernel
theorem lb_17 {m : Nat} {L : mjL} {H H' : mjH} {r : Option Value ⊕ Nat} {xs : List Int32} {i : Int32} {s0 : Int32} (hT : HT H) (hL : LG L [(0, .ref 3000000), (1, .ref 0), (2, .ref 78), (3, .ref 578), (4, .int i)]) (h : Pn (some xs) m 373 837 L [.int s0] H r H') : ∃ y0, (¬ (i + (Int32.ofInt 1)) < 0 ∧ xs[(i + (Int32.ofInt 1)).toNatClampNeg]? = some y0) ∧ ∃ L', LG L' [(0, .ref 3000000), (1, .ref 0), (2, .ref 78), (3, .ref 578), (4, .int i)] ∧ ∃ r2 H2, Pn none m 272 0 [(0, .ref 78), (1, .int y0)] [] H r2 H2 ∧ ((∃ cv, r2 = .inl cv ∧ Pn (some xs) m 373 849 L' (cv.toList ++ []) H2 r H') ∨ (∃ E, r2 = .inr E ∧ r = .inr E ∧ H' = H2)) := by
  obtain ⟨g0, g1, g2, g3, g4, -⟩ := hL
  have h : Pn (some xs) m 373 839 (mjSt 5 (.int s0) L) [] H r H' := pnA h at_373_837 rfl rfl
  have g0 : mjGet (mjSt 5 (.int s0) L) 0 = some (.ref 3000000) := gt_ne g0 (by decide) rfl
  have g1 : mjGet (mjSt 5 (.int s0) L) 1 = some (.ref 0) := gt_ne g1 (by decide) rfl
  have g2 : mjGet (mjSt 5 (.int s0) L) 2 = some (.ref 78) := gt_ne g2 (by decide) rfl
  have g3 : mjGet (mjSt 5 (.int s0) L) 3 = some (.ref 578) := gt_ne g3 (by decide) rfl
  have g4 : mjGet (mjSt 5 (.int s0) L) 4 = some (.int i) := gt_ne g4 (by decide) rfl
  have g5 : mjGet (mjSt 5 (.int s0) L) 5 = some (.int s0) := gt_eq
  have h : Pn (some xs) m 373 840 (mjSt 5 (.int s0) L) [.ref 78] H r H' := pnLrn g2 h at_373_839
  have h : Pn (some xs) m 373 841 (mjSt 5 (.int s0) L) [.ref 3000000, .ref 78] H r H' := pnLrn g0 h at_373_840
  have h : Pn (some xs) m 373 843 (mjSt 5 (.int s0) L) [.int i, .ref 3000000, .ref 78] H r H' := pnLi g4 h at_373_841
  have h : Pn (some xs) m 373 844 (mjSt 5 (.int s0) L) [.int (Int32.ofInt 1), .int i, .ref 3000000, .ref 78] H r H' := pnA h at_373_843 rfl rfl
  have h : Pn (some xs) m 373 845 (mjSt 5 (.int s0) L) [.int (i + (Int32.ofInt 1)), .ref 3000000, .ref 78] H r H' := pnA h at_373_844 rfl rfl
  obtain ⟨y0, zy0, h⟩ := pnSa h at_373_845
  have h : Pn (some xs) m 373 846 (mjSt 5 (.int s0) L) [.int y0, .ref 78] H r H' := h
  refine ⟨y0, zy0, ?_⟩
  obtain ⟨r2, H2, q, h⟩ := pnC h at_373_846 kc_373_846.1 kc_373_846.2 (as := [.ref 78, .int y0]) (rest := []) rfl
  have q : Pn none m 272 0 [(0, .ref 78), (1, .int y0)] [] H r2 H2 := q
  exact ⟨_, ⟨g0, g1, g2, g3, g4, trivial⟩, r2, H2, q, h⟩
theorem at_373_849 : mjAtI 373 849 = some (.istore 6, 2, 0, 0, 0) := by decide +kernel
theorem at_373_851 : mjAtI 373 851 = some (.goto 1256, 3, 0, 2107, 0) := by decide +kernel
theorem lc_17 {m : Nat} {L : mjL} {H H' : mjH} {r : Option Value ⊕ Nat} {xs : List Int32} {i : Int32} {s1 : Int32} (hT : HT H) (hL : LG L [(0, .ref 3000000), (1, .ref 0), (2, .ref 78), (3, .ref 578), (4, .int i)]) (h : Pn (some xs) m 373 849 L [.int s1] H r H') : ∃ L', LG L' [(0, .ref 3000000), (1, .ref 0), (2, .ref 78), (3, .ref 578), (4, .int (i + Int32.ofInt 6))] ∧ Pn (some xs) m 373 23 L' [] H r H' := by
  obtain ⟨g0, g1, g2, g3, g4, -⟩ := hL
  have h : Pn (some xs) m 373 851 (mjSt 6 (.int s1) L) [] H r H' := pnA h at_373_849 rfl rfl
  have g0 : mjGet (mjSt 6 (.int s1) L) 0 = some (.ref 3000000) := gt_ne g0 (by decide) rfl
  have g1 : mjGet (mjSt 6 (.int s1) L) 1 = some (.ref 0) := gt_ne g1 (by decide) rfl
  have g2 : mjGet (mjSt 6 (.int s1) L) 2 = some (.ref 78) := gt_ne g2 (by decide) rfl
  have g3 : mjGet (mjSt 6 (.int s1) L) 3 = some (.ref 578) := gt_ne g3 (by decide) rfl
  have g4 : mjGet (mjSt 6 (.int s1) L) 4 = some (.int i) := gt_ne g4 (by decide) rfl
  have g6 : mjGet (mjSt 6 (.int s1) L) 6 = some (.int s1) := gt_eq
  have h : Pn (some xs) m 373 2107 (mjSt 6 (.int s1) L) [] H r H' := pnA h at_373_851 rfl rfl
  have h : Pn (some xs) m 373 2110 (mjSt 4 (.int (i + Int32.ofInt 6)) (mjSt 6 (.int s1) L)) [] H r H' := pnInc g4 h at_373_2107
  have g0 : mjGet (mjSt 4 (.int (i + Int32.ofInt 6)) (mjSt 6 (.int s1) L)) 0 = some (.ref 3000000) := gt_ne g0 (by decide) rfl
  have g1 : mjGet (mjSt 4 (.int (i + Int32.ofInt 6)) (mjSt 6 (.int s1) L)) 1 = some (.ref 0) := gt_ne g1 (by decide) rfl
  have g2 : mjGet (mjSt 4 (.int (i + Int32.ofInt 6)) (mjSt 6 (.int s1) L)) 2 = some (.ref 78) := gt_ne g2 (by decide) rfl
  have g3 : mjGet (mjSt 4 (.int (i + Int32.ofInt 6)) (mjSt 6 (.int s1) L)) 3 = some (.ref 578) := gt_ne g3 (by decide) rfl
  have g6 : mjGet (mjSt 4 (.int (i + Int32.ofInt 6)) (mjSt 6 (.int s1) L)) 6 = some (.int s1) := gt_ne g6 (by decide) rfl
  have g4 : mjGet (mjSt 4 (.int (i + Int32.ofInt 6)) (mjSt 6 (.int s1) L)) 4 = some (.int (i + Int32.ofInt 6)) := gt_eq
  have h : Pn (some xs) m 373 23 (mjSt 4 (.int (i + Int32.ofInt 6)) (mjSt 6 (.int s1) L)) [] H r H' := pnA h at_373_2110 rfl rfl
  exact ⟨_, ⟨g0, g1, g2, g3, g4, trivial⟩, h⟩
theorem at_373_854 : mjAtI 373 854 = some (.aload_n 1, 1, 0, 0, 0) := by decide +kernel
theorem at_373_855 : mjAtI 373 855 = some (.aload_n 0, 1, 0, 0, 0) := by decide +kernel
theorem at_373_856 : mjAtI 373 856 = some (.iload 4, 2, 0, 0, 0) := by decide +kernel
theorem at_373_858 : mjAtI 373 858 = some (.iconst 1, 1, 0, 0, 0) := by decide +kernel
theorem at_373_859 : mjAtI 373 859 = some (.iadd, 1, 0, 0, 0) := by decide +kernel
theorem at_373_860 : mjAtI 373 860 = some (.iaload, 1, 0, 0, 0) := by decide +kernel
theorem at_373_861 : mjAtI 373 861 = some (.aload_n 0, 1, 0, 0, 0) := by decide +kernel
theorem at_373_862 : mjAtI 373 862 = some (.iload 4, 2, 0, 0, 0) := by decide +kernel
theorem at_373_864 : mjAtI 373 864 = some (.iconst 2, 1, 0, 0, 0) := by decide +kernel
theorem at_373_865 : mjAtI 373 865 = some (.iadd, 1, 0, 0, 0) := by decide +kernel
theorem at_373_866 : mjAtI 373 866 = some (.iaload, 1, 0, 0, 0) := by decide +kernel
theorem at_373_867 : mjAtI 373 867 = some (.aload_n 3, 1, 0, 0, 0) := by decide +kernel
theorem at_373_868 : mjAtI 373 868 = some (.invokestatic 226, 3, 342, 1, 1130) := by decide +kernel
theorem kc_373_868 : kCall (.invokestatic 226) 342 373 = true ∧ kArg 342 = 4 := by decide +kernel
theorem la_18 {m : Nat} {L : mjL} {H H' : mjH} {r : Option Value ⊕ Nat} {xs : List Int32} {i : Int32} (hT : HT H) (hL : LG L [(0, .ref 3000000), (1, .ref 0), (2, .ref 78), (3, .ref 578), (4, .int i)]) (h : Pn (some xs) m 373 854 L [] H r H') : ∃ y0, (¬ (i + (Int32.ofInt 1)) < 0 ∧ xs[(i + (Int32.ofInt 1)).toNatClampNeg]? = some y0) ∧ ∃ y1, (¬ (i + (Int32.ofInt 2)) < 0 ∧ xs[(i + (Int32.ofInt 2)).toNatClampNeg]? = some y1) ∧ ∃ L', LG L' [(0, .ref 3000000), (1, .ref 0), (2, .ref 78), (3, .ref 578), (4, .int i)] ∧ ∃ r2 H2, Pn none m 342 0 [(0, .ref 0), (1, .int y0), (2, .int y1), (3, .ref 578)] [] H r2 H2 ∧ ((∃ cv, r2 = .inl cv ∧ Pn (some xs) m 373 871 L' (cv.toList ++ []) H2 r H') ∨ (∃ E, r2 = .inr E ∧ r = .inr E ∧ H' = H2)) := by
  obtain ⟨g0, g1, g2, g3, g4, -⟩ := hL
  have h : Pn (some xs) m 373 855 L [.ref 0] H r H' := pnLrn g1 h at_373_854
  have h : Pn (some xs) m 373 856 L [.ref 3000000, .ref 0] H r H' := pnLrn g0 h at_373_855
  have h : Pn (some xs) m 373 858 L [.int i, .ref 3000000, .ref 0] H r H' := pnLi g4 h at_373_856
  have h : Pn (some xs) m 373 859 L [.int (Int32.ofInt 1), .int i, .ref 3000000, .ref 0] H r H' := pnA h at_373_858 rfl rfl
  have h : Pn (some xs) m 373 860 L [.int (i + (Int32.ofInt 1)), .ref 3000000, .ref 0] H r H' := pnA h at_373_859 rfl rfl
  obtain ⟨y0, zy0, h⟩ := pnSa h at_373_860
  have h : Pn (some xs) m 373 861 L [.int y0, .ref 0] H r H' := h
  refine ⟨y0, zy0, ?_⟩
  have h : Pn (some xs) m 373 862 L [.ref 3000000, .int y0, .ref 0] H r H' := pnLrn g0 h at_373_861
  have h : Pn (some xs) m 373 864 L [.int i, .ref 3000000, .int y0, .ref 0] H r H' := pnLi g4 h at_373_862
  have h : Pn (some xs) m 373 865 L [.int (Int32.ofInt 2), .int i, .ref 3000000, .int y0, .ref 0] H r H' := pnA h at_373_864 rfl rfl
  have h : Pn (some xs) m 373 866 L [.int (i + (Int32.ofInt 2)), .ref 3000000, .int y0, .ref 0] H r H' := pnA h at_373_865 rfl rfl
  obtain ⟨y1, zy1, h⟩ := pnSa h at_373_866
  have h : Pn (some xs) m 373 867 L [.int y1, .int y0, .ref 0] H r H' := h
  refine ⟨y1, zy1, ?_⟩
  have h : Pn (some xs) m 373 868 L [.ref 578, .int y1, .int y0, .ref 0] H r H' := pnLrn g3 h at_373_867
  obtain ⟨r2, H2, q, h⟩ := pnC h at_373_868 kc_373_868.1 kc_373_868.2 (as := [.ref 0, .int y0, .int y1, .ref 578]) (rest := []) rfl
  have q : Pn none m 342 0 [(0, .ref 0), (1, .int y0), (2, .int y1), (3, .ref 578)] [] H r2 H2 := q
  exact ⟨_, ⟨g0, g1, g2, g3, g4, trivial⟩, r2, H2, q, h⟩
theorem at_373_871 : mjAtI 373 871 = some (.istore 5, 2, 0, 0, 0) := by decide +kernel
theorem at_373_873 : mjAtI 373 873 = some (.aload_n 2, 1, 0, 0, 0) := by decide +kernel
theorem at_373_874 : mjAtI 373 874 = some (.aload_n 0, 1, 0, 0, 0) := by decide +kernel
theorem at_373_875 : mjAtI 373 875 = some (.iload 4, 2, 0, 0, 0) := by decide +kernel
theorem at_373_877 : mjAtI 373 877 = some (.iconst 1, 1, 0, 0, 0) := by decide +kernel
theorem at_373_878 : mjAtI 373 878 = some (.iadd, 1, 0, 0, 0) := by decide +kernel
theorem at_373_879 : mjAtI 373 879 = some (.iaload, 1, 0, 0, 0) := by decide +kernel
theorem at_373_880 : mjAtI 373 880 = some (.aload_n 0, 1, 0, 0, 0) := by decide +kernel
theorem at_373_881 : mjAtI 373 881 = some (.iload 4, 2, 0, 0, 0) := by decide +kernel
theorem at_373_883 : mjAtI 373 883 = some (.iconst 2, 1, 0, 0, 0) := by decide +kernel
theorem at_373_884 : mjAtI 373 884 = some (.iadd, 1, 0, 0, 0) := by decide +kernel
theorem at_373_885 : mjAtI 373 885 = some (.iaload, 1, 0, 0, 0) := by decide +kernel
theorem at_373_886 : mjAtI 373 886 = some (.invokevirtual 228, 3, 274, 0, 2102) := by decide +kernel
theorem kc_373_886 : kCall (.invokevirtual 228) 274 373 = true ∧ kArg 274 = 3 := by decide +kernel
theorem lb_18 {m : Nat} {L : mjL} {H H' : mjH} {r : Option Value ⊕ Nat} {xs : List Int32} {i : Int32} {s0 : Int32} (hT : HT H) (hL : LG L [(0, .ref 3000000), (1, .ref 0), (2, .ref 78), (3, .ref 578), (4, .int i)]) (h : Pn (some xs) m 373 871 L [.int s0] H r H') : ∃ y0, (¬ (i + (Int32.ofInt 1)) < 0 ∧ xs[(i + (Int32.ofInt 1)).toNatClampNeg]? = some y0) ∧ ∃ y1, (¬ (i + (Int32.ofInt 2)) < 0 ∧ xs[(i + (Int32.ofInt 2)).toNatClampNeg]? = some y1) ∧ ∃ L', LG L' [(0, .ref 3000000), (1, .ref 0), (2, .ref 78), (3, .ref 578), (4, .int i)] ∧ ∃ r2 H2, Pn none m 274 0 [(0, .ref 78), (1, .int y0), (2, .int y1)] [] H r2 H2 ∧ ((∃ cv, r2 = .inl cv ∧ Pn (some xs) m 373 889 L' (cv.toList ++ []) H2 r H') ∨ (∃ E, r2 = .inr E ∧ r = .inr E ∧ H' = H2)) := by
  obtain ⟨g0, g1, g2, g3, g4, -⟩ := hL
  have h : Pn (some xs) m 373 873 (mjSt 5 (.int s0) L) [] H r H' := pnA h at_373_871 rfl rfl
  have g0 : mjGet (mjSt 5 (.int s0) L) 0 = some (.ref 3000000) := gt_ne g0 (by decide) rfl
  have g1 : mjGet (mjSt 5 (.int s0) L) 1 = some (.ref 0) := gt_ne g1 (by decide) rfl
  have g2 : mjGet (mjSt 5 (.int s0) L) 2 = some (.ref 78) := gt_ne g2 (by decide) rfl
  have g3 : mjGet (mjSt 5 (.int s0) L) 3 = some (.ref 578) := gt_ne g3 (by decide) rfl
  have g4 : mjGet (mjSt 5 (.int s0) L) 4 = some (.int i) := gt_ne g4 (by decide) rfl
  have g5 : mjGet (mjSt 5 (.int s0) L) 5 = some (.int s0) := gt_eq
  have h : Pn (some xs) m 373 874 (mjSt 5 (.int s0) L) [.ref 78] H r H' := pnLrn g2 h at_373_873
  have h : Pn (some xs) m 373 875 (mjSt 5 (.int s0) L) [.ref 3000000, .ref 78] H r H' := pnLrn g0 h at_373_874
  have h : Pn (some xs) m 373 877 (mjSt 5 (.int s0) L) [.int i, .ref 3000000, .ref 78] H r H' := pnLi g4 h at_373_875
  have h : Pn (some xs) m 373 878 (mjSt 5 (.int s0) L) [.int (Int32.ofInt 1), .int i, .ref 3000000, .ref 78] H r H' := pnA h at_373_877 rfl rfl
  have h : Pn (some xs) m 373 879 (mjSt 5 (.int s0) L) [.int (i + (Int32.ofInt 1)), .ref 3000000, .ref 78] H r H' := pnA h at_373_878 rfl rfl
  obtain ⟨y0, zy0, h⟩ := pnSa h at_373_879
  have h : Pn (some xs) m 373 880 (mjSt 5 (.int s0) L) [.int y0, .ref 78] H r H' := h
  refine ⟨y0, zy0, ?_⟩
  have h : Pn (some xs) m 373 881 (mjSt 5 (.int s0) L) [.ref 3000000, .int y0, .ref 78] H r H' := pnLrn g0 h at_373_880
  have h : Pn (some xs) m 373 883 (mjSt 5 (.int s0) L) [.int i, .ref 3000000, .int y0, .ref 78] H r H' := pnLi g4 h at_373_881
  have h : Pn (some xs) m 373 884 (mjSt 5 (.int s0) L) [.int (Int32.ofInt 2), .int i, .ref 3000000, .int y0, .ref 78] H r H' := pnA h at_373_883 rfl rfl
  have h : Pn (some xs) m 373 885 (mjSt 5 (.int s0) L) [.int (i + (Int32.ofInt 2)), .ref 3000000, .int y0, .ref 78] H r H' := pnA h at_373_884 rfl rfl
  obtain ⟨y1, zy1, h⟩ := pnSa h at_373_885
  have h : Pn (some xs) m 373 886 (mjSt 5 (.int s0) L) [.int y1, .int y0, .ref 78] H r H' := h
  refine ⟨y1, zy1, ?_⟩
  obtain ⟨r2, H2, q, h⟩ := pnC h at_373_886 kc_373_886.1 kc_373_886.2 (as := [.ref 78, .int y0, .int y1]) (rest := []) rfl
  have q : Pn none m 274 0 [(0, .ref 78), (1, .int y0), (2, .int y1)] [] H r2 H2 := q
  exact ⟨_, ⟨g0, g1, g2, g3, g4, trivial⟩, r2, H2, q, h⟩
theorem at_373_889 : mjAtI 373 889 = some (.istore 6, 2, 0, 0, 0) := by decide +kernel
theorem at_373_891 : mjAtI 373 891 = some (.goto 1216, 3, 0, 2107, 0) := by decide +kernel
theorem lc_18 {m : Nat} {L : mjL} {H H' : mjH} {r : Option Value ⊕ Nat} {xs : List Int32} {i : Int32} {s1 : Int32} (hT : HT H) (hL : LG L [(0, .ref 3000000), (1, .ref 0), (2, .ref 78), (3, .ref 578), (4, .int i)]) (h : Pn (some xs) m 373 889 L [.int s1] H r H') : ∃ L', LG L' [(0, .ref 3000000), (1, .ref 0), (2, .ref 78), (3, .ref 578), (4, .int (i + Int32.ofInt 6))] ∧ Pn (some xs) m 373 23 L' [] H r H' := by
  obtain ⟨g0, g1, g2, g3, g4, -⟩ := hL
  have h : Pn (some xs) m 373 891 (mjSt 6 (.int s1) L) [] H r H' := pnA h at_373_889 rfl rfl
  have g0 : mjGet (mjSt 6 (.int s1) L) 0 = some (.ref 3000000) := gt_ne g0 (by decide) rfl
  have g1 : mjGet (mjSt 6 (.int s1) L) 1 = some (.ref 0) := gt_ne g1 (by decide) rfl
  have g2 : mjGet (mjSt 6 (.int s1) L) 2 = some (.ref 78) := gt_ne g2 (by decide) rfl
  have g3 : mjGet (mjSt 6 (.int s1) L) 3 = some (.ref 578) := gt_ne g3 (by decide) rfl
  have g4 : mjGet (mjSt 6 (.int s1) L) 4 = some (.int i) := gt_ne g4 (by decide) rfl
  have g6 : mjGet (mjSt 6 (.int s1) L) 6 = some (.int s1) := gt_eq
  have h : Pn (some xs) m 373 2107 (mjSt 6 (.int s1) L) [] H r H' := pnA h at_373_891 rfl rfl
  have h : Pn (some xs) m 373 2110 (mjSt 4 (.int (i + Int32.ofInt 6)) (mjSt 6 (.int s1) L)) [] H r H' := pnInc g4 h at_373_2107
  have g0 : mjGet (mjSt 4 (.int (i + Int32.ofInt 6)) (mjSt 6 (.int s1) L)) 0 = some (.ref 3000000) := gt_ne g0 (by decide) rfl
  have g1 : mjGet (mjSt 4 (.int (i + Int32.ofInt 6)) (mjSt 6 (.int s1) L)) 1 = some (.ref 0) := gt_ne g1 (by decide) rfl
  have g2 : mjGet (mjSt 4 (.int (i + Int32.ofInt 6)) (mjSt 6 (.int s1) L)) 2 = some (.ref 78) := gt_ne g2 (by decide) rfl
  have g3 : mjGet (mjSt 4 (.int (i + Int32.ofInt 6)) (mjSt 6 (.int s1) L)) 3 = some (.ref 578) := gt_ne g3 (by decide) rfl
  have g6 : mjGet (mjSt 4 (.int (i + Int32.ofInt 6)) (mjSt 6 (.int s1) L)) 6 = some (.int s1) := gt_ne g6 (by decide) rfl
  have g4 : mjGet (mjSt 4 (.int (i + Int32.ofInt 6)) (mjSt 6 (.int s1) L)) 4 = some (.int (i + Int32.ofInt 6)) := gt_eq
  have h : Pn (some xs) m 373 23 (mjSt 4 (.int (i + Int32.ofInt 6)) (mjSt 6 (.int s1) L)) [] H r H' := pnA h at_373_2110 rfl rfl
  exact ⟨_, ⟨g0, g1, g2, g3, g4, trivial⟩, h⟩
theorem at_373_894 : mjAtI 373 894 = some (.aload_n 1, 1, 0, 0, 0) := by decide +kernel
theorem at_373_895 : mjAtI 373 895 = some (.aload_n 0, 1, 0, 0, 0) := by decide +kernel
theorem at_373_896 : mjAtI 373 896 = some (.iload 4, 2, 0, 0, 0) := by decide +kernel
theorem at_373_898 : mjAtI 373 898 = some (.iconst 1, 1, 0, 0, 0) := by decide +kernel
theorem at_373_899 : mjAtI 373 899 = some (.iadd, 1, 0, 0, 0) := by decide +kernel
theorem at_373_900 : mjAtI 373 900 = some (.iaload, 1, 0, 0, 0) := by decide +kernel
theorem at_373_901 : mjAtI 373 901 = some (.aload_n 3, 1, 0, 0, 0) := by decide +kernel
theorem at_373_902 : mjAtI 373 902 = some (.invokestatic 229, 3, 343, 1, 1142) := by decide +kernel
theorem kc_373_902 : kCall (.invokestatic 229) 343 373 = true ∧ kArg 343 = 3 := by decide +kernel
theorem la_19 {m : Nat} {L : mjL} {H H' : mjH} {r : Option Value ⊕ Nat} {xs : List Int32} {i : Int32} (hT : HT H) (hL : LG L [(0, .ref 3000000), (1, .ref 0), (2, .ref 78), (3, .ref 578), (4, .int i)]) (h : Pn (some xs) m 373 894 L [] H r H') : ∃ y0, (¬ (i + (Int32.ofInt 1)) < 0 ∧ xs[(i + (Int32.ofInt 1)).toNatClampNeg]? = some y0) ∧ ∃ L', LG L' [(0, .ref 3000000), (1, .ref 0), (2, .ref 78), (3, .ref 578), (4, .int i)] ∧ ∃ r2 H2, Pn none m 343 0 [(0, .ref 0), (1, .int y0), (2, .ref 578)] [] H r2 H2 ∧ ((∃ cv, r2 = .inl cv ∧ Pn (some xs) m 373 905 L' (cv.toList ++ []) H2 r H') ∨ (∃ E, r2 = .inr E ∧ r = .inr E ∧ H' = H2)) := by
  obtain ⟨g0, g1, g2, g3, g4, -⟩ := hL
  have h : Pn (some xs) m 373 895 L [.ref 0] H r H' := pnLrn g1 h at_373_894
  have h : Pn (some xs) m 373 896 L [.ref 3000000, .ref 0] H r H' := pnLrn g0 h at_373_895
  have h : Pn (some xs) m 373 898 L [.int i, .ref 3000000, .ref 0] H r H' := pnLi g4 h at_373_896
  have h : Pn (some xs) m 373 899 L [.int (Int32.ofInt 1), .int i, .ref 3000000, .ref 0] H r H' := pnA h at_373_898 rfl rfl
  have h : Pn (some xs) m 373 900 L [.int (i + (Int32.ofInt 1)), .ref 3000000, .ref 0] H r H' := pnA h at_373_899 rfl rfl
  obtain ⟨y0, zy0, h⟩ := pnSa h at_373_900
  have h : Pn (some xs) m 373 901 L [.int y0, .ref 0] H r H' := h
  refine ⟨y0, zy0, ?_⟩
  have h : Pn (some xs) m 373 902 L [.ref 578, .int y0, .ref 0] H r H' := pnLrn g3 h at_373_901
  obtain ⟨r2, H2, q, h⟩ := pnC h at_373_902 kc_373_902.1 kc_373_902.2 (as := [.ref 0, .int y0, .ref 578]) (rest := []) rfl
  have q : Pn none m 343 0 [(0, .ref 0), (1, .int y0), (2, .ref 578)] [] H r2 H2 := q
  exact ⟨_, ⟨g0, g1, g2, g3, g4, trivial⟩, r2, H2, q, h⟩
theorem at_373_905 : mjAtI 373 905 = some (.istore 5, 2, 0, 0, 0) := by decide +kernel
theorem at_373_907 : mjAtI 373 907 = some (.aload_n 2, 1, 0, 0, 0) := by decide +kernel
theorem at_373_908 : mjAtI 373 908 = some (.aload_n 0, 1, 0, 0, 0) := by decide +kernel
theorem at_373_909 : mjAtI 373 909 = some (.iload 4, 2, 0, 0, 0) := by decide +kernel
theorem at_373_911 : mjAtI 373 911 = some (.iconst 1, 1, 0, 0, 0) := by decide +kernel
theorem at_373_912 : mjAtI 373 912 = some (.iadd, 1, 0, 0, 0) := by decide +kernel
theorem at_373_913 : mjAtI 373 913 = some (.iaload, 1, 0, 0, 0) := by decide +kernel
theorem at_373_914 : mjAtI 373 914 = some (.invokevirtual 231, 3, 276, 0, 2106) := by decide +kernel
theorem kc_373_914 : kCall (.invokevirtual 231) 276 373 = true ∧ kArg 276 = 2 := by decide +kernel
theorem lb_19 {m : Nat} {L : mjL} {H H' : mjH} {r : Option Value ⊕ Nat} {xs : List Int32} {i : Int32} {s0 : Int32} (hT : HT H) (hL : LG L [(0, .ref 3000000), (1, .ref 0), (2, .ref 78), (3, .ref 578), (4, .int i)]) (h : Pn (some xs) m 373 905 L [.int s0] H r H') : ∃ y0, (¬ (i + (Int32.ofInt 1)) < 0 ∧ xs[(i + (Int32.ofInt 1)).toNatClampNeg]? = some y0) ∧ ∃ L', LG L' [(0, .ref 3000000), (1, .ref 0), (2, .ref 78), (3, .ref 578), (4, .int i)] ∧ ∃ r2 H2, Pn none m 276 0 [(0, .ref 78), (1, .int y0)] [] H r2 H2 ∧ ((∃ cv, r2 = .inl cv ∧ Pn (some xs) m 373 917 L' (cv.toList ++ []) H2 r H') ∨ (∃ E, r2 = .inr E ∧ r = .inr E ∧ H' = H2)) := by
  obtain ⟨g0, g1, g2, g3, g4, -⟩ := hL
  have h : Pn (some xs) m 373 907 (mjSt 5 (.int s0) L) [] H r H' := pnA h at_373_905 rfl rfl
  have g0 : mjGet (mjSt 5 (.int s0) L) 0 = some (.ref 3000000) := gt_ne g0 (by decide) rfl
  have g1 : mjGet (mjSt 5 (.int s0) L) 1 = some (.ref 0) := gt_ne g1 (by decide) rfl
  have g2 : mjGet (mjSt 5 (.int s0) L) 2 = some (.ref 78) := gt_ne g2 (by decide) rfl
  have g3 : mjGet (mjSt 5 (.int s0) L) 3 = some (.ref 578) := gt_ne g3 (by decide) rfl
  have g4 : mjGet (mjSt 5 (.int s0) L) 4 = some (.int i) := gt_ne g4 (by decide) rfl
  have g5 : mjGet (mjSt 5 (.int s0) L) 5 = some (.int s0) := gt_eq
  have h : Pn (some xs) m 373 908 (mjSt 5 (.int s0) L) [.ref 78] H r H' := pnLrn g2 h at_373_907
  have h : Pn (some xs) m 373 909 (mjSt 5 (.int s0) L) [.ref 3000000, .ref 78] H r H' := pnLrn g0 h at_373_908
  have h : Pn (some xs) m 373 911 (mjSt 5 (.int s0) L) [.int i, .ref 3000000, .ref 78] H r H' := pnLi g4 h at_373_909
  have h : Pn (some xs) m 373 912 (mjSt 5 (.int s0) L) [.int (Int32.ofInt 1), .int i, .ref 3000000, .ref 78] H r H' := pnA h at_373_911 rfl rfl
  have h : Pn (some xs) m 373 913 (mjSt 5 (.int s0) L) [.int (i + (Int32.ofInt 1)), .ref 3000000, .ref 78] H r H' := pnA h at_373_912 rfl rfl
  obtain ⟨y0, zy0, h⟩ := pnSa h at_373_913
  have h : Pn (some xs) m 373 914 (mjSt 5 (.int s0) L) [.int y0, .ref 78] H r H' := h
  refine ⟨y0, zy0, ?_⟩
  obtain ⟨r2, H2, q, h⟩ := pnC h at_373_914 kc_373_914.1 kc_373_914.2 (as := [.ref 78, .int y0]) (rest := []) rfl
  have q : Pn none m 276 0 [(0, .ref 78), (1, .int y0)] [] H r2 H2 := q
  exact ⟨_, ⟨g0, g1, g2, g3, g4, trivial⟩, r2, H2, q, h⟩
theorem at_373_917 : mjAtI 373 917 = some (.istore 6, 2, 0, 0, 0) := by decide +kernel
theorem at_373_919 : mjAtI 373 919 = some (.goto 1188, 3, 0, 2107, 0) := by decide +kernel
theorem lc_19 {m : Nat} {L : mjL} {H H' : mjH} {r : Option Value ⊕ Nat} {xs : List Int32} {i : Int32} {s1 : Int32} (hT : HT H) (hL : LG L [(0, .ref 3000000), (1, .ref 0), (2, .ref 78), (3, .ref 578), (4, .int i)]) (h : Pn (some xs) m 373 917 L [.int s1] H r H') : ∃ L', LG L' [(0, .ref 3000000), (1, .ref 0), (2, .ref 78), (3, .ref 578), (4, .int (i + Int32.ofInt 6))] ∧ Pn (some xs) m 373 23 L' [] H r H' := by
  obtain ⟨g0, g1, g2, g3, g4, -⟩ := hL
  have h : Pn (some xs) m 373 919 (mjSt 6 (.int s1) L) [] H r H' := pnA h at_373_917 rfl rfl
  have g0 : mjGet (mjSt 6 (.int s1) L) 0 = some (.ref 3000000) := gt_ne g0 (by decide) rfl
  have g1 : mjGet (mjSt 6 (.int s1) L) 1 = some (.ref 0) := gt_ne g1 (by decide) rfl
  have g2 : mjGet (mjSt 6 (.int s1) L) 2 = some (.ref 78) := gt_ne g2 (by decide) rfl
  have g3 : mjGet (mjSt 6 (.int s1) L) 3 = some (.ref 578) := gt_ne g3 (by decide) rfl
  have g4 : mjGet (mjSt 6 (.int s1) L) 4 = some (.int i) := gt_ne g4 (by decide) rfl
  have g6 : mjGet (mjSt 6 (.int s1) L) 6 = some (.int s1) := gt_eq
  have h : Pn (some xs) m 373 2107 (mjSt 6 (.int s1) L) [] H r H' := pnA h at_373_919 rfl rfl
  have h : Pn (some xs) m 373 2110 (mjSt 4 (.int (i + Int32.ofInt 6)) (mjSt 6 (.int s1) L)) [] H r H' := pnInc g4 h at_373_2107
  have g0 : mjGet (mjSt 4 (.int (i + Int32.ofInt 6)) (mjSt 6 (.int s1) L)) 0 = some (.ref 3000000) := gt_ne g0 (by decide) rfl
  have g1 : mjGet (mjSt 4 (.int (i + Int32.ofInt 6)) (mjSt 6 (.int s1) L)) 1 = some (.ref 0) := gt_ne g1 (by decide) rfl
  have g2 : mjGet (mjSt 4 (.int (i + Int32.ofInt 6)) (mjSt 6 (.int s1) L)) 2 = some (.ref 78) := gt_ne g2 (by decide) rfl
  have g3 : mjGet (mjSt 4 (.int (i + Int32.ofInt 6)) (mjSt 6 (.int s1) L)) 3 = some (.ref 578) := gt_ne g3 (by decide) rfl
  have g6 : mjGet (mjSt 4 (.int (i + Int32.ofInt 6)) (mjSt 6 (.int s1) L)) 6 = some (.int s1) := gt_ne g6 (by decide) rfl
  have g4 : mjGet (mjSt 4 (.int (i + Int32.ofInt 6)) (mjSt 6 (.int s1) L)) 4 = some (.int (i + Int32.ofInt 6)) := gt_eq
  have h : Pn (some xs) m 373 23 (mjSt 4 (.int (i + Int32.ofInt 6)) (mjSt 6 (.int s1) L)) [] H r H' := pnA h at_373_2110 rfl rfl
  exact ⟨_, ⟨g0, g1, g2, g3, g4, trivial⟩, h⟩
theorem at_373_922 : mjAtI 373 922 = some (.aload_n 1, 1, 0, 0, 0) := by decide +kernel
theorem at_373_923 : mjAtI 373 923 = some (.invokevirtual 232, 3, 133, 0, 477) := by decide +kernel
theorem kc_373_923 : kCall (.invokevirtual 232) 133 373 = true ∧ kArg 133 = 1 := by decide +kernel
theorem la_20 {m : Nat} {L : mjL} {H H' : mjH} {r : Option Value ⊕ Nat} {xs : List Int32} {i : Int32} (hT : HT H) (hL : LG L [(0, .ref 3000000), (1, .ref 0), (2, .ref 78), (3, .ref 578), (4, .int i)]) (h : Pn (some xs) m 373 922 L [] H r H') : ∃ L', LG L' [(0, .ref 3000000), (1, .ref 0), (2, .ref 78), (3, .ref 578), (4, .int i)] ∧ ∃ r2 H2, Pn none m 133 0 [(0, .ref 0)] [] H r2 H2 ∧ ((∃ cv, r2 = .inl cv ∧ Pn (some xs) m 373 926 L' (cv.toList ++ []) H2 r H') ∨ (∃ E, r2 = .inr E ∧ r = .inr E ∧ H' = H2)) := by
  obtain ⟨g0, g1, g2, g3, g4, -⟩ := hL
  have h : Pn (some xs) m 373 923 L [.ref 0] H r H' := pnLrn g1 h at_373_922
  obtain ⟨r2, H2, q, h⟩ := pnC h at_373_923 kc_373_923.1 kc_373_923.2 (as := [.ref 0]) (rest := []) rfl
  have q : Pn none m 133 0 [(0, .ref 0)] [] H r2 H2 := q
  exact ⟨_, ⟨g0, g1, g2, g3, g4, trivial⟩, r2, H2, q, h⟩
theorem at_373_926 : mjAtI 373 926 = some (.pop, 1, 0, 0, 0) := by decide +kernel
theorem at_373_927 : mjAtI 373 927 = some (.aload_n 2, 1, 0, 0, 0) := by decide +kernel
theorem at_373_928 : mjAtI 373 928 = some (.invokevirtual 235, 3, 278, 0, 2114) := by decide +kernel
theorem kc_373_928 : kCall (.invokevirtual 235) 278 373 = true ∧ kArg 278 = 1 := by decide +kernel
theorem lb_20 {m : Nat} {L : mjL} {H H' : mjH} {r : Option Value ⊕ Nat} {xs : List Int32} {i : Int32} {s0 : Int32} (hT : HT H) (hL : LG L [(0, .ref 3000000), (1, .ref 0), (2, .ref 78), (3, .ref 578), (4, .int i)]) (h : Pn (some xs) m 373 926 L [.int s0] H r H') : ∃ L', LG L' [(0, .ref 3000000), (1, .ref 0), (2, .ref 78), (3, .ref 578), (4, .int i)] ∧ ∃ r2 H2, Pn none m 278 0 [(0, .ref 78)] [] H r2 H2 ∧ ((∃ cv, r2 = .inl cv ∧ Pn (some xs) m 373 931 L' (cv.toList ++ []) H2 r H') ∨ (∃ E, r2 = .inr E ∧ r = .inr E ∧ H' = H2)) := by
  obtain ⟨g0, g1, g2, g3, g4, -⟩ := hL
  have h : Pn (some xs) m 373 927 L [] H r H' := pnA h at_373_926 rfl rfl
  have h : Pn (some xs) m 373 928 L [.ref 78] H r H' := pnLrn g2 h at_373_927
  obtain ⟨r2, H2, q, h⟩ := pnC h at_373_928 kc_373_928.1 kc_373_928.2 (as := [.ref 78]) (rest := []) rfl
  have q : Pn none m 278 0 [(0, .ref 78)] [] H r2 H2 := q
  exact ⟨_, ⟨g0, g1, g2, g3, g4, trivial⟩, r2, H2, q, h⟩
theorem at_373_931 : mjAtI 373 931 = some (.pop, 1, 0, 0, 0) := by decide +kernel
theorem at_373_932 : mjAtI 373 932 = some (.goto 1175, 3, 0, 2107, 0) := by decide +kernel
theorem lc_20 {m : Nat} {L : mjL} {H H' : mjH} {r : Option Value ⊕ Nat} {xs : List Int32} {i : Int32} {s1 : Int32} (hT : HT H) (hL : LG L [(0, .ref 3000000), (1, .ref 0), (2, .ref 78), (3, .ref 578), (4, .int i)]) (h : Pn (some xs) m 373 931 L [.int s1] H r H') : ∃ L', LG L' [(0, .ref 3000000), (1, .ref 0), (2, .ref 78), (3, .ref 578), (4, .int (i + Int32.ofInt 6))] ∧ Pn (some xs) m 373 23 L' [] H r H' := by
  obtain ⟨g0, g1, g2, g3, g4, -⟩ := hL
  have h : Pn (some xs) m 373 932 L [] H r H' := pnA h at_373_931 rfl rfl
  have h : Pn (some xs) m 373 2107 L [] H r H' := pnA h at_373_932 rfl rfl
  have h : Pn (some xs) m 373 2110 (mjSt 4 (.int (i + Int32.ofInt 6)) L) [] H r H' := pnInc g4 h at_373_2107
  have g0 : mjGet (mjSt 4 (.int (i + Int32.ofInt 6)) L) 0 = some (.ref 3000000) := gt_ne g0 (by decide) rfl
  have g1 : mjGet (mjSt 4 (.int (i + Int32.ofInt 6)) L) 1 = some (.ref 0) := gt_ne g1 (by decide) rfl
  have g2 : mjGet (mjSt 4 (.int (i + Int32.ofInt 6)) L) 2 = some (.ref 78) := gt_ne g2 (by decide) rfl
  have g3 : mjGet (mjSt 4 (.int (i + Int32.ofInt 6)) L) 3 = some (.ref 578) := gt_ne g3 (by decide) rfl
  have g4 : mjGet (mjSt 4 (.int (i + Int32.ofInt 6)) L) 4 = some (.int (i + Int32.ofInt 6)) := gt_eq
  have h : Pn (some xs) m 373 23 (mjSt 4 (.int (i + Int32.ofInt 6)) L) [] H r H' := pnA h at_373_2110 rfl rfl
  exact ⟨_, ⟨g0, g1, g2, g3, g4, trivial⟩, h⟩
theorem at_373_935 : mjAtI 373 935 = some (.aload_n 1, 1, 0, 0, 0) := by decide +kernel
theorem at_373_936 : mjAtI 373 936 = some (.aload_n 0, 1, 0, 0, 0) := by decide +kernel
theorem at_373_937 : mjAtI 373 937 = some (.iload 4, 2, 0, 0, 0) := by decide +kernel
theorem at_373_939 : mjAtI 373 939 = some (.iconst 1, 1, 0, 0, 0) := by decide +kernel
theorem at_373_940 : mjAtI 373 940 = some (.iadd, 1, 0, 0, 0) := by decide +kernel
theorem at_373_941 : mjAtI 373 941 = some (.iaload, 1, 0, 0, 0) := by decide +kernel
theorem at_373_942 : mjAtI 373 942 = some (.aload_n 3, 1, 0, 0, 0) := by decide +kernel
theorem at_373_943 : mjAtI 373 943 = some (.invokestatic 236, 3, 344, 1, 1162) := by decide +kernel
theorem kc_373_943 : kCall (.invokestatic 236) 344 373 = true ∧ kArg 344 = 3 := by decide +kernel
theorem la_21 {m : Nat} {L : mjL} {H H' : mjH} {r : Option Value ⊕ Nat} {xs : List Int32} {i : Int32} (hT : HT H) (hL : LG L [(0, .ref 3000000), (1, .ref 0), (2, .ref 78), (3, .ref 578), (4, .int i)]) (h : Pn (some xs) m 373 935 L [] H r H') : ∃ y0, (¬ (i + (Int32.ofInt 1)) < 0 ∧ xs[(i + (Int32.ofInt 1)).toNatClampNeg]? = some y0) ∧ ∃ L', LG L' [(0, .ref 3000000), (1, .ref 0), (2, .ref 78), (3, .ref 578), (4, .int i)] ∧ ∃ r2 H2, Pn none m 344 0 [(0, .ref 0), (1, .int y0), (2, .ref 578)] [] H r2 H2 ∧ ((∃ cv, r2 = .inl cv ∧ Pn (some xs) m 373 946 L' (cv.toList ++ []) H2 r H') ∨ (∃ E, r2 = .inr E ∧ r = .inr E ∧ H' = H2)) := by
  obtain ⟨g0, g1, g2, g3, g4, -⟩ := hL
  have h : Pn (some xs) m 373 936 L [.ref 0] H r H' := pnLrn g1 h at_373_935
  have h : Pn (some xs) m 373 937 L [.ref 3000000, .ref 0] H r H' := pnLrn g0 h at_373_936
  have h : Pn (some xs) m 373 939 L [.int i, .ref 3000000, .ref 0] H r H' := pnLi g4 h at_373_937
  have h : Pn (some xs) m 373 940 L [.int (Int32.ofInt 1), .int i, .ref 3000000, .ref 0] H r H' := pnA h at_373_939 rfl rfl
  have h : Pn (some xs) m 373 941 L [.int (i + (Int32.ofInt 1)), .ref 3000000, .ref 0] H r H' := pnA h at_373_940 rfl rfl
  obtain ⟨y0, zy0, h⟩ := pnSa h at_373_941
  have h : Pn (some xs) m 373 942 L [.int y0, .ref 0] H r H' := h
  refine ⟨y0, zy0, ?_⟩
  have h : Pn (some xs) m 373 943 L [.ref 578, .int y0, .ref 0] H r H' := pnLrn g3 h at_373_942
  obtain ⟨r2, H2, q, h⟩ := pnC h at_373_943 kc_373_943.1 kc_373_943.2 (as := [.ref 0, .int y0, .ref 578]) (rest := []) rfl
  have q : Pn none m 344 0 [(0, .ref 0), (1, .int y0), (2, .ref 578)] [] H r2 H2 := q
  exact ⟨_, ⟨g0, g1, g2, g3, g4, trivial⟩, r2, H2, q, h⟩
theorem at_373_946 : mjAtI 373 946 = some (.istore 5, 2, 0, 0, 0) := by decide +kernel
theorem at_373_948 : mjAtI 373 948 = some (.aload_n 2, 1, 0, 0, 0) := by decide +kernel
theorem at_373_949 : mjAtI 373 949 = some (.aload_n 0, 1, 0, 0, 0) := by decide +kernel
theorem at_373_950 : mjAtI 373 950 = some (.iload 4, 2, 0, 0, 0) := by decide +kernel
theorem at_373_952 : mjAtI 373 952 = some (.iconst 1, 1, 0, 0, 0) := by decide +kernel
theorem at_373_953 : mjAtI 373 953 = some (.iadd, 1, 0, 0, 0) := by decide +kernel
theorem at_373_954 : mjAtI 373 954 = some (.iaload, 1, 0, 0, 0) := by decide +kernel
theorem at_373_955 : mjAtI 373 955 = some (.invokevirtual 238, 3, 286, 0, 2142) := by decide +kernel
theorem kc_373_955 : kCall (.invokevirtual 238) 286 373 = true ∧ kArg 286 = 2 := by decide +kernel
theorem lb_21 {m : Nat} {L : mjL} {H H' : mjH} {r : Option Value ⊕ Nat} {xs : List Int32} {i : Int32} {s0 : Int32} (hT : HT H) (hL : LG L [(0, .ref 3000000), (1, .ref 0), (2, .ref 78), (3, .ref 578), (4, .int i)]) (h : Pn (some xs) m 373 946 L [.int s0] H r H') : ∃ y0, (¬ (i + (Int32.ofInt 1)) < 0 ∧ xs[(i + (Int32.ofInt 1)).toNatClampNeg]? = some y0) ∧ ∃ L', LG L' [(0, .ref 3000000), (1, .ref 0), (2, .ref 78), (3, .ref 578), (4, .int i)] ∧ ∃ r2 H2, Pn none m 286 0 [(0, .ref 78), (1, .int y0)] [] H r2 H2 ∧ ((∃ cv, r2 = .inl cv ∧ Pn (some xs) m 373 958 L' (cv.toList ++ []) H2 r H') ∨ (∃ E, r2 = .inr E ∧ r = .inr E ∧ H' = H2)) := by
  obtain ⟨g0, g1, g2, g3, g4, -⟩ := hL
  have h : Pn (some xs) m 373 948 (mjSt 5 (.int s0) L) [] H r H' := pnA h at_373_946 rfl rfl
  have g0 : mjGet (mjSt 5 (.int s0) L) 0 = some (.ref 3000000) := gt_ne g0 (by decide) rfl
  have g1 : mjGet (mjSt 5 (.int s0) L) 1 = some (.ref 0) := gt_ne g1 (by decide) rfl
  have g2 : mjGet (mjSt 5 (.int s0) L) 2 = some (.ref 78) := gt_ne g2 (by decide) rfl
  have g3 : mjGet (mjSt 5 (.int s0) L) 3 = some (.ref 578) := gt_ne g3 (by decide) rfl
  have g4 : mjGet (mjSt 5 (.int s0) L) 4 = some (.int i) := gt_ne g4 (by decide) rfl
  have g5 : mjGet (mjSt 5 (.int s0) L) 5 = some (.int s0) := gt_eq
  have h : Pn (some xs) m 373 949 (mjSt 5 (.int s0) L) [.ref 78] H r H' := pnLrn g2 h at_373_948
  have h : Pn (some xs) m 373 950 (mjSt 5 (.int s0) L) [.ref 3000000, .ref 78] H r H' := pnLrn g0 h at_373_949
  have h : Pn (some xs) m 373 952 (mjSt 5 (.int s0) L) [.int i, .ref 3000000, .ref 78] H r H' := pnLi g4 h at_373_950
  have h : Pn (some xs) m 373 953 (mjSt 5 (.int s0) L) [.int (Int32.ofInt 1), .int i, .ref 3000000, .ref 78] H r H' := pnA h at_373_952 rfl rfl
  have h : Pn (some xs) m 373 954 (mjSt 5 (.int s0) L) [.int (i + (Int32.ofInt 1)), .ref 3000000, .ref 78] H r H' := pnA h at_373_953 rfl rfl
  obtain ⟨y0, zy0, h⟩ := pnSa h at_373_954
  have h : Pn (some xs) m 373 955 (mjSt 5 (.int s0) L) [.int y0, .ref 78] H r H' := h
  refine ⟨y0, zy0, ?_⟩
  obtain ⟨r2, H2, q, h⟩ := pnC h at_373_955 kc_373_955.1 kc_373_955.2 (as := [.ref 78, .int y0]) (rest := []) rfl
  have q : Pn none m 286 0 [(0, .ref 78), (1, .int y0)] [] H r2 H2 := q
  exact ⟨_, ⟨g0, g1, g2, g3, g4, trivial⟩, r2, H2, q, h⟩
theorem at_373_958 : mjAtI 373 958 = some (.istore 6, 2, 0, 0, 0) := by decide +kernel
theorem at_373_960 : mjAtI 373 960 = some (.goto 1147, 3, 0, 2107, 0) := by decide +kernel
theorem lc_21 {m : Nat} {L : mjL} {H H' : mjH} {r : Option Value ⊕ Nat} {xs : List Int32} {i : Int32} {s1 : Int32} (hT : HT H) (hL : LG L [(0, .ref 3000000), (1, .ref 0), (2, .ref 78), (3, .ref 578), (4, .int i)]) (h : Pn (some xs) m 373 958 L [.int s1] H r H') : ∃ L', LG L' [(0, .ref 3000000), (1, .ref 0), (2, .ref 78), (3, .ref 578), (4, .int (i + Int32.ofInt 6))] ∧ Pn (some xs) m 373 23 L' [] H r H' := by
  obtain ⟨g0, g1, g2, g3, g4, -⟩ := hL
  have h : Pn (some xs) m 373 960 (mjSt 6 (.int s1) L) [] H r H' := pnA h at_373_958 rfl rfl
  have g0 : mjGet (mjSt 6 (.int s1) L) 0 = some (.ref 3000000) := gt_ne g0 (by decide) rfl
  have g1 : mjGet (mjSt 6 (.int s1) L) 1 = some (.ref 0) := gt_ne g1 (by decide) rfl
  have g2 : mjGet (mjSt 6 (.int s1) L) 2 = some (.ref 78) := gt_ne g2 (by decide) rfl
  have g3 : mjGet (mjSt 6 (.int s1) L) 3 = some (.ref 578) := gt_ne g3 (by decide) rfl
  have g4 : mjGet (mjSt 6 (.int s1) L) 4 = some (.int i) := gt_ne g4 (by decide) rfl
  have g6 : mjGet (mjSt 6 (.int s1) L) 6 = some (.int s1) := gt_eq
  have h : Pn (some xs) m 373 2107 (mjSt 6 (.int s1) L) [] H r H' := pnA h at_373_960 rfl rfl
  have h : Pn (some xs) m 373 2110 (mjSt 4 (.int (i + Int32.ofInt 6)) (mjSt 6 (.int s1) L)) [] H r H' := pnInc g4 h at_373_2107
  have g0 : mjGet (mjSt 4 (.int (i + Int32.ofInt 6)) (mjSt 6 (.int s1) L)) 0 = some (.ref 3000000) := gt_ne g0 (by decide) rfl
  have g1 : mjGet (mjSt 4 (.int (i + Int32.ofInt 6)) (mjSt 6 (.int s1) L)) 1 = some (.ref 0) := gt_ne g1 (by decide) rfl
  have g2 : mjGet (mjSt 4 (.int (i + Int32.ofInt 6)) (mjSt 6 (.int s1) L)) 2 = some (.ref 78) := gt_ne g2 (by decide) rfl
  have g3 : mjGet (mjSt 4 (.int (i + Int32.ofInt 6)) (mjSt 6 (.int s1) L)) 3 = some (.ref 578) := gt_ne g3 (by decide) rfl
  have g6 : mjGet (mjSt 4 (.int (i + Int32.ofInt 6)) (mjSt 6 (.int s1) L)) 6 = some (.int s1) := gt_ne g6 (by decide) rfl
  have g4 : mjGet (mjSt 4 (.int (i + Int32.ofInt 6)) (mjSt 6 (.int s1) L)) 4 = some (.int (i + Int32.ofInt 6)) := gt_eq
  have h : Pn (some xs) m 373 23 (mjSt 4 (.int (i + Int32.ofInt 6)) (mjSt 6 (.int s1) L)) [] H r H' := pnA h at_373_2110 rfl rfl
  exact ⟨_, ⟨g0, g1, g2, g3, g4, trivial⟩, h⟩
theorem at_373_963 : mjAtI 373 963 = some (.aload_n 1, 1, 0, 0, 0) := by decide +kernel
theorem at_373_964 : mjAtI 373 964 = some (.aload_n 0, 1, 0, 0, 0) := by decide +kernel
theorem at_373_965 : mjAtI 373 965 = some (.iload 4, 2, 0, 0, 0) := by decide +kernel
theorem at_373_967 : mjAtI 373 967 = some (.iconst 1, 1, 0, 0, 0) := by decide +kernel
theorem at_373_968 : mjAtI 373 968 = some (.iadd, 1, 0, 0, 0) := by decide +kernel
theorem at_373_969 : mjAtI 373 969 = some (.iaload, 1, 0, 0, 0) := by decide +kernel
theorem at_373_970 : mjAtI 373 970 = some (.aload_n 3, 1, 0, 0, 0) := by decide +kernel
theorem at_373_971 : mjAtI 373 971 = some (.invokestatic 239, 3, 345, 1, 1234) := by decide +kernel
theorem kc_373_971 : kCall (.invokestatic 239) 345 373 = true ∧ kArg 345 = 3 := by decide +kernel
theorem la_22 {m : Nat} {L : mjL} {H H' : mjH} {r : Option Value ⊕ Nat} {xs : List Int32} {i : Int32} (hT : HT H) (hL : LG L [(0, .ref 3000000), (1, .ref 0), (2, .ref 78), (3, .ref 578), (4, .int i)]) (h : Pn (some xs) m 373 963 L [] H r H') : ∃ y0, (¬ (i + (Int32.ofInt 1)) < 0 ∧ xs[(i + (Int32.ofInt 1)).toNatClampNeg]? = some y0) ∧ ∃ L', LG L' [(0, .ref 3000000), (1, .ref 0), (2, .ref 78), (3, .ref 578), (4, .int i)] ∧ ∃ r2 H2, Pn none m 345 0 [(0, .ref 0), (1, .int y0), (2, .ref 578)] [] H r2 H2 ∧ ((∃ cv, r2 = .inl cv ∧ Pn (some xs) m 373 974 L' (cv.toList ++ []) H2 r H') ∨ (∃ E, r2 = .inr E ∧ r = .inr E ∧ H' = H2)) := by
  obtain ⟨g0, g1, g2, g3, g4, -⟩ := hL
  have h : Pn (some xs) m 373 964 L [.ref 0] H r H' := pnLrn g1 h at_373_963
  have h : Pn (some xs) m 373 965 L [.ref 3000000, .ref 0] H r H' := pnLrn g0 h at_373_964
  have h : Pn (some xs) m 373 967 L [.int i, .ref 3000000, .ref 0] H r H' := pnLi g4 h at_373_965
  have h : Pn (some xs) m 373 968 L [.int (Int32.ofInt 1), .int i, .ref 3000000, .ref 0] H r H' := pnA h at_373_967 rfl rfl
  have h : Pn (some xs) m 373 969 L [.int (i + (Int32.ofInt 1)), .ref 3000000, .ref 0] H r H' := pnA h at_373_968 rfl rfl
  obtain ⟨y0, zy0, h⟩ := pnSa h at_373_969
  have h : Pn (some xs) m 373 970 L [.int y0, .ref 0] H r H' := h
  refine ⟨y0, zy0, ?_⟩
  have h : Pn (some xs) m 373 971 L [.ref 578, .int y0, .ref 0] H r H' := pnLrn g3 h at_373_970
  obtain ⟨r2, H2, q, h⟩ := pnC h at_373_971 kc_373_971.1 kc_373_971.2 (as := [.ref 0, .int y0, .ref 578]) (rest := []) rfl
  have q : Pn none m 345 0 [(0, .ref 0), (1, .int y0), (2, .ref 578)] [] H r2 H2 := q
  exact ⟨_, ⟨g0, g1, g2, g3, g4, trivial⟩, r2, H2, q, h⟩
theorem at_373_974 : mjAtI 373 974 = some (.istore 5, 2, 0, 0, 0) := by decide +kernel
theorem at_373_976 : mjAtI 373 976 = some (.aload_n 2, 1, 0, 0, 0) := by decide +kernel
theorem at_373_977 : mjAtI 373 977 = some (.aload_n 0, 1, 0, 0, 0) := by decide +kernel
theorem at_373_978 : mjAtI 373 978 = some (.iload 4, 2, 0, 0, 0) := by decide +kernel
theorem at_373_980 : mjAtI 373 980 = some (.iconst 1, 1, 0, 0, 0) := by decide +kernel
theorem at_373_981 : mjAtI 373 981 = some (.iadd, 1, 0, 0, 0) := by decide +kernel
theorem at_373_982 : mjAtI 373 982 = some (.iaload, 1, 0, 0, 0) := by decide +kernel
theorem at_373_983 : mjAtI 373 983 = some (.invokevirtual 241, 3, 287, 0, 2154) := by decide +kernel
theorem kc_373_983 : kCall (.invokevirtual 241) 287 373 = true ∧ kArg 287 = 2 := by decide +kernel
theorem lb_22 {m : Nat} {L : mjL} {H H' : mjH} {r : Option Value ⊕ Nat} {xs : List Int32} {i : Int32} {s0 : Int32} (hT : HT H) (hL : LG L [(0, .ref 3000000), (1, .ref 0), (2, .ref 78), (3, .ref 578), (4, .int i)]) (h : Pn (some xs) m 373 974 L [.int s0] H r H') : ∃ y0, (¬ (i + (Int32.ofInt 1)) < 0 ∧ xs[(i + (Int32.ofInt 1)).toNatClampNeg]? = some y0) ∧ ∃ L', LG L' [(0, .ref 3000000), (1, .ref 0), (2, .ref 78), (3, .ref 578), (4, .int i)] ∧ ∃ r2 H2, Pn none m 287 0 [(0, .ref 78), (1, .int y0)] [] H r2 H2 ∧ ((∃ cv, r2 = .inl cv ∧ Pn (some xs) m 373 986 L' (cv.toList ++ []) H2 r H') ∨ (∃ E, r2 = .inr E ∧ r = .inr E ∧ H' = H2)) := by
  obtain ⟨g0, g1, g2, g3, g4, -⟩ := hL
  have h : Pn (some xs) m 373 976 (mjSt 5 (.int s0) L) [] H r H' := pnA h at_373_974 rfl rfl
  have g0 : mjGet (mjSt 5 (.int s0) L) 0 = some (.ref 3000000) := gt_ne g0 (by decide) rfl
  have g1 : mjGet (mjSt 5 (.int s0) L) 1 = some (.ref 0) := gt_ne g1 (by decide) rfl
  have g2 : mjGet (mjSt 5 (.int s0) L) 2 = some (.ref 78) := gt_ne g2 (by decide) rfl
  have g3 : mjGet (mjSt 5 (.int s0) L) 3 = some (.ref 578) := gt_ne g3 (by decide) rfl
  have g4 : mjGet (mjSt 5 (.int s0) L) 4 = some (.int i) := gt_ne g4 (by decide) rfl
  have g5 : mjGet (mjSt 5 (.int s0) L) 5 = some (.int s0) := gt_eq
  have h : Pn (some xs) m 373 977 (mjSt 5 (.int s0) L) [.ref 78] H r H' := pnLrn g2 h at_373_976
  have h : Pn (some xs) m 373 978 (mjSt 5 (.int s0) L) [.ref 3000000, .ref 78] H r H' := pnLrn g0 h at_373_977
  have h : Pn (some xs) m 373 980 (mjSt 5 (.int s0) L) [.int i, .ref 3000000, .ref 78] H r H' := pnLi g4 h at_373_978
  have h : Pn (some xs) m 373 981 (mjSt 5 (.int s0) L) [.int (Int32.ofInt 1), .int i, .ref 3000000, .ref 78] H r H' := pnA h at_373_980 rfl rfl
  have h : Pn (some xs) m 373 982 (mjSt 5 (.int s0) L) [.int (i + (Int32.ofInt 1)), .ref 3000000, .ref 78] H r H' := pnA h at_373_981 rfl rfl
  obtain ⟨y0, zy0, h⟩ := pnSa h at_373_982
  have h : Pn (some xs) m 373 983 (mjSt 5 (.int s0) L) [.int y0, .ref 78] H r H' := h
  refine ⟨y0, zy0, ?_⟩
  obtain ⟨r2, H2, q, h⟩ := pnC h at_373_983 kc_373_983.1 kc_373_983.2 (as := [.ref 78, .int y0]) (rest := []) rfl
  have q : Pn none m 287 0 [(0, .ref 78), (1, .int y0)] [] H r2 H2 := q
  exact ⟨_, ⟨g0, g1, g2, g3, g4, trivial⟩, r2, H2, q, h⟩
theorem at_373_986 : mjAtI 373 986 = some (.istore 6, 2, 0, 0, 0) := by decide +kernel
theorem at_373_988 : mjAtI 373 988 = some (.goto 1119, 3, 0, 2107, 0) := by decide +kernel
theorem lc_22 {m : Nat} {L : mjL} {H H' : mjH} {r : Option Value ⊕ Nat} {xs : List Int32} {i : Int32} {s1 : Int32} (hT : HT H) (hL : LG L [(0, .ref 3000000), (1, .ref 0), (2, .ref 78), (3, .ref 578), (4, .int i)]) (h : Pn (some xs) m 373 986 L [.int s1] H r H') : ∃ L', LG L' [(0, .ref 3000000), (1, .ref 0), (2, .ref 78), (3, .ref 578), (4, .int (i + Int32.ofInt 6))] ∧ Pn (some xs) m 373 23 L' [] H r H' := by
  obtain ⟨g0, g1, g2, g3, g4, -⟩ := hL
  have h : Pn (some xs) m 373 988 (mjSt 6 (.int s1) L) [] H r H' := pnA h at_373_986 rfl rfl
  have g0 : mjGet (mjSt 6 (.int s1) L) 0 = some (.ref 3000000) := gt_ne g0 (by decide) rfl
  have g1 : mjGet (mjSt 6 (.int s1) L) 1 = some (.ref 0) := gt_ne g1 (by decide) rfl
  have g2 : mjGet (mjSt 6 (.int s1) L) 2 = some (.ref 78) := gt_ne g2 (by decide) rfl
  have g3 : mjGet (mjSt 6 (.int s1) L) 3 = some (.ref 578) := gt_ne g3 (by decide) rfl
  have g4 : mjGet (mjSt 6 (.int s1) L) 4 = some (.int i) := gt_ne g4 (by decide) rfl
  have g6 : mjGet (mjSt 6 (.int s1) L) 6 = some (.int s1) := gt_eq
  have h : Pn (some xs) m 373 2107 (mjSt 6 (.int s1) L) [] H r H' := pnA h at_373_988 rfl rfl
  have h : Pn (some xs) m 373 2110 (mjSt 4 (.int (i + Int32.ofInt 6)) (mjSt 6 (.int s1) L)) [] H r H' := pnInc g4 h at_373_2107
  have g0 : mjGet (mjSt 4 (.int (i + Int32.ofInt 6)) (mjSt 6 (.int s1) L)) 0 = some (.ref 3000000) := gt_ne g0 (by decide) rfl
  have g1 : mjGet (mjSt 4 (.int (i + Int32.ofInt 6)) (mjSt 6 (.int s1) L)) 1 = some (.ref 0) := gt_ne g1 (by decide) rfl
  have g2 : mjGet (mjSt 4 (.int (i + Int32.ofInt 6)) (mjSt 6 (.int s1) L)) 2 = some (.ref 78) := gt_ne g2 (by decide) rfl
  have g3 : mjGet (mjSt 4 (.int (i + Int32.ofInt 6)) (mjSt 6 (.int s1) L)) 3 = some (.ref 578) := gt_ne g3 (by decide) rfl
  have g6 : mjGet (mjSt 4 (.int (i + Int32.ofInt 6)) (mjSt 6 (.int s1) L)) 6 = some (.int s1) := gt_ne g6 (by decide) rfl
  have g4 : mjGet (mjSt 4 (.int (i + Int32.ofInt 6)) (mjSt 6 (.int s1) L)) 4 = some (.int (i + Int32.ofInt 6)) := gt_eq
  have h : Pn (some xs) m 373 23 (mjSt 4 (.int (i + Int32.ofInt 6)) (mjSt 6 (.int s1) L)) [] H r H' := pnA h at_373_2110 rfl rfl
  exact ⟨_, ⟨g0, g1, g2, g3, g4, trivial⟩, h⟩
theorem at_373_991 : mjAtI 373 991 = some (.aload_n 1, 1, 0, 0, 0) := by decide +kernel
theorem at_373_992 : mjAtI 373 992 = some (.aload_n 3, 1, 0, 0, 0) := by decide +kernel
theorem at_373_993 : mjAtI 373 993 = some (.invokestatic 242, 3, 346, 1, 1246) := by decide +kernel
theorem kc_373_993 : kCall (.invokestatic 242) 346 373 = true ∧ kArg 346 = 2 := by decide +kernel
theorem la_23 {m : Nat} {L : mjL} {H H' : mjH} {r : Option Value ⊕ Nat} {xs : List Int32} {i : Int32} (hT : HT H) (hL : LG L [(0, .ref 3000000), (1, .ref 0), (2, .ref 78), (3, .ref 578), (4, .int i)]) (h : Pn (some xs) m 373 991 L [] H r H') : ∃ L', LG L' [(0, .ref 3000000), (1, .ref 0), (2, .ref 78), (3, .ref 578), (4, .int i)] ∧ ∃ r2 H2, Pn none m 346 0 [(0, .ref 0), (1, .ref 578)] [] H r2 H2 ∧ ((∃ cv, r2 = .inl cv ∧ Pn (some xs) m 373 996 L' (cv.toList ++ []) H2 r H') ∨ (∃ E, r2 = .inr E ∧ r = .inr E ∧ H' = H2)) := by
  obtain ⟨g0, g1, g2, g3, g4, -⟩ := hL
  have h : Pn (some xs) m 373 992 L [.ref 0] H r H' := pnLrn g1 h at_373_991
  have h : Pn (some xs) m 373 993 L [.ref 578, .ref 0] H r H' := pnLrn g3 h at_373_992
  obtain ⟨r2, H2, q, h⟩ := pnC h at_373_993 kc_373_993.1 kc_373_993.2 (as := [.ref 0, .ref 578]) (rest := []) rfl
  have q : Pn none m 346 0 [(0, .ref 0), (1, .ref 578)] [] H r2 H2 := q
  exact ⟨_, ⟨g0, g1, g2, g3, g4, trivial⟩, r2, H2, q, h⟩
theorem at_373_996 : mjAtI 373 996 = some (.istore 5, 2, 0, 0, 0) := by decide +kernel
theorem at_373_998 : mjAtI 373 998 = some (.aload_n 2, 1, 0, 0, 0) := by decide +kernel
theorem at_373_999 : mjAtI 373 999 = some (.invokevirtual 245, 3, 288, 0, 2158) := by decide +kernel
theorem kc_373_999 : kCall (.invokevirtual 245) 288 373 = true ∧ kArg 288 = 1 := by decide +kernel
theorem lb_23 {m : Nat} {L : mjL} {H H' : mjH} {r : Option Value ⊕ Nat} {xs : List Int32} {i : Int32} {s0 : Int32} (hT : HT H) (hL : LG L [(0, .ref 3000000), (1, .ref 0), (2, .ref 78), (3, .ref 578), (4, .int i)]) (h : Pn (some xs) m 373 996 L [.int s0] H r H') : ∃ L', LG L' [(0, .ref 3000000), (1, .ref 0), (2, .ref 78), (3, .ref 578), (4, .int i)] ∧ ∃ r2 H2, Pn none m 288 0 [(0, .ref 78)] [] H r2 H2 ∧ ((∃ cv, r2 = .inl cv ∧ Pn (some xs) m 373 1002 L' (cv.toList ++ []) H2 r H') ∨ (∃ E, r2 = .inr E ∧ r = .inr E ∧ H' = H2)) := by
  obtain ⟨g0, g1, g2, g3, g4, -⟩ := hL
  have h : Pn (some xs) m 373 998 (mjSt 5 (.int s0) L) [] H r H' := pnA h at_373_996 rfl rfl
  have g0 : mjGet (mjSt 5 (.int s0) L) 0 = some (.ref 3000000) := gt_ne g0 (by decide) rfl
  have g1 : mjGet (mjSt 5 (.int s0) L) 1 = some (.ref 0) := gt_ne g1 (by decide) rfl
  have g2 : mjGet (mjSt 5 (.int s0) L) 2 = some (.ref 78) := gt_ne g2 (by decide) rfl
  have g3 : mjGet (mjSt 5 (.int s0) L) 3 = some (.ref 578) := gt_ne g3 (by decide) rfl
  have g4 : mjGet (mjSt 5 (.int s0) L) 4 = some (.int i) := gt_ne g4 (by decide) rfl
  have g5 : mjGet (mjSt 5 (.int s0) L) 5 = some (.int s0) := gt_eq
  have h : Pn (some xs) m 373 999 (mjSt 5 (.int s0) L) [.ref 78] H r H' := pnLrn g2 h at_373_998
  obtain ⟨r2, H2, q, h⟩ := pnC h at_373_999 kc_373_999.1 kc_373_999.2 (as := [.ref 78]) (rest := []) rfl
  have q : Pn none m 288 0 [(0, .ref 78)] [] H r2 H2 := q
  exact ⟨_, ⟨g0, g1, g2, g3, g4, trivial⟩, r2, H2, q, h⟩
theorem at_373_1002 : mjAtI 373 1002 = some (.istore 6, 2, 0, 0, 0) := by decide +kernel
theorem at_373_1004 : mjAtI 373 1004 = some (.goto 1103, 3, 0, 2107, 0) := by decide +kernel
theorem lc_23 {m : Nat} {L : mjL} {H H' : mjH} {r : Option Value ⊕ Nat} {xs : List Int32} {i : Int32} {s1 : Int32} (hT : HT H) (hL : LG L [(0, .ref 3000000), (1, .ref 0), (2, .ref 78), (3, .ref 578), (4, .int i)]) (h : Pn (some xs) m 373 1002 L [.int s1] H r H') : ∃ L', LG L' [(0, .ref 3000000), (1, .ref 0), (2, .ref 78), (3, .ref 578), (4, .int (i + Int32.ofInt 6))] ∧ Pn (some xs) m 373 23 L' [] H r H' := by
  obtain ⟨g0, g1, g2, g3, g4, -⟩ := hL
  have h : Pn (some xs) m 373 1004 (mjSt 6 (.int s1) L) [] H r H' := pnA h at_373_1002 rfl rfl
  have g0 : mjGet (mjSt 6 (.int s1) L) 0 = some (.ref 3000000) := gt_ne g0 (by decide) rfl
  have g1 : mjGet (mjSt 6 (.int s1) L) 1 = some (.ref 0) := gt_ne g1 (by decide) rfl
  have g2 : mjGet (mjSt 6 (.int s1) L) 2 = some (.ref 78) := gt_ne g2 (by decide) rfl
  have g3 : mjGet (mjSt 6 (.int s1) L) 3 = some (.ref 578) := gt_ne g3 (by decide) rfl
  have g4 : mjGet (mjSt 6 (.int s1) L) 4 = some (.int i) := gt_ne g4 (by decide) rfl
  have g6 : mjGet (mjSt 6 (.int s1) L) 6 = some (.int s1) := gt_eq
  have h : Pn (some xs) m 373 2107 (mjSt 6 (.int s1) L) [] H r H' := pnA h at_373_1004 rfl rfl
  have h : Pn (some xs) m 373 2110 (mjSt 4 (.int (i + Int32.ofInt 6)) (mjSt 6 (.int s1) L)) [] H r H' := pnInc g4 h at_373_2107
  have g0 : mjGet (mjSt 4 (.int (i + Int32.ofInt 6)) (mjSt 6 (.int s1) L)) 0 = some (.ref 3000000) := gt_ne g0 (by decide) rfl
  have g1 : mjGet (mjSt 4 (.int (i + Int32.ofInt 6)) (mjSt 6 (.int s1) L)) 1 = some (.ref 0) := gt_ne g1 (by decide) rfl
  have g2 : mjGet (mjSt 4 (.int (i + Int32.ofInt 6)) (mjSt 6 (.int s1) L)) 2 = some (.ref 78) := gt_ne g2 (by decide) rfl
  have g3 : mjGet (mjSt 4 (.int (i + Int32.ofInt 6)) (mjSt 6 (.int s1) L)) 3 = some (.ref 578) := gt_ne g3 (by decide) rfl
  have g6 : mjGet (mjSt 4 (.int (i + Int32.ofInt 6)) (mjSt 6 (.int s1) L)) 6 = some (.int s1) := gt_ne g6 (by decide) rfl
  have g4 : mjGet (mjSt 4 (.int (i + Int32.ofInt 6)) (mjSt 6 (.int s1) L)) 4 = some (.int (i + Int32.ofInt 6)) := gt_eq
  have h : Pn (some xs) m 373 23 (mjSt 4 (.int (i + Int32.ofInt 6)) (mjSt 6 (.int s1) L)) [] H r H' := pnA h at_373_2110 rfl rfl
  exact ⟨_, ⟨g0, g1, g2, g3, g4, trivial⟩, h⟩
theorem at_373_1007 : mjAtI 373 1007 = some (.aload_n 1, 1, 0, 0, 0) := by decide +kernel
theorem at_373_1008 : mjAtI 373 1008 = some (.aload_n 0, 1, 0, 0, 0) := by decide +kernel
theorem at_373_1009 : mjAtI 373 1009 = some (.iload 4, 2, 0, 0, 0) := by decide +kernel
theorem at_373_1011 : mjAtI 373 1011 = some (.iconst 1, 1, 0, 0, 0) := by decide +kernel
theorem at_373_1012 : mjAtI 373 1012 = some (.iadd, 1, 0, 0, 0) := by decide +kernel
theorem at_373_1013 : mjAtI 373 1013 = some (.iaload, 1, 0, 0, 0) := by decide +kernel
theorem at_373_1014 : mjAtI 373 1014 = some (.aload_n 0, 1, 0, 0, 0) := by decide +kernel
theorem at_373_1015 : mjAtI 373 1015 = some (.iload 4, 2, 0, 0, 0) := by decide +kernel
theorem at_373_1017 : mjAtI 373 1017 = some (.iconst 2, 1, 0, 0, 0) := by decide +kernel
theorem at_373_1018 : mjAtI 373 1018 = some (.iadd, 1, 0, 0, 0) := by decide +kernel
theorem at_373_1019 : mjAtI 373 1019 = some (.iaload, 1, 0, 0, 0) := by decide +kernel
theorem at_373_1020 : mjAtI 373 1020 = some (.aload_n 3, 1, 0, 0, 0) := by decide +kernel
theorem at_373_1021 : mjAtI 373 1021 = some (.invokestatic 246, 3, 347, 1, 1261) := by decide +kernel
theorem kc_373_1021 : kCall (.invokestatic 246) 347 373 = true ∧ kArg 347 = 4 := by decide +kernel
theorem la_24 {m : Nat} {L : mjL} {H H' : mjH} {r : Option Value ⊕ Nat} {xs : List Int32} {i : Int32} (hT : HT H) (hL : LG L [(0, .ref 3000000), (1, .ref 0), (2, .ref 78), (3, .ref 578), (4, .int i)]) (h : Pn (some xs) m 373 1007 L [] H r H') : ∃ y0, (¬ (i + (Int32.ofInt 1)) < 0 ∧ xs[(i + (Int32.ofInt 1)).toNatClampNeg]? = some y0) ∧ ∃ y1, (¬ (i + (Int32.ofInt 2)) < 0 ∧ xs[(i + (Int32.ofInt 2)).toNatClampNeg]? = some y1) ∧ ∃ L', LG L' [(0, .ref 3000000), (1, .ref 0), (2, .ref 78), (3, .ref 578), (4, .int i)] ∧ ∃ r2 H2, Pn none m 347 0 [(0, .ref 0), (1, .int y0), (2, .int y1), (3, .ref 578)] [] H r2 H2 ∧ ((∃ cv, r2 = .inl cv ∧ Pn (some xs) m 373 1024 L' (cv.toList ++ []) H2 r H') ∨ (∃ E, r2 = .inr E ∧ r = .inr E ∧ H' = H2)) := by
  obtain ⟨g0, g1, g2, g3, g4, -⟩ := hL
  have h : Pn (some xs) m 373 1008 L [.ref 0] H r H' := pnLrn g1 h at_373_1007
  have h : Pn (some xs) m 373 1009 L [.ref 3000000, .ref 0] H r H' := pnLrn g0 h at_373_1008
  have h : Pn (some xs) m 373 1011 L [.int i, .ref 3000000, .ref 0] H r H' := pnLi g4 h at_373_1009
  have h : Pn (some xs) m 373 1012 L [.int (Int32.ofInt 1), .int i, .ref 3000000, .ref 0] H r H' := pnA h at_373_1011 rfl rfl
  have h : Pn (some xs) m 373 1013 L [.int (i + (Int32.ofInt 1)), .ref 3000000, .ref 0] H r H' := pnA h at_373_1012 rfl rfl
  obtain ⟨y0, zy0, h⟩ := pnSa h at_373_1013
  have h : Pn (some xs) m 373 1014 L [.int y0, .ref 0] H r H' := h
  refine ⟨y0, zy0, ?_⟩
  have h : Pn (some xs) m 373 1015 L [.ref 3000000, .int y0, .ref 0] H r H' := pnLrn g0 h at_373_1014
  have h : Pn (some xs) m 373 1017 L [.int i, .ref 3000000, .int y0, .ref 0] H r H' := pnLi g4 h at_373_1015
  have h : Pn (some xs) m 373 1018 L [.int (Int32.ofInt 2), .int i, .ref 3000000, .int y0, .ref 0] H r H' := pnA h at_373_1017 rfl rfl
  have h : Pn (some xs) m 373 1019 L [.int (i + (Int32.ofInt 2)), .ref 3000000, .int y0, .ref 0] H r H' := pnA h at_373_1018 rfl rfl
  obtain ⟨y1, zy1, h⟩ := pnSa h at_373_1019
  have h : Pn (some xs) m 373 1020 L [.int y1, .int y0, .ref 0] H r H' := h
  refine ⟨y1, zy1, ?_⟩
  have h : Pn (some xs) m 373 1021 L [.ref 578, .int y1, .int y0, .ref 0] H r H' := pnLrn g3 h at_373_1020
  obtain ⟨r2, H2, q, h⟩ := pnC h at_373_1021 kc_373_1021.1 kc_373_1021.2 (as := [.ref 0, .int y0, .int y1, .ref 578]) (rest := []) rfl
  have q : Pn none m 347 0 [(0, .ref 0), (1, .int y0), (2, .int y1), (3, .ref 578)] [] H r2 H2 := q
  exact ⟨_, ⟨g0, g1, g2, g3, g4, trivial⟩, r2, H2, q, h⟩
theorem at_373_1024 : mjAtI 373 1024 = some (.istore 5, 2, 0, 0, 0) := by decide +kernel
theorem at_373_1026 : mjAtI 373 1026 = some (.aload_n 2, 1, 0, 0, 0) := by decide +kernel
theorem at_373_1027 : mjAtI 373 1027 = some (.aload_n 0, 1, 0, 0, 0) := by decide +kernel
theorem at_373_1028 : mjAtI 373 1028 = some (.iload 4, 2, 0, 0, 0) := by decide +kernel
theorem at_373_1030 : mjAtI 373 1030 = some (.iconst 1, 1, 0, 0, 0) := by decide +kernel
theorem at_373_1031 : mjAtI 373 1031 = some (.iadd, 1, 0, 0, 0) := by decide +kernel
theorem at_373_1032 : mjAtI 373 1032 = some (.iaload, 1, 0, 0, 0) := by decide +kernel
theorem at_373_1033 : mjAtI 373 1033 = some (.aload_n 0, 1, 0, 0, 0) := by decide +kernel
theorem at_373_1034 : mjAtI 373 1034 = some (.iload 4, 2, 0, 0, 0) := by decide +kernel
theorem at_373_1036 : mjAtI 373 1036 = some (.iconst 2, 1, 0, 0, 0) := by decide +kernel
theorem at_373_1037 : mjAtI 373 1037 = some (.iadd, 1, 0, 0, 0) := by decide +kernel
theorem at_373_1038 : mjAtI 373 1038 = some (.iaload, 1, 0, 0, 0) := by decide +kernel
theorem at_373_1039 : mjAtI 373 1039 = some (.invokevirtual 248, 3, 296, 0, 2188) := by decide +kernel
theorem kc_373_1039 : kCall (.invokevirtual 248) 296 373 = true ∧ kArg 296 = 3 := by decide +kernel
theorem lb_24 {m : Nat} {L : mjL} {H H' : mjH} {r : Option Value ⊕ Nat} {xs : List Int32} {i : Int32} {s0 : Int32} (hT : HT H) (hL : LG L [(0, .ref 3000000), (1, .ref 0), (2, .ref 78), (3, .ref 578), (4, .int i)]) (h : Pn (some xs) m 373 1024 L [.int s0] H r H') : ∃ y0, (¬ (i + (Int32.ofInt 1)) < 0 ∧ xs[(i + (Int32.ofInt 1)).toNatClampNeg]? = some y0) ∧ ∃ y1, (¬ (i + (Int32.ofInt 2)) < 0 ∧ xs[(i + (Int32.ofInt 2)).toNatClampNeg]? = some y1) ∧ ∃ L', LG L' [(0, .ref 3000000), (1, .ref 0), (2, .ref 78), (3, .ref 578), (4, .int i)] ∧ ∃ r2 H2, Pn none m 296 0 [(0, .ref 78), (1, .int y0), (2, .int y1)] [] H r2 H2 ∧ ((∃ cv, r2 = .inl cv ∧ Pn (some xs) m 373 1042 L' (cv.toList ++ []) H2 r H') ∨ (∃ E, r2 = .inr E ∧ r = .inr E ∧ H' = H2)) := by
  obtain ⟨g0, g1, g2, g3, g4, -⟩ := hL
  have h : Pn (some xs) m 373 1026 (mjSt 5 (.int s0) L) [] H r H' := pnA h at_373_1024 rfl rfl
  have g0 : mjGet (mjSt 5 (.int s0) L) 0 = some (.ref 3000000) := gt_ne g0 (by decide) rfl
  have g1 : mjGet (mjSt 5 (.int s0) L) 1 = some (.ref 0) := gt_ne g1 (by decide) rfl
  have g2 : mjGet (mjSt 5 (.int s0) L) 2 = some (.ref 78) := gt_ne g2 (by decide) rfl
  have g3 : mjGet (mjSt 5 (.int s0) L) 3 = some (.ref 578) := gt_ne g3 (by decide) rfl
  have g4 : mjGet (mjSt 5 (.int s0) L) 4 = some (.int i) := gt_ne g4 (by decide) rfl
  have g5 : mjGet (mjSt 5 (.int s0) L) 5 = some (.int s0) := gt_eq
  have h : Pn (some xs) m 373 1027 (mjSt 5 (.int s0) L) [.ref 78] H r H' := pnLrn g2 h at_373_1026
  have h : Pn (some xs) m 373 1028 (mjSt 5 (.int s0) L) [.ref 3000000, .ref 78] H r H' := pnLrn g0 h at_373_1027
  have h : Pn (some xs) m 373 1030 (mjSt 5 (.int s0) L) [.int i, .ref 3000000, .ref 78] H r H' := pnLi g4 h at_373_1028
  have h : Pn (some xs) m 373 1031 (mjSt 5 (.int s0) L) [.int (Int32.ofInt 1), .int i, .ref 3000000, .ref 78] H r H' := pnA h at_373_1030 rfl rfl
  have h : Pn (some xs) m 373 1032 (mjSt 5 (.int s0) L) [.int (i + (Int32.ofInt 1)), .ref 3000000, .ref 78] H r H' := pnA h at_373_1031 rfl rfl
  obtain ⟨y0, zy0, h⟩ := pnSa h at_373_1032
  have h : Pn (some xs) m 373 1033 (mjSt 5 (.int s0) L) [.int y0, .ref 78] H r H' := h
  refine ⟨y0, zy0, ?_⟩
  have h : Pn (some xs) m 373 1034 (mjSt 5 (.int s0) L) [.ref 3000000, .int y0, .ref 78] H r H' := pnLrn g0 h at_373_1033
  have h : Pn (some xs) m 373 1036 (mjSt 5 (.int s0) L) [.int i, .ref 3000000, .int y0, .ref 78] H r H' := pnLi g4 h at_373_1034
  have h : Pn (some xs) m 373 1037 (mjSt 5 (.int s0) L) [.int (Int32.ofInt 2), .int i, .ref 3000000, .int y0, .ref 78] H r H' := pnA h at_373_1036 rfl rfl
  have h : Pn (some xs) m 373 1038 (mjSt 5 (.int s0) L) [.int (i + (Int32.ofInt 2)), .ref 3000000, .int y0, .ref 78] H r H' := pnA h at_373_1037 rfl rfl
  obtain ⟨y1, zy1, h⟩ := pnSa h at_373_1038
  have h : Pn (some xs) m 373 1039 (mjSt 5 (.int s0) L) [.int y1, .int y0, .ref 78] H r H' := h
  refine ⟨y1, zy1, ?_⟩
  obtain ⟨r2, H2, q, h⟩ := pnC h at_373_1039 kc_373_1039.1 kc_373_1039.2 (as := [.ref 78, .int y0, .int y1]) (rest := []) rfl
  have q : Pn none m 296 0 [(0, .ref 78), (1, .int y0), (2, .int y1)] [] H r2 H2 := q
  exact ⟨_, ⟨g0, g1, g2, g3, g4, trivial⟩, r2, H2, q, h⟩
theorem at_373_1042 : mjAtI 373 1042 = some (.istore 6, 2, 0, 0, 0) := by decide +kernel
theorem at_373_1044 : mjAtI 373 1044 = some (.goto 1063, 3, 0, 2107, 0) := by decide +kernel
theorem lc_24 {m : Nat} {L : mjL} {H H' : mjH} {r : Option Value ⊕ Nat} {xs : List Int32} {i : Int32} {s1 : Int32} (hT : HT H) (hL : LG L [(0, .ref 3000000), (1, .ref 0), (2, .ref 78), (3, .ref 578), (4, .int i)]) (h : Pn (some xs) m 373 1042 L [.int s1] H r H') : ∃ L', LG L' [(0, .ref 3000000), (1, .ref 0), (2, .ref 78), (3, .ref 578), (4, .int (i + Int32.ofInt 6))] ∧ Pn (some xs) m 373 23 L' [] H r H' := by
  obtain ⟨g0, g1, g2, g3, g4, -⟩ := hL
  have h : Pn (some xs) m 373 1044 (mjSt 6 (.int s1) L) [] H r H' := pnA h at_373_1042 rfl rfl
  have g0 : mjGet (mjSt 6 (.int s1) L) 0 = some (.ref 3000000) := gt_ne g0 (by decide) rfl
  have g1 : mjGet (mjSt 6 (.int s1) L) 1 = some (.ref 0) := gt_ne g1 (by decide) rfl
  have g2 : mjGet (mjSt 6 (.int s1) L) 2 = some (.ref 78) := gt_ne g2 (by decide) rfl
  have g3 : mjGet (mjSt 6 (.int s1) L) 3 = some (.ref 578) := gt_ne g3 (by decide) rfl
  have g4 : mjGet (mjSt 6 (.int s1) L) 4 = some (.int i) := gt_ne g4 (by decide) rfl
  have g6 : mjGet (mjSt 6 (.int s1) L) 6 = some (.int s1) := gt_eq
  have h : Pn (some xs) m 373 2107 (mjSt 6 (.int s1) L) [] H r H' := pnA h at_373_1044 rfl rfl
  have h : Pn (some xs) m 373 2110 (mjSt 4 (.int (i + Int32.ofInt 6)) (mjSt 6 (.int s1) L)) [] H r H' := pnInc g4 h at_373_2107
  have g0 : mjGet (mjSt 4 (.int (i + Int32.ofInt 6)) (mjSt 6 (.int s1) L)) 0 = some (.ref 3000000) := gt_ne g0 (by decide) rfl
  have g1 : mjGet (mjSt 4 (.int (i + Int32.ofInt 6)) (mjSt 6 (.int s1) L)) 1 = some (.ref 0) := gt_ne g1 (by decide) rfl
  have g2 : mjGet (mjSt 4 (.int (i + Int32.ofInt 6)) (mjSt 6 (.int s1) L)) 2 = some (.ref 78) := gt_ne g2 (by decide) rfl
  have g3 : mjGet (mjSt 4 (.int (i + Int32.ofInt 6)) (mjSt 6 (.int s1) L)) 3 = some (.ref 578) := gt_ne g3 (by decide) rfl
  have g6 : mjGet (mjSt 4 (.int (i + Int32.ofInt 6)) (mjSt 6 (.int s1) L)) 6 = some (.int s1) := gt_ne g6 (by decide) rfl
  have g4 : mjGet (mjSt 4 (.int (i + Int32.ofInt 6)) (mjSt 6 (.int s1) L)) 4 = some (.int (i + Int32.ofInt 6)) := gt_eq
  have h : Pn (some xs) m 373 23 (mjSt 4 (.int (i + Int32.ofInt 6)) (mjSt 6 (.int s1) L)) [] H r H' := pnA h at_373_2110 rfl rfl
  exact ⟨_, ⟨g0, g1, g2, g3, g4, trivial⟩, h⟩
theorem at_373_1047 : mjAtI 373 1047 = some (.aload_n 1, 1, 0, 0, 0) := by decide +kernel
theorem at_373_1048 : mjAtI 373 1048 = some (.aload_n 0, 1, 0, 0, 0) := by decide +kernel
theorem at_373_1049 : mjAtI 373 1049 = some (.iload 4, 2, 0, 0, 0) := by decide +kernel
theorem at_373_1051 : mjAtI 373 1051 = some (.iconst 1, 1, 0, 0, 0) := by decide +kernel
theorem at_373_1052 : mjAtI 373 1052 = some (.iadd, 1, 0, 0, 0) := by decide +kernel
theorem at_373_1053 : mjAtI 373 1053 = some (.iaload, 1, 0, 0, 0) := by decide +kernel
theorem at_373_1054 : mjAtI 373 1054 = some (.aload_n 0, 1, 0, 0, 0) := by decide +kernel
theorem at_373_1055 : mjAtI 373 1055 = some (.iload 4, 2, 0, 0, 0) := by decide +kernel
theorem at_373_1057 : mjAtI 373 1057 = some (.iconst 2, 1, 0, 0, 0) := by decide +kernel
theorem at_373_1058 : mjAtI 373 1058 = some (.iadd, 1, 0, 0, 0) := by decide +kernel
theorem at_373_1059 : mjAtI 373 1059 = some (.iaload, 1, 0, 0, 0) := by decide +kernel
theorem at_373_1060 : mjAtI 373 1060 = some (.aload_n 3, 1, 0, 0, 0) := by decide +kernel
theorem at_373_1061 : mjAtI 373 1061 = some (.invokestatic 249, 3, 348, 1, 1288) := by decide +kernel
theorem kc_373_1061 : kCall (.invokestatic 249) 348 373 = true ∧ kArg 348 = 4 := by decide +kernel
theorem la_25 {m : Nat} {L : mjL} {H H' : mjH} {r : Option Value ⊕ Nat} {xs : List Int32} {i : Int32} (hT : HT H) (hL : LG L [(0, .ref 3000000), (1, .ref 0), (2, .ref 78), (3, .ref 578), (4, .int i)]) (h : Pn (some xs) m 373 1047 L [] H r H') : ∃ y0, (¬ (i + (Int32.ofInt 1)) < 0 ∧ xs[(i + (Int32.ofInt 1)).toNatClampNeg]? = some y0) ∧ ∃ y1, (¬ (i + (Int32.ofInt 2)) < 0 ∧ xs[(i + (Int32.ofInt 2)).toNatClampNeg]? = some y1) ∧ ∃ L', LG L' [(0, .ref 3000000), (1, .ref 0), (2, .ref 78), (3, .ref 578), (4, .int i)] ∧ ∃ r2 H2, Pn none m 348 0 [(0, .ref 0), (1, .int y0), (2, .int y1), (3, .ref 578)] [] H r2 H2 ∧ ((∃ cv, r2 = .inl cv ∧ Pn (some xs) m 373 1064 L' (cv.toList ++ []) H2 r H') ∨ (∃ E, r2 = .inr E ∧ r = .inr E ∧ H' = H2)) := by
  obtain ⟨g0, g1, g2, g3, g4, -⟩ := hL
  have h : Pn (some xs) m 373 1048 L [.ref 0] H r H' := pnLrn g1 h at_373_1047
  have h : Pn (some xs) m 373 1049 L [.ref 3000000, .ref 0] H r H' := pnLrn g0 h at_373_1048
  have h : Pn (some xs) m 373 1051 L [.int i, .ref 3000000, .ref 0] H r H' := pnLi g4 h at_373_1049
  have h : Pn (some xs) m 373 1052 L [.int (Int32.ofInt 1), .int i, .ref 3000000, .ref 0] H r H' := pnA h at_373_1051 rfl rfl
  have h : Pn (some xs) m 373 1053 L [.int (i + (Int32.ofInt 1)), .ref 3000000, .ref 0] H r H' := pnA h at_373_1052 rfl rfl
  obtain ⟨y0, zy0, h⟩ := pnSa h at_373_1053
  have h : Pn (some xs) m 373 1054 L [.int y0, .ref 0] H r H' := h
  refine ⟨y0, zy0, ?_⟩
  have h : Pn (some xs) m 373 1055 L [.ref 3000000, .int y0, .ref 0] H r H' := pnLrn g0 h at_373_1054
  have h : Pn (some xs) m 373 1057 L [.int i, .ref 3000000, .int y0, .ref 0] H r H' := pnLi g4 h at_373_1055
  have h : Pn (some xs) m 373 1058 L [.int (Int32.ofInt 2), .int i, .ref 3000000, .int y0, .ref 0] H r H' := pnA h at_373_1057 rfl rfl
  have h : Pn (some xs) m 373 1059 L [.int (i + (Int32.ofInt 2)), .ref 3000000, .int y0, .ref 0] H r H' := pnA h at_373_1058 rfl rfl
  obtain ⟨y1, zy1, h⟩ := pnSa h at_373_1059
  have h : Pn (some xs) m 373 1060 L [.int y1, .int y0, .ref 0] H r H' := h
  refine ⟨y1, zy1, ?_⟩
  have h : Pn (some xs) m 373 1061 L [.ref 578, .int y1, .int y0, .ref 0] H r H' := pnLrn g3 h at_373_1060
  obtain ⟨r2, H2, q, h⟩ := pnC h at_373_1061 kc_373_1061.1 kc_373_1061.2 (as := [.ref 0, .int y0, .int y1, .ref 578]) (rest := []) rfl
  have q : Pn none m 348 0 [(0, .ref 0), (1, .int y0), (2, .int y1), (3, .ref 578)] [] H r2 H2 := q
  exact ⟨_, ⟨g0, g1, g2, g3, g4, trivial⟩, r2, H2, q, h⟩
theorem at_373_1064 : mjAtI 373 1064 = some (.istore 5, 2, 0, 0, 0) := by decide +kernel
theorem at_373_1066 : mjAtI 373 1066 = some (.aload_n 2, 1, 0, 0, 0) := by decide +kernel
theorem at_373_1067 : mjAtI 373 1067 = some (.aload_n 0, 1, 0, 0, 0) := by decide +kernel
theorem at_373_1068 : mjAtI 373 1068 = some (.iload 4, 2, 0, 0, 0) := by decide +kernel
theorem at_373_1070 : mjAtI 373 1070 = some (.iconst 1, 1, 0, 0, 0) := by decide +kernel
theorem at_373_1071 : mjAtI 373 1071 = some (.iadd, 1, 0, 0, 0) := by decide +kernel
theorem at_373_1072 : mjAtI 373 1072 = some (.iaload, 1, 0, 0, 0) := by decide +kernel
theorem at_373_1073 : mjAtI 373 1073 = some (.aload_n 0, 1, 0, 0, 0) := by decide +kernel
theorem at_373_1074 : mjAtI 373 1074 = some (.iload 4, 2, 0, 0, 0) := by decide +kernel
theorem at_373_1076 : mjAtI 373 1076 = some (.iconst 2, 1, 0, 0, 0) := by decide +kernel
theorem at_373_1077 : mjAtI 373 1077 = some (.iadd, 1, 0, 0, 0) := by decide +kernel
theorem at_373_1078 : mjAtI 373 1078 = some (.iaload, 1, 0, 0, 0) := by decide +kernel
theorem at_373_1079 : mjAtI 373 1079 = some (.invokevirtual 251, 3, 301, 0, 2212) := by decide +kernel
theorem kc_373_1079 : kCall (.invokevirtual 251) 301 373 = true ∧ kArg 301 = 3 := by decide +kernel
theorem lb_25 {m : Nat} {L : mjL} {H H' : mjH} {r : Option Value ⊕ Nat} {xs : List Int32} {i : Int32} {s0 : Int32} (hT : HT H) (hL : LG L [(0, .ref 3000000), (1, .ref 0), (2, .ref 78), (3, .ref 578), (4, .int i)]) (h : Pn (some xs) m 373 1064 L [.int s0] H r H') : ∃ y0, (¬ (i + (Int32.ofInt 1)) < 0 ∧ xs[(i + (Int32.ofInt 1)).toNatClampNeg]? = some y0) ∧ ∃ y1, (¬ (i + (Int32.ofInt 2)) < 0 ∧ xs[(i + (Int32.ofInt 2)).toNatClampNeg]? = some y1) ∧ ∃ L', LG L' [(0, .ref 3000000), (1, .ref 0), (2, .ref 78), (3, .ref 578), (4, .int i)] ∧ ∃ r2 H2, Pn none m 301 0 [(0, .ref 78), (1, .int y0), (2, .int y1)] [] H r2 H2 ∧ ((∃ cv, r2 = .inl cv ∧ Pn (some xs) m 373 1082 L' (cv.toList ++ []) H2 r H') ∨ (∃ E, r2 = .inr E ∧ r = .inr E ∧ H' = H2)) := by
  obtain ⟨g0, g1, g2, g3, g4, -⟩ := hL
  have h : Pn (some xs) m 373 1066 (mjSt 5 (.int s0) L) [] H r H' := pnA h at_373_1064 rfl rfl
  have g0 : mjGet (mjSt 5 (.int s0) L) 0 = some (.ref 3000000) := gt_ne g0 (by decide) rfl
  have g1 : mjGet (mjSt 5 (.int s0) L) 1 = some (.ref 0) := gt_ne g1 (by decide) rfl
  have g2 : mjGet (mjSt 5 (.int s0) L) 2 = some (.ref 78) := gt_ne g2 (by decide) rfl
  have g3 : mjGet (mjSt 5 (.int s0) L) 3 = some (.ref 578) := gt_ne g3 (by decide) rfl
  have g4 : mjGet (mjSt 5 (.int s0) L) 4 = some (.int i) := gt_ne g4 (by decide) rfl
  have g5 : mjGet (mjSt 5 (.int s0) L) 5 = some (.int s0) := gt_eq
  have h : Pn (some xs) m 373 1067 (mjSt 5 (.int s0) L) [.ref 78] H r H' := pnLrn g2 h at_373_1066
  have h : Pn (some xs) m 373 1068 (mjSt 5 (.int s0) L) [.ref 3000000, .ref 78] H r H' := pnLrn g0 h at_373_1067
  have h : Pn (some xs) m 373 1070 (mjSt 5 (.int s0) L) [.int i, .ref 3000000, .ref 78] H r H' := pnLi g4 h at_373_1068
  have h : Pn (some xs) m 373 1071 (mjSt 5 (.int s0) L) [.int (Int32.ofInt 1), .int i, .ref 3000000, .ref 78] H r H' := pnA h at_373_1070 rfl rfl
  have h : Pn (some xs) m 373 1072 (mjSt 5 (.int s0) L) [.int (i + (Int32.ofInt 1)), .ref 3000000, .ref 78] H r H' := pnA h at_373_1071 rfl rfl
  obtain ⟨y0, zy0, h⟩ := pnSa h at_373_1072
  have h : Pn (some xs) m 373 1073 (mjSt 5 (.int s0) L) [.int y0, .ref 78] H r H' := h
  refine ⟨y0, zy0, ?_⟩
  have h : Pn (some xs) m 373 1074 (mjSt 5 (.int s0) L) [.ref 3000000, .int y0, .ref 78] H r H' := pnLrn g0 h at_373_1073
  have h : Pn (some xs) m 373 1076 (mjSt 5 (.int s0) L) [.int i, .ref 3000000, .int y0, .ref 78] H r H' := pnLi g4 h at_373_1074
  have h : Pn (some xs) m 373 1077 (mjSt 5 (.int s0) L) [.int (Int32.ofInt 2), .int i, .ref 3000000, .int y0, .ref 78] H r H' := pnA h at_373_1076 rfl rfl
  have h : Pn (some xs) m 373 1078 (mjSt 5 (.int s0) L) [.int (i + (Int32.ofInt 2)), .ref 3000000, .int y0, .ref 78] H r H' := pnA h at_373_1077 rfl rfl
  obtain ⟨y1, zy1, h⟩ := pnSa h at_373_1078
  have h : Pn (some xs) m 373 1079 (mjSt 5 (.int s0) L) [.int y1, .int y0, .ref 78] H r H' := h
  refine ⟨y1, zy1, ?_⟩
  obtain ⟨r2, H2, q, h⟩ := pnC h at_373_1079 kc_373_1079.1 kc_373_1079.2 (as := [.ref 78, .int y0, .int y1]) (rest := []) rfl
  have q : Pn none m 301 0 [(0, .ref 78), (1, .int y0), (2, .int y1)] [] H r2 H2 := q
  exact ⟨_, ⟨g0, g1, g2, g3, g4, trivial⟩, r2, H2, q, h⟩
theorem at_373_1082 : mjAtI 373 1082 = some (.istore 6, 2, 0, 0, 0) := by decide +kernel
theorem at_373_1084 : mjAtI 373 1084 = some (.goto 1023, 3, 0, 2107, 0) := by decide +kernel
theorem lc_25 {m : Nat} {L : mjL} {H H' : mjH} {r : Option Value ⊕ Nat} {xs : List Int32} {i : Int32} {s1 : Int32} (hT : HT H) (hL : LG L [(0, .ref 3000000), (1, .ref 0), (2, .ref 78), (3, .ref 578), (4, .int i)]) (h : Pn (some xs) m 373 1082 L [.int s1] H r H') : ∃ L', LG L' [(0, .ref 3000000), (1, .ref 0), (2, .ref 78), (3, .ref 578), (4, .int (i + Int32.ofInt 6))] ∧ Pn (some xs) m 373 23 L' [] H r H' := by
  obtain ⟨g0, g1, g2, g3, g4, -⟩ := hL
  have h : Pn (some xs) m 373 1084 (mjSt 6 (.int s1) L) [] H r H' := pnA h at_373_1082 rfl rfl
  have g0 : mjGet (mjSt 6 (.int s1) L) 0 = some (.ref 3000000) := gt_ne g0 (by decide) rfl
  have g1 : mjGet (mjSt 6 (.int s1) L) 1 = some (.ref 0) := gt_ne g1 (by decide) rfl
  have g2 : mjGet (mjSt 6 (.int s1) L) 2 = some (.ref 78) := gt_ne g2 (by decide) rfl
  have g3 : mjGet (mjSt 6 (.int s1) L) 3 = some (.ref 578) := gt_ne g3 (by decide) rfl
  have g4 : mjGet (mjSt 6 (.int s1) L) 4 = some (.int i) := gt_ne g4 (by decide) rfl
  have g6 : mjGet (mjSt 6 (.int s1) L) 6 = some (.int s1) := gt_eq
  have h : Pn (some xs) m 373 2107 (mjSt 6 (.int s1) L) [] H r H' := pnA h at_373_1084 rfl rfl
  have h : Pn (some xs) m 373 2110 (mjSt 4 (.int (i + Int32.ofInt 6)) (mjSt 6 (.int s1) L)) [] H r H' := pnInc g4 h at_373_2107
  have g0 : mjGet (mjSt 4 (.int (i + Int32.ofInt 6)) (mjSt 6 (.int s1) L)) 0 = some (.ref 3000000) := gt_ne g0 (by decide) rfl
  have g1 : mjGet (mjSt 4 (.int (i + Int32.ofInt 6)) (mjSt 6 (.int s1) L)) 1 = some (.ref 0) := gt_ne g1 (by decide) rfl
  have g2 : mjGet (mjSt 4 (.int (i + Int32.ofInt 6)) (mjSt 6 (.int s1) L)) 2 = some (.ref 78) := gt_ne g2 (by decide) rfl
  have g3 : mjGet (mjSt 4 (.int (i + Int32.ofInt 6)) (mjSt 6 (.int s1) L)) 3 = some (.ref 578) := gt_ne g3 (by decide) rfl
  have g6 : mjGet (mjSt 4 (.int (i + Int32.ofInt 6)) (mjSt 6 (.int s1) L)) 6 = some (.int s1) := gt_ne g6 (by decide) rfl
  have g4 : mjGet (mjSt 4 (.int (i + Int32.ofInt 6)) (mjSt 6 (.int s1) L)) 4 = some (.int (i + Int32.ofInt 6)) := gt_eq
  have h : Pn (some xs) m 373 23 (mjSt 4 (.int (i + Int32.ofInt 6)) (mjSt 6 (.int s1) L)) [] H r H' := pnA h at_373_2110 rfl rfl
  exact ⟨_, ⟨g0, g1, g2, g3, g4, trivial⟩, h⟩
theorem at_373_1087 : mjAtI 373 1087 = some (.aload_n 1, 1, 0, 0, 0) := by decide +kernel
theorem at_373_1088 : mjAtI 373 1088 = some (.aload_n 0, 1, 0, 0, 0) := by decide +kernel
theorem at_373_1089 : mjAtI 373 1089 = some (.iload 4, 2, 0, 0, 0) := by decide +kernel
theorem at_373_1091 : mjAtI 373 1091 = some (.iconst 1, 1, 0, 0, 0) := by decide +kernel
theorem at_373_1092 : mjAtI 373 1092 = some (.iadd, 1, 0, 0, 0) := by decide +kernel
theorem at_373_1093 : mjAtI 373 1093 = some (.iaload, 1, 0, 0, 0) := by decide +kernel
theorem at_373_1094 : mjAtI 373 1094 = some (.aload_n 0, 1, 0, 0, 0) := by decide +kernel
theorem at_373_1095 : mjAtI 373 1095 = some (.iload 4, 2, 0, 0, 0) := by decide +kernel
theorem at_373_1097 : mjAtI 373 1097 = some (.iconst 2, 1, 0, 0, 0) := by decide +kernel
theorem at_373_1098 : mjAtI 373 1098 = some (.iadd, 1, 0, 0, 0) := by decide +kernel
theorem at_373_1099 : mjAtI 373 1099 = some (.iaload, 1, 0, 0, 0) := by decide +kernel
theorem at_373_1100 : mjAtI 373 1100 = some (.aload_n 3, 1, 0, 0, 0) := by decide +kernel
theorem at_373_1101 : mjAtI 373 1101 = some (.invokestatic 252, 3, 349, 1, 1321) := by decide +kernel
theorem kc_373_1101 : kCall (.invokestatic 252) 349 373 = true ∧ kArg 349 = 4 := by decide +kernel
theorem la_26 {m : Nat} {L : mjL} {H H' : mjH} {r : Option Value ⊕ Nat} {xs : List Int32} {i : Int32} (hT : HT H) (hL : LG L [(0, .ref 3000000), (1, .ref 0), (2, .ref 78), (3, .ref 578), (4, .int i)]) (h : Pn (some xs) m 373 1087 L [] H r H') : ∃ y0, (¬ (i + (Int32.ofInt 1)) < 0 ∧ xs[(i + (Int32.ofInt 1)).toNatClampNeg]? = some y0) ∧ ∃ y1, (¬ (i + (Int32.ofInt 2)) < 0 ∧ xs[(i + (Int32.ofInt 2)).toNatClampNeg]? = some y1) ∧ ∃ L', LG L' [(0, .ref 3000000), (1, .ref 0), (2, .ref 78), (3, .ref 578), (4, .int i)] ∧ ∃ r2 H2, Pn none m 349 0 [(0, .ref 0), (1, .int y0), (2, .int y1), (3, .ref 578)] [] H r2 H2 ∧ ((∃ cv, r2 = .inl cv ∧ Pn (some xs) m 373 1104 L' (cv.toList ++ []) H2 r H') ∨ (∃ E, r2 = .inr E ∧ r = .inr E ∧ H' = H2)) := by
  obtain ⟨g0, g1, g2, g3, g4, -⟩ := hL
  have h : Pn (some xs) m 373 1088 L [.ref 0] H r H' := pnLrn g1 h at_373_1087
  have h : Pn (some xs) m 373 1089 L [.ref 3000000, .ref 0] H r H' := pnLrn g0 h at_373_1088
  have h : Pn (some xs) m 373 1091 L [.int i, .ref 3000000, .ref 0] H r H' := pnLi g4 h at_373_1089
  have h : Pn (some xs) m 373 1092 L [.int (Int32.ofInt 1), .int i, .ref 3000000, .ref 0] H r H' := pnA h at_373_1091 rfl rfl
  have h : Pn (some xs) m 373 1093 L [.int (i + (Int32.ofInt 1)), .ref 3000000, .ref 0] H r H' := pnA h at_373_1092 rfl rfl
  obtain ⟨y0, zy0, h⟩ := pnSa h at_373_1093
  have h : Pn (some xs) m 373 1094 L [.int y0, .ref 0] H r H' := h
  refine ⟨y0, zy0, ?_⟩
  have h : Pn (some xs) m 373 1095 L [.ref 3000000, .int y0, .ref 0] H r H' := pnLrn g0 h at_373_1094
  have h : Pn (some xs) m 373 1097 L [.int i, .ref 3000000, .int y0, .ref 0] H r H' := pnLi g4 h at_373_1095
  have h : Pn (some xs) m 373 1098 L [.int (Int32.ofInt 2), .int i, .ref 3000000, .int y0, .ref 0] H r H' := pnA h at_373_1097 rfl rfl
  have h : Pn (some xs) m 373 1099 L [.int (i + (Int32.ofInt 2)), .ref 3000000, .int y0, .ref 0] H r H' := pnA h at_373_1098 rfl rfl
  obtain ⟨y1, zy1, h⟩ := pnSa h at_373_1099
  have h : Pn (some xs) m 373 1100 L [.int y1, .int y0, .ref 0] H r H' := h
  refine ⟨y1, zy1, ?_⟩
  have h : Pn (some xs) m 373 1101 L [.ref 578, .int y1, .int y0, .ref 0] H r H' := pnLrn g3 h at_373_1100
  obtain ⟨r2, H2, q, h⟩ := pnC h at_373_1101 kc_373_1101.1 kc_373_1101.2 (as := [.ref 0, .int y0, .int y1, .ref 578]) (rest := []) rfl
  have q : Pn none m 349 0 [(0, .ref 0), (1, .int y0), (2, .int y1), (3, .ref 578)] [] H r2 H2 := q
  exact ⟨_, ⟨g0, g1, g2, g3, g4, trivial⟩, r2, H2, q, h⟩
theorem at_373_1104 : mjAtI 373 1104 = some (.istore 5, 2, 0, 0, 0) := by decide +kernel
theorem at_373_1106 : mjAtI 373 1106 = some (.aload_n 2, 1, 0, 0, 0) := by decide +kernel
theorem at_373_1107 : mjAtI 373 1107 = some (.aload_n 0, 1, 0, 0, 0) := by decide +kernel
theorem at_373_1108 : mjAtI 373 1108 = some (.iload 4, 2, 0, 0, 0) := by decide +kernel
theorem at_373_1110 : mjAtI 373 1110 = some (.iconst 1, 1, 0, 0, 0) := by decide +kernel
theorem at_373_1111 : mjAtI 373 1111 = some (.iadd, 1, 0, 0, 0) := by decide +kernel
theorem at_373_1112 : mjAtI 373 1112 = some (.iaload, 1, 0, 0, 0) := by decide +kernel
theorem at_373_1113 : mjAtI 373 1113 = some (.aload_n 0, 1, 0, 0, 0) := by decide +kernel
theorem at_373_1114 : mjAtI 373 1114 = some (.iload 4, 2, 0, 0, 0) := by decide +kernel
theorem at_373_1116 : mjAtI 373 1116 = some (.iconst 2, 1, 0, 0, 0) := by decide +kernel
theorem at_373_1117 : mjAtI 373 1117 = some (.iadd, 1, 0, 0, 0) := by decide +kernel
theorem at_373_1118 : mjAtI 373 1118 = some (.iaload, 1, 0, 0, 0) := by decide +kernel
theorem at_373_1119 : mjAtI 373 1119 = some (.invokevirtual 254, 3, 302, 0, 2220) := by decide +kernel
theorem kc_373_1119 : kCall (.invokevirtual 254) 302 373 = true ∧ kArg 302 = 3 := by decide +kernel
theorem lb_26 {m : Nat} {L : mjL} {H H' : mjH} {r : Option Value ⊕ Nat} {xs : List Int32} {i : Int32} {s0 : Int32} (hT : HT H) (hL : LG L [(0, .ref 3000000), (1, .ref 0), (2, .ref 78), (3, .ref 578), (4, .int i)]) (h : Pn (some xs) m 373 1104 L [.int s0] H r H') : ∃ y0, (¬ (i + (Int32.ofInt 1)) < 0 ∧ xs[(i + (Int32.ofInt 1)).toNatClampNeg]? = some y0) ∧ ∃ y1, (¬ (i + (Int32.ofInt 2)) < 0 ∧ xs[(i + (Int32.ofInt 2)).toNatClampNeg]? = some y1) ∧ ∃ L', LG L' [(0, .ref 3000000), (1, .ref 0), (2, .ref 78), (3, .ref 578), (4, .int i)] ∧ ∃ r2 H2, Pn none m 302 0 [(0, .ref 78), (1, .int y0), (2, .int y1)] [] H r2 H2 ∧ ((∃ cv, r2 = .inl cv ∧ Pn (some xs) m 373 1122 L' (cv.toList ++ []) H2 r H') ∨ (∃ E, r2 = .inr E ∧ r = .inr E ∧ H' = H2)) := by
  obtain ⟨g0, g1, g2, g3, g4, -⟩ := hL
  have h : Pn (some xs) m 373 1106 (mjSt 5 (.int s0) L) [] H r H' := pnA h at_373_1104 rfl rfl
  have g0 : mjGet (mjSt 5 (.int s0) L) 0 = some (.ref 3000000) := gt_ne g0 (by decide) rfl
  have g1 : mjGet (mjSt 5 (.int s0) L) 1 = some (.ref 0) := gt_ne g1 (by decide) rfl
  have g2 : mjGet (mjSt 5 (.int s0) L) 2 = some (.ref 78) := gt_ne g2 (by decide) rfl
  have g3 : mjGet (mjSt 5 (.int s0) L) 3 = some (.ref 578) := gt_ne g3 (by decide) rfl
  have g4 : mjGet (mjSt 5 (.int s0) L) 4 = some (.int i) := gt_ne g4 (by decide) rfl
  have g5 : mjGet (mjSt 5 (.int s0) L) 5 = some (.int s0) := gt_eq
  have h : Pn (some xs) m 373 1107 (mjSt 5 (.int s0) L) [.ref 78] H r H' := pnLrn g2 h at_373_1106
  have h : Pn (some xs) m 373 1108 (mjSt 5 (.int s0) L) [.ref 3000000, .ref 78] H r H' := pnLrn g0 h at_373_1107
  have h : Pn (some xs) m 373 1110 (mjSt 5 (.int s0) L) [.int i, .ref 3000000, .ref 78] H r H' := pnLi g4 h at_373_1108
  have h : Pn (some xs) m 373 1111 (mjSt 5 (.int s0) L) [.int (Int32.ofInt 1), .int i, .ref 3000000, .ref 78] H r H' := pnA h at_373_1110 rfl rfl
  have h : Pn (some xs) m 373 1112 (mjSt 5 (.int s0) L) [.int (i + (Int32.ofInt 1)), .ref 3000000, .ref 78] H r H' := pnA h at_373_1111 rfl rfl
  obtain ⟨y0, zy0, h⟩ := pnSa h at_373_1112
  have h : Pn (some xs) m 373 1113 (mjSt 5 (.int s0) L) [.int y0, .ref 78] H r H' := h
  refine ⟨y0, zy0, ?_⟩
  have h : Pn (some xs) m 373 1114 (mjSt 5 (.int s0) L) [.ref 3000000, .int y0, .ref 78] H r H' := pnLrn g0 h at_373_1113
  have h : Pn (some xs) m 373 1116 (mjSt 5 (.int s0) L) [.int i, .ref 3000000, .int y0, .ref 78] H r H' := pnLi g4 h at_373_1114
  have h : Pn (some xs) m 373 1117 (mjSt 5 (.int s0) L) [.int (Int32.ofInt 2), .int i, .ref 3000000, .int y0, .ref 78] H r H' := pnA h at_373_1116 rfl rfl
  have h : Pn (some xs) m 373 1118 (mjSt 5 (.int s0) L) [.int (i + (Int32.ofInt 2)), .ref 3000000, .int y0, .ref 78] H r H' := pnA h at_373_1117 rfl rfl
  obtain ⟨y1, zy1, h⟩ := pnSa h at_373_1118
  have h : Pn (some xs) m 373 1119 (mjSt 5 (.int s0) L) [.int y1, .int y0, .ref 78] H r H' := h
  refine ⟨y1, zy1, ?_⟩
  obtain ⟨r2, H2, q, h⟩ := pnC h at_373_1119 kc_373_1119.1 kc_373_1119.2 (as := [.ref 78, .int y0, .int y1]) (rest := []) rfl
  have q : Pn none m 302 0 [(0, .ref 78), (1, .int y0), (2, .int y1)] [] H r2 H2 := q
  exact ⟨_, ⟨g0, g1, g2, g3, g4, trivial⟩, r2, H2, q, h⟩
theorem at_373_1122 : mjAtI 373 1122 = some (.istore 6, 2, 0, 0, 0) := by decide +kernel
theorem at_373_1124 : mjAtI 373 1124 = some (.goto 983, 3, 0, 2107, 0) := by decide +kernel
theorem lc_26 {m : Nat} {L : mjL} {H H' : mjH} {r : Option Value ⊕ Nat} {xs : List Int32} {i : Int32} {s1 : Int32} (hT : HT H) (hL : LG L [(0, .ref 3000000), (1, .ref 0), (2, .ref 78), (3, .ref 578), (4, .int i)]) (h : Pn (some xs) m 373 1122 L [.int s1] H r H') : ∃ L', LG L' [(0, .ref 3000000), (1, .ref 0), (2, .ref 78), (3, .ref 578), (4, .int (i + Int32.ofInt 6))] ∧ Pn (some xs) m 373 23 L' [] H r H' := by
  obtain ⟨g0, g1, g2, g3, g4, -⟩ := hL
  have h : Pn (some xs) m 373 1124 (mjSt 6 (.int s1) L) [] H r H' := pnA h at_373_1122 rfl rfl
  have g0 : mjGet (mjSt 6 (.int s1) L) 0 = some (.ref 3000000) := gt_ne g0 (by decide) rfl
  have g1 : mjGet (mjSt 6 (.int s1) L) 1 = some (.ref 0) := gt_ne g1 (by decide) rfl
  have g2 : mjGet (mjSt 6 (.int s1) L) 2 = some (.ref 78) := gt_ne g2 (by decide) rfl
  have g3 : mjGet (mjSt 6 (.int s1) L) 3 = some (.ref 578) := gt_ne g3 (by decide) rfl
  have g4 : mjGet (mjSt 6 (.int s1) L) 4 = some (.int i) := gt_ne g4 (by decide) rfl
  have g6 : mjGet (mjSt 6 (.int s1) L) 6 = some (.int s1) := gt_eq
  have h : Pn (some xs) m 373 2107 (mjSt 6 (.int s1) L) [] H r H' := pnA h at_373_1124 rfl rfl
  have h : Pn (some xs) m 373 2110 (mjSt 4 (.int (i + Int32.ofInt 6)) (mjSt 6 (.int s1) L)) [] H r H' := pnInc g4 h at_373_2107
  have g0 : mjGet (mjSt 4 (.int (i + Int32.ofInt 6)) (mjSt 6 (.int s1) L)) 0 = some (.ref 3000000) := gt_ne g0 (by decide) rfl
  have g1 : mjGet (mjSt 4 (.int (i + Int32.ofInt 6)) (mjSt 6 (.int s1) L)) 1 = some (.ref 0) := gt_ne g1 (by decide) rfl
  have g2 : mjGet (mjSt 4 (.int (i + Int32.ofInt 6)) (mjSt 6 (.int s1) L)) 2 = some (.ref 78) := gt_ne g2 (by decide) rfl
  have g3 : mjGet (mjSt 4 (.int (i + Int32.ofInt 6)) (mjSt 6 (.int s1) L)) 3 = some (.ref 578) := gt_ne g3 (by decide) rfl
  have g6 : mjGet (mjSt 4 (.int (i + Int32.ofInt 6)) (mjSt 6 (.int s1) L)) 6 = some (.int s1) := gt_ne g6 (by decide) rfl
  have g4 : mjGet (mjSt 4 (.int (i + Int32.ofInt 6)) (mjSt 6 (.int s1) L)) 4 = some (.int (i + Int32.ofInt 6)) := gt_eq
  have h : Pn (some xs) m 373 23 (mjSt 4 (.int (i + Int32.ofInt 6)) (mjSt 6 (.int s1) L)) [] H r H' := pnA h at_373_2110 rfl rfl
  exact ⟨_, ⟨g0, g1, g2, g3, g4, trivial⟩, h⟩
theorem at_373_1127 : mjAtI 373 1127 = some (.aload_n 1, 1, 0, 0, 0) := by decide +kernel
theorem at_373_1128 : mjAtI 373 1128 = some (.aload_n 0, 1, 0, 0, 0) := by decide +kernel
theorem at_373_1129 : mjAtI 373 1129 = some (.iload 4, 2, 0, 0, 0) := by decide +kernel
theorem at_373_1131 : mjAtI 373 1131 = some (.iconst 1, 1, 0, 0, 0) := by decide +kernel
theorem at_373_1132 : mjAtI 373 1132 = some (.iadd, 1, 0, 0, 0) := by decide +kernel
theorem at_373_1133 : mjAtI 373 1133 = some (.iaload, 1, 0, 0, 0) := by decide +kernel
theorem at_373_1134 : mjAtI 373 1134 = some (.aload_n 3, 1, 0, 0, 0) := by decide +kernel
theorem at_373_1135 : mjAtI 373 1135 = some (.invokestatic 255, 3, 350, 1, 1332) := by decide +kernel
theorem kc_373_1135 : kCall (.invokestatic 255) 350 373 = true ∧ kArg 350 = 3 := by decide +kernel
theorem la_27 {m : Nat} {L : mjL} {H H' : mjH} {r : Option Value ⊕ Nat} {xs : List Int32} {i : Int32} (hT : HT H) (hL : LG L [(0, .ref 3000000), (1, .ref 0), (2, .ref 78), (3, .ref 578), (4, .int i)]) (h : Pn (some xs) m 373 1127 L [] H r H') : ∃ y0, (¬ (i + (Int32.ofInt 1)) < 0 ∧ xs[(i + (Int32.ofInt 1)).toNatClampNeg]? = some y0) ∧ ∃ L', LG L' [(0, .ref 3000000), (1, .ref 0), (2, .ref 78), (3, .ref 578), (4, .int i)] ∧ ∃ r2 H2, Pn none m 350 0 [(0, .ref 0), (1, .int y0), (2, .ref 578)] [] H r2 H2 ∧ ((∃ cv, r2 = .inl cv ∧ Pn (some xs) m 373 1138 L' (cv.toList ++ []) H2 r H') ∨ (∃ E, r2 = .inr E ∧ r = .inr E ∧ H' = H2)) := by
  obtain ⟨g0, g1, g2, g3, g4, -⟩ := hL
  have h : Pn (some xs) m 373 1128 L [.ref 0] H r H' := pnLrn g1 h at_373_1127
  have h : Pn (some xs) m 373 1129 L [.ref 3000000, .ref 0] H r H' := pnLrn g0 h at_373_1128
  have h : Pn (some xs) m 373 1131 L [.int i, .ref 3000000, .ref 0] H r H' := pnLi g4 h at_373_1129
  have h : Pn (some xs) m 373 1132 L [.int (Int32.ofInt 1), .int i, .ref 3000000, .ref 0] H r H' := pnA h at_373_1131 rfl rfl
  have h : Pn (some xs) m 373 1133 L [.int (i + (Int32.ofInt 1)), .ref 3000000, .ref 0] H r H' := pnA h at_373_1132 rfl rfl
  obtain ⟨y0, zy0, h⟩ := pnSa h at_373_1133
  have h : Pn (some xs) m 373 1134 L [.int y0, .ref 0] H r H' := h
  refine ⟨y0, zy0, ?_⟩
  have h : Pn (some xs) m 373 1135 L [.ref 578, .int y0, .ref 0] H r H' := pnLrn g3 h at_373_1134
  obtain ⟨r2, H2, q, h⟩ := pnC h at_373_1135 kc_373_1135.1 kc_373_1135.2 (as := [.ref 0, .int y0, .ref 578]) (rest := []) rfl
  have q : Pn none m 350 0 [(0, .ref 0), (1, .int y0), (2, .ref 578)] [] H r2 H2 := q
  exact ⟨_, ⟨g0, g1, g2, g3, g4, trivial⟩, r2, H2, q, h⟩
theorem at_373_1138 : mjAtI 373 1138 = some (.istore 5, 2, 0, 0, 0) := by decide +kernel
theorem at_373_1140 : mjAtI 373 1140 = some (.aload_n 2, 1, 0, 0, 0) := by decide +kernel
theorem at_373_1141 : mjAtI 373 1141 = some (.aload_n 0, 1, 0, 0, 0) := by decide +kernel
theorem at_373_1142 : mjAtI 373 1142 = some (.iload 4, 2, 0, 0, 0) := by decide +kernel
theorem at_373_1144 : mjAtI 373 1144 = some (.iconst 1, 1, 0, 0, 0) := by decide +kernel
theorem at_373_1145 : mjAtI 373 1145 = some (.iadd, 1, 0, 0, 0) := by decide +kernel
theorem at_373_1146 : mjAtI 373 1146 = some (.iaload, 1, 0, 0, 0) := by decide +kernel
theorem at_373_1147 : mjAtI 373 1147 = some (.invokevirtual 257, 3, 303, 0, 2224) := by decide +kernel
theorem kc_373_1147 : kCall (.invokevirtual 257) 303 373 = true ∧ kArg 303 = 2 := by decide +kernel
theorem lb_27 {m : Nat} {L : mjL} {H H' : mjH} {r : Option Value ⊕ Nat} {xs : List Int32} {i : Int32} {s0 : Int32} (hT : HT H) (hL : LG L [(0, .ref 3000000), (1, .ref 0), (2, .ref 78), (3, .ref 578), (4, .int i)]) (h : Pn (some xs) m 373 1138 L [.int s0] H r H') : ∃ y0, (¬ (i + (Int32.ofInt 1)) < 0 ∧ xs[(i + (Int32.ofInt 1)).toNatClampNeg]? = some y0) ∧ ∃ L', LG L' [(0, .ref 3000000), (1, .ref 0), (2, .ref 78), (3, .ref 578), (4, .int i)] ∧ ∃ r2 H2, Pn none m 303 0 [(0, .ref 78), (1, .int y0)] [] H r2 H2 ∧ ((∃ cv, r2 = .inl cv ∧ Pn (some xs) m 373 1150 L' (cv.toList ++ []) H2 r H') ∨ (∃ E, r2 = .inr E ∧ r = .inr E ∧ H' = H2)) := by
  obtain ⟨g0, g1, g2, g3, g4, -⟩ := hL
  have h : Pn (some xs) m 373 1140 (mjSt 5 (.int s0) L) [] H r H' := pnA h at_373_1138 rfl rfl
  have g0 : mjGet (mjSt 5 (.int s0) L) 0 = some (.ref 3000000) := gt_ne g0 (by decide) rfl
  have g1 : mjGet (mjSt 5 (.int s0) L) 1 = some (.ref 0) := gt_ne g1 (by decide) rfl
  have g2 : mjGet (mjSt 5 (.int s0) L) 2 = some (.ref 78) := gt_ne g2 (by decide) rfl
  have g3 : mjGet (mjSt 5 (.int s0) L) 3 = some (.ref 578) := gt_ne g3 (by decide) rfl
  have g4 : mjGet (mjSt 5 (.int s0) L) 4 = some (.int i) := gt_ne g4 (by decide) rfl
  have g5 : mjGet (mjSt 5 (.int s0) L) 5 = some (.int s0) := gt_eq
  have h : Pn (some xs) m 373 1141 (mjSt 5 (.int s0) L) [.ref 78] H r H' := pnLrn g2 h at_373_1140
  have h : Pn (some xs) m 373 1142 (mjSt 5 (.int s0) L) [.ref 3000000, .ref 78] H r H' := pnLrn g0 h at_373_1141
  have h : Pn (some xs) m 373 1144 (mjSt 5 (.int s0) L) [.int i, .ref 3000000, .ref 78] H r H' := pnLi g4 h at_373_1142
  have h : Pn (some xs) m 373 1145 (mjSt 5 (.int s0) L) [.int (Int32.ofInt 1), .int i, .ref 3000000, .ref 78] H r H' := pnA h at_373_1144 rfl rfl
  have h : Pn (some xs) m 373 1146 (mjSt 5 (.int s0) L) [.int (i + (Int32.ofInt 1)), .ref 3000000, .ref 78] H r H' := pnA h at_373_1145 rfl rfl
  obtain ⟨y0, zy0, h⟩ := pnSa h at_373_1146
  have h : Pn (some xs) m 373 1147 (mjSt 5 (.int s0) L) [.int y0, .ref 78] H r H' := h
  refine ⟨y0, zy0, ?_⟩
  obtain ⟨r2, H2, q, h⟩ := pnC h at_373_1147 kc_373_1147.1 kc_373_1147.2 (as := [.ref 78, .int y0]) (rest := []) rfl
  have q : Pn none m 303 0 [(0, .ref 78), (1, .int y0)] [] H r2 H2 := q
  exact ⟨_, ⟨g0, g1, g2, g3, g4, trivial⟩, r2, H2, q, h⟩
theorem at_373_1150 : mjAtI 373 1150 = some (.istore 6, 2, 0, 0, 0) := by decide +kernel
theorem at_373_1152 : mjAtI 373 1152 = some (.goto 955, 3, 0, 2107, 0) := by decide +kernel
theorem lc_27 {m : Nat} {L : mjL} {H H' : mjH} {r : Option Value ⊕ Nat} {xs : List Int32} {i : Int32} {s1 : Int32} (hT : HT H) (hL : LG L [(0, .ref 3000000), (1, .ref 0), (2, .ref 78), (3, .ref 578), (4, .int i)]) (h : Pn (some xs) m 373 1150 L [.int s1] H r H') : ∃ L', LG L' [(0, .ref 3000000), (1, .ref 0), (2, .ref 78), (3, .ref 578), (4, .int (i + Int32.ofInt 6))] ∧ Pn (some xs) m 373 23 L' [] H r H' := by
  obtain ⟨g0, g1, g2, g3, g4, -⟩ := hL
  have h : Pn (some xs) m 373 1152 (mjSt 6 (.int s1) L) [] H r H' := pnA h at_373_1150 rfl rfl
  have g0 : mjGet (mjSt 6 (.int s1) L) 0 = some (.ref 3000000) := gt_ne g0 (by decide) rfl
  have g1 : mjGet (mjSt 6 (.int s1) L) 1 = some (.ref 0) := gt_ne g1 (by decide) rfl
  have g2 : mjGet (mjSt 6 (.int s1) L) 2 = some (.ref 78) := gt_ne g2 (by decide) rfl
  have g3 : mjGet (mjSt 6 (.int s1) L) 3 = some (.ref 578) := gt_ne g3 (by decide) rfl
  have g4 : mjGet (mjSt 6 (.int s1) L) 4 = some (.int i) := gt_ne g4 (by decide) rfl
  have g6 : mjGet (mjSt 6 (.int s1) L) 6 = some (.int s1) := gt_eq
  have h : Pn (some xs) m 373 2107 (mjSt 6 (.int s1) L) [] H r H' := pnA h at_373_1152 rfl rfl
  have h : Pn (some xs) m 373 2110 (mjSt 4 (.int (i + Int32.ofInt 6)) (mjSt 6 (.int s1) L)) [] H r H' := pnInc g4 h at_373_2107
  have g0 : mjGet (mjSt 4 (.int (i + Int32.ofInt 6)) (mjSt 6 (.int s1) L)) 0 = some (.ref 3000000) := gt_ne g0 (by decide) rfl
  have g1 : mjGet (mjSt 4 (.int (i + Int32.ofInt 6)) (mjSt 6 (.int s1) L)) 1 = some (.ref 0) := gt_ne g1 (by decide) rfl
  have g2 : mjGet (mjSt 4 (.int (i + Int32.ofInt 6)) (mjSt 6 (.int s1) L)) 2 = some (.ref 78) := gt_ne g2 (by decide) rfl
  have g3 : mjGet (mjSt 4 (.int (i + Int32.ofInt 6)) (mjSt 6 (.int s1) L)) 3 = some (.ref 578) := gt_ne g3 (by decide) rfl
  have g6 : mjGet (mjSt 4 (.int (i + Int32.ofInt 6)) (mjSt 6 (.int s1) L)) 6 = some (.int s1) := gt_ne g6 (by decide) rfl
  have g4 : mjGet (mjSt 4 (.int (i + Int32.ofInt 6)) (mjSt 6 (.int s1) L)) 4 = some (.int (i + Int32.ofInt 6)) := gt_eq
  have h : Pn (some xs) m 373 23 (mjSt 4 (.int (i + Int32.ofInt 6)) (mjSt 6 (.int s1) L)) [] H r H' := pnA h at_373_2110 rfl rfl
  exact ⟨_, ⟨g0, g1, g2, g3, g4, trivial⟩, h⟩
theorem at_373_1155 : mjAtI 373 1155 = some (.aload_n 1, 1, 0, 0, 0) := by decide +kernel
theorem at_373_1156 : mjAtI 373 1156 = some (.aload_n 0, 1, 0, 0, 0) := by decide +kernel
theorem at_373_1157 : mjAtI 373 1157 = some (.iload 4, 2, 0, 0, 0) := by decide +kernel
theorem at_373_1159 : mjAtI 373 1159 = some (.iconst 1, 1, 0, 0, 0) := by decide +kernel
theorem at_373_1160 : mjAtI 373 1160 = some (.iadd, 1, 0, 0, 0) := by decide +kernel
theorem at_373_1161 : mjAtI 373 1161 = some (.iaload, 1, 0, 0, 0) := by decide +kernel
theorem at_373_1162 : mjAtI 373 1162 = some (.aload_n 0, 1, 0, 0, 0) := by decide +kernel
theorem at_373_1163 : mjAtI 373 1163 = some (.iload 4, 2, 0, 0, 0) := by decide +kernel
theorem at_373_1165 : mjAtI 373 1165 = some (.iconst 2, 1, 0, 0, 0) := by decide +kernel
theorem at_373_1166 : mjAtI 373 1166 = some (.iadd, 1, 0, 0, 0) := by decide +kernel
theorem at_373_1167 : mjAtI 373 1167 = some (.iaload, 1, 0, 0, 0) := by decide +kernel
theorem at_373_1168 : mjAtI 373 1168 = some (.aload_n 3, 1, 0, 0, 0) := by decide +kernel
theorem at_373_1169 : mjAtI 373 1169 = some (.invokestatic 258, 3, 351, 1, 1344) := by decide +kernel
theorem kc_373_1169 : kCall (.invokestatic 258) 351 373 = true ∧ kArg 351 = 4 := by decide +kernel
theorem la_28 {m : Nat} {L : mjL} {H H' : mjH} {r : Option Value ⊕ Nat} {xs : List Int32} {i : Int32} (hT : HT H) (hL : LG L [(0, .ref 3000000), (1, .ref 0), (2, .ref 78), (3, .ref 578), (4, .int i)]) (h : Pn (some xs) m 373 1155 L [] H r H') : ∃ y0, (¬ (i + (Int32.ofInt 1)) < 0 ∧ xs[(i + (Int32.ofInt 1)).toNatClampNeg]? = some y0) ∧ ∃ y1, (¬ (i + (Int32.ofInt 2)) < 0 ∧ xs[(i + (Int32.ofInt 2)).toNatClampNeg]? = some y1) ∧ ∃ L', LG L' [(0, .ref 3000000), (1, .ref 0), (2, .ref 78), (3, .ref 578), (4, .int i)] ∧ ∃ r2 H2, Pn none m 351 0 [(0, .ref 0), (1, .int y0), (2, .int y1), (3, .ref 578)] [] H r2 H2 ∧ ((∃ cv, r2 = .inl cv ∧ Pn (some xs) m 373 1172 L' (cv.toList ++ []) H2 r H') ∨ (∃ E, r2 = .inr E ∧ r = .inr E ∧ H' = H2)) := by
  obtain ⟨g0, g1, g2, g3, g4, -⟩ := hL
  have h : Pn (some xs) m 373 1156 L [.ref 0] H r H' := pnLrn g1 h at_373_1155
  have h : Pn (some xs) m 373 1157 L [.ref 3000000, .ref 0] H r H' := pnLrn g0 h at_373_1156
  have h : Pn (some xs) m 373 1159 L [.int i, .ref 3000000, .ref 0] H r H' := pnLi g4 h at_373_1157
  have h : Pn (some xs) m 373 1160 L [.int (Int32.ofInt 1), .int i, .ref 3000000, .ref 0] H r H' := pnA h at_373_1159 rfl rfl
  have h : Pn (some xs) m 373 1161 L [.int (i + (Int32.ofInt 1)), .ref 3000000, .ref 0] H r H' := pnA h at_373_1160 rfl rfl
  obtain ⟨y0, zy0, h⟩ := pnSa h at_373_1161
  have h : Pn (some xs) m 373 1162 L [.int y0, .ref 0] H r H' := h
  refine ⟨y0, zy0, ?_⟩
  have h : Pn (some xs) m 373 1163 L [.ref 3000000, .int y0, .ref 0] H r H' := pnLrn g0 h at_373_1162
  have h : Pn (some xs) m 373 1165 L [.int i, .ref 3000000, .int y0, .ref 0] H r H' := pnLi g4 h at_373_1163
  have h : Pn (some xs) m 373 1166 L [.int (Int32.ofInt 2), .int i, .ref 3000000, .int y0, .ref 0] H r H' := pnA h at_373_1165 rfl rfl
  have h : Pn (some xs) m 373 1167 L [.int (i + (Int32.ofInt 2)), .ref 3000000, .int y0, .ref 0] H r H' := pnA h at_373_1166 rfl rfl
  obtain ⟨y1, zy1, h⟩ := pnSa h at_373_1167
  have h : Pn (some xs) m 373 1168 L [.int y1, .int y0, .ref 0] H r H' := h
  refine ⟨y1, zy1, ?_⟩
  have h : Pn (some xs) m 373 1169 L [.ref 578, .int y1, .int y0, .ref 0] H r H' := pnLrn g3 h at_373_1168
  obtain ⟨r2, H2, q, h⟩ := pnC h at_373_1169 kc_373_1169.1 kc_373_1169.2 (as := [.ref 0, .int y0, .int y1, .ref 578]) (rest := []) rfl
  have q : Pn none m 351 0 [(0, .ref 0), (1, .int y0), (2, .int y1), (3, .ref 578)] [] H r2 H2 := q
  exact ⟨_, ⟨g0, g1, g2, g3, g4, trivial⟩, r2, H2, q, h⟩
theorem at_373_1172 : mjAtI 373 1172 = some (.istore 5, 2, 0, 0, 0) := by decide +kernel
theorem at_373_1174 : mjAtI 373 1174 = some (.aload_n 2, 1, 0, 0, 0) := by decide +kernel
theorem at_373_1175 : mjAtI 373 1175 = some (.aload_n 0, 1, 0, 0, 0) := by decide +kernel
theorem at_373_1176 : mjAtI 373 1176 = some (.iload 4, 2, 0, 0, 0) := by decide +kernel
theorem at_373_1178 : mjAtI 373 1178 = some (.iconst 1, 1, 0, 0, 0) := by decide +kernel
theorem at_373_1179 : mjAtI 373 1179 = some (.iadd, 1, 0, 0, 0) := by decide +kernel
theorem at_373_1180 : mjAtI 373 1180 = some (.iaload, 1, 0, 0, 0) := by decide +kernel
theorem at_373_1181 : mjAtI 373 1181 = some (.aload_n 0, 1, 0, 0, 0) := by decide +kernel
theorem at_373_1182 : mjAtI 373 1182 = some (.iload 4, 2, 0, 0, 0) := by decide +kernel
theorem at_373_1184 : mjAtI 373 1184 = some (.iconst 2, 1, 0, 0, 0) := by decide +kernel
theorem at_373_1185 : mjAtI 373 1185 = some (.iadd, 1, 0, 0, 0) := by decide +kernel
theorem at_373_1186 : mjAtI 373 1186 = some (.iaload, 1, 0, 0, 0) := by decide +kernel
theorem at_373_1187 : mjAtI 373 1187 = some (.invokevirtual 260, 3, 304, 0, 2228) := by decide +kernel
theorem kc_373_1187 : kCall (.invokevirtual 260) 304 373 = true ∧ kArg 304 = 3 := by decide +kernel
theorem lb_28 {m : Nat} {L : mjL} {H H' : mjH} {r : Option Value ⊕ Nat} {xs : List Int32} {i : Int32} {s0 : Int32} (hT : HT H) (hL : LG L [(0, .ref 3000000), (1, .ref 0), (2, .ref 78), (3, .ref 578), (4, .int i)]) (h : Pn (some xs) m 373 1172 L [.int s0] H r H') : ∃ y0, (¬ (i + (Int32.ofInt 1)) < 0 ∧ xs[(i + (Int32.ofInt 1)).toNatClampNeg]? = some y0) ∧ ∃ y1, (¬ (i + (Int32.ofInt 2)) < 0 ∧ xs[(i + (Int32.ofInt 2)).toNatClampNeg]? = some y1) ∧ ∃ L', LG L' [(0, .ref 3000000), (1, .ref 0), (2, .ref 78), (3, .ref 578), (4, .int i)] ∧ ∃ r2 H2, Pn none m 304 0 [(0, .ref 78), (1, .int y0), (2, .int y1)] [] H r2 H2 ∧ ((∃ cv, r2 = .inl cv ∧ Pn (some xs) m 373 1190 L' (cv.toList ++ []) H2 r H') ∨ (∃ E, r2 = .inr E ∧ r = .inr E ∧ H' = H2)) := by
  obtain ⟨g0, g1, g2, g3, g4, -⟩ := hL
  have h : Pn (some xs) m 373 1174 (mjSt 5 (.int s0) L) [] H r H' := pnA h at_373_1172 rfl rfl
  have g0 : mjGet (mjSt 5 (.int s0) L) 0 = some (.ref 3000000) := gt_ne g0 (by decide) rfl
  have g1 : mjGet (mjSt 5 (.int s0) L) 1 = some (.ref 0) := gt_ne g1 (by decide) rfl
  have g2 : mjGet (mjSt 5 (.int s0) L) 2 = some (.ref 78) := gt_ne g2 (by decide) rfl
  have g3 : mjGet (mjSt 5 (.int s0) L) 3 = some (.ref 578) := gt_ne g3 (by decide) rfl
  have g4 : mjGet (mjSt 5 (.int s0) L) 4 = some (.int i) := gt_ne g4 (by decide) rfl
  have g5 : mjGet (mjSt 5 (.int s0) L) 5 = some (.int s0) := gt_eq
  have h : Pn (some xs) m 373 1175 (mjSt 5 (.int s0) L) [.ref 78] H r H' := pnLrn g2 h at_373_1174
  have h : Pn (some xs) m 373 1176 (mjSt 5 (.int s0) L) [.ref 3000000, .ref 78] H r H' := pnLrn g0 h at_373_1175
  have h : Pn (some xs) m 373 1178 (mjSt 5 (.int s0) L) [.int i, .ref 3000000, .ref 78] H r H' := pnLi g4 h at_373_1176
  have h : Pn (some xs) m 373 1179 (mjSt 5 (.int s0) L) [.int (Int32.ofInt 1), .int i, .ref 3000000, .ref 78] H r H' := pnA h at_373_1178 rfl rfl
  have h : Pn (some xs) m 373 1180 (mjSt 5 (.int s0) L) [.int (i + (Int32.ofInt 1)), .ref 3000000, .ref 78] H r H' := pnA h at_373_1179 rfl rfl
  obtain ⟨y0, zy0, h⟩ := pnSa h at_373_1180
  have h : Pn (some xs) m 373 1181 (mjSt 5 (.int s0) L) [.int y0, .ref 78] H r H' := h
  refine ⟨y0, zy0, ?_⟩
  have h : Pn (some xs) m 373 1182 (mjSt 5 (.int s0) L) [.ref 3000000, .int y0, .ref 78] H r H' := pnLrn g0 h at_373_1181
  have h : Pn (some xs) m 373 1184 (mjSt 5 (.int s0) L) [.int i, .ref 3000000, .int y0, .ref 78] H r H' := pnLi g4 h at_373_1182
  have h : Pn (some xs) m 373 1185 (mjSt 5 (.int s0) L) [.int (Int32.ofInt 2), .int i, .ref 3000000, .int y0, .ref 78] H r H' := pnA h at_373_1184 rfl rfl
  have h : Pn (some xs) m 373 1186 (mjSt 5 (.int s0) L) [.int (i + (Int32.ofInt 2)), .ref 3000000, .int y0, .ref 78] H r H' := pnA h at_373_1185 rfl rfl
  obtain ⟨y1, zy1, h⟩ := pnSa h at_373_1186
  have h : Pn (some xs) m 373 1187 (mjSt 5 (.int s0) L) [.int y1, .int y0, .ref 78] H r H' := h
  refine ⟨y1, zy1, ?_⟩
  obtain ⟨r2, H2, q, h⟩ := pnC h at_373_1187 kc_373_1187.1 kc_373_1187.2 (as := [.ref 78, .int y0, .int y1]) (rest := []) rfl
  have q : Pn none m 304 0 [(0, .ref 78), (1, .int y0), (2, .int y1)] [] H r2 H2 := q
  exact ⟨_, ⟨g0, g1, g2, g3, g4, trivial⟩, r2, H2, q, h⟩
theorem at_373_1190 : mjAtI 373 1190 = some (.istore 6, 2, 0, 0, 0) := by decide +kernel
theorem at_373_1192 : mjAtI 373 1192 = some (.goto 915, 3, 0, 2107, 0) := by decide +kernel
theorem lc_28 {m : Nat} {L : mjL} {H H' : mjH} {r : Option Value ⊕ Nat} {xs : List Int32} {i : Int32} {s1 : Int32} (hT : HT H) (hL : LG L [(0, .ref 3000000), (1, .ref 0), (2, .ref 78), (3, .ref 578), (4, .int i)]) (h : Pn (some xs) m 373 1190 L [.int s1] H r H') : ∃ L', LG L' [(0, .ref 3000000), (1, .ref 0), (2, .ref 78), (3, .ref 578), (4, .int (i + Int32.ofInt 6))] ∧ Pn (some xs) m 373 23 L' [] H r H' := by
  obtain ⟨g0, g1, g2, g3, g4, -⟩ := hL
  have h : Pn (some xs) m 373 1192 (mjSt 6 (.int s1) L) [] H r H' := pnA h at_373_1190 rfl rfl
  have g0 : mjGet (mjSt 6 (.int s1) L) 0 = some (.ref 3000000) := gt_ne g0 (by decide) rfl
  have g1 : mjGet (mjSt 6 (.int s1) L) 1 = some (.ref 0) := gt_ne g1 (by decide) rfl
  have g2 : mjGet (mjSt 6 (.int s1) L) 2 = some (.ref 78) := gt_ne g2 (by decide) rfl
  have g3 : mjGet (mjSt 6 (.int s1) L) 3 = some (.ref 578) := gt_ne g3 (by decide) rfl
  have g4 : mjGet (mjSt 6 (.int s1) L) 4 = some (.int i) := gt_ne g4 (by decide) rfl
  have g6 : mjGet (mjSt 6 (.int s1) L) 6 = some (.int s1) := gt_eq
  have h : Pn (some xs) m 373 2107 (mjSt 6 (.int s1) L) [] H r H' := pnA h at_373_1192 rfl rfl
  have h : Pn (some xs) m 373 2110 (mjSt 4 (.int (i + Int32.ofInt 6)) (mjSt 6 (.int s1) L)) [] H r H' := pnInc g4 h at_373_2107
  have g0 : mjGet (mjSt 4 (.int (i + Int32.ofInt 6)) (mjSt 6 (.int s1) L)) 0 = some (.ref 3000000) := gt_ne g0 (by decide) rfl
  have g1 : mjGet (mjSt 4 (.int (i + Int32.ofInt 6)) (mjSt 6 (.int s1) L)) 1 = some (.ref 0) := gt_ne g1 (by decide) rfl
  have g2 : mjGet (mjSt 4 (.int (i + Int32.ofInt 6)) (mjSt 6 (.int s1) L)) 2 = some (.ref 78) := gt_ne g2 (by decide) rfl
  have g3 : mjGet (mjSt 4 (.int (i + Int32.ofInt 6)) (mjSt 6 (.int s1) L)) 3 = some (.ref 578) := gt_ne g3 (by decide) rfl
  have g6 : mjGet (mjSt 4 (.int (i + Int32.ofInt 6)) (mjSt 6 (.int s1) L)) 6 = some (.int s1) := gt_ne g6 (by decide) rfl
  have g4 : mjGet (mjSt 4 (.int (i + Int32.ofInt 6)) (mjSt 6 (.int s1) L)) 4 = some (.int (i + Int32.ofInt 6)) := gt_eq
  have h : Pn (some xs) m 373 23 (mjSt 4 (.int (i + Int32.ofInt 6)) (mjSt 6 (.int s1) L)) [] H r H' := pnA h at_373_2110 rfl rfl
  exact ⟨_, ⟨g0, g1, g2, g3, g4, trivial⟩, h⟩
theorem at_373_1251 : mjAtI 373 1251 = some (.aload_n 1, 1, 0, 0, 0) := by decide +kernel
theorem at_373_1252 : mjAtI 373 1252 = some (.aload_n 0, 1, 0, 0, 0) := by decide +kernel
theorem at_373_1253 : mjAtI 373 1253 = some (.iload 4, 2, 0, 0, 0) := by decide +kernel
theorem at_373_1255 : mjAtI 373 1255 = some (.iconst 1, 1, 0, 0, 0) := by decide +kernel
theorem at_373_1256 : mjAtI 373 1256 = some (.iadd, 1, 0, 0, 0) := by decide +kernel
theorem at_373_1257 : mjAtI 373 1257 = some (.iaload, 1, 0, 0, 0) := by decide +kernel
theorem at_373_1258 : mjAtI 373 1258 = some (.aload_n 3, 1, 0, 0, 0) := by decide +kernel
theorem at_373_1259 : mjAtI 373 1259 = some (.invokestatic 267, 3, 353, 1, 1364) := by decide +kernel
theorem kc_373_1259 : kCall (.invokestatic 267) 353 373 = true ∧ kArg 353 = 3 := by decide +kernel
theorem la_30 {m : Nat} {L : mjL} {H H' : mjH} {r : Option Value ⊕ Nat} {xs : List Int32} {i : Int32} (hT : HT H) (hL : LG L [(0, .ref 3000000), (1, .ref 0), (2, .ref 78), (3, .ref 578), (4, .int i)]) (h : Pn (some xs) m 373 1251 L [] H r H') : ∃ y0, (¬ (i + (Int32.ofInt 1)) < 0 ∧ xs[(i + (Int32.ofInt 1)).toNatClampNeg]? = some y0) ∧ ∃ L', LG L' [(0, .ref 3000000), (1, .ref 0), (2, .ref 78), (3, .ref 578), (4, .int i)] ∧ ∃ r2 H2, Pn none m 353 0 [(0, .ref 0), (1, .int y0), (2, .ref 578)] [] H r2 H2 ∧ ((∃ cv, r2 = .inl cv ∧ Pn (some xs) m 373 1262 L' (cv.toList ++ []) H2 r H') ∨ (∃ E, r2 = .inr E ∧ r = .inr E ∧ H' = H2)) := by
  obtain ⟨g0, g1, g2, g3, g4, -⟩ := hL
  have h : Pn (some xs) m 373 1252 L [.ref 0] H r H' := pnLrn g1 h at_373_1251
  have h : Pn (some xs) m 373 1253 L [.ref 3000000, .ref 0] H r H' := pnLrn g0 h at_373_1252
  have h : Pn (some xs) m 373 1255 L [.int i, .ref 3000000, .ref 0] H r H' := pnLi g4 h at_373_1253
  have h : Pn (some xs) m 373 1256 L [.int (Int32.ofInt 1), .int i, .ref 3000000, .ref 0] H r H' := pnA h at_373_1255 rfl rfl
  have h : Pn (some xs) m 373 1257 L [.int (i + (Int32.ofInt 1)), .ref 3000000, .ref 0] H r H' := pnA h at_373_1256 rfl rfl
  obtain ⟨y0, zy0, h⟩ := pnSa h at_373_1257
  have h : Pn (some xs) m 373 1258 L [.int y0, .ref 0] H r H' := h
  refine ⟨y0, zy0, ?_⟩
  have h : Pn (some xs) m 373 1259 L [.ref 578, .int y0, .ref 0] H r H' := pnLrn g3 h at_373_1258
  obtain ⟨r2, H2, q, h⟩ := pnC h at_373_1259 kc_373_1259.1 kc_373_1259.2 (as := [.ref 0, .int y0, .ref 578]) (rest := []) rfl
  have q : Pn none m 353 0 [(0, .ref 0), (1, .int y0), (2, .ref 578)] [] H r2 H2 := q
  exact ⟨_, ⟨g0, g1, g2, g3, g4, trivial⟩, r2, H2, q, h⟩
theorem at_373_1262 : mjAtI 373 1262 = some (.istore 5, 2, 0, 0, 0) := by decide +kernel
theorem at_373_1264 : mjAtI 373 1264 = some (.aload_n 2, 1, 0, 0, 0) := by decide +kernel
theorem at_373_1265 : mjAtI 373 1265 = some (.aload_n 0, 1, 0, 0, 0) := by decide +kernel
theorem at_373_1266 : mjAtI 373 1266 = some (.iload 4, 2, 0, 0, 0) := by decide +kernel
theorem at_373_1268 : mjAtI 373 1268 = some (.iconst 1, 1, 0, 0, 0) := by decide +kernel
theorem at_373_1269 : mjAtI 373 1269 = some (.iadd, 1, 0, 0, 0) := by decide +kernel
theorem at_373_1270 : mjAtI 373 1270 = some (.iaload, 1, 0, 0, 0) := by decide +kernel
theorem at_373_1271 : mjAtI 373 1271 = some (.invokevirtual 269, 3, 311, 0, 2252) := by decide +kernel
theorem kc_373_1271 : kCall (.invokevirtual 269) 311 373 = true ∧ kArg 311 = 2 := by decide +kernel
theorem lb_30 {m : Nat} {L : mjL} {H H' : mjH} {r : Option Value ⊕ Nat} {xs : List Int32} {i : Int32} {s0 : Int32} (hT : HT H) (hL : LG L [(0, .ref 3000000), (1, .ref 0), (2, .ref 78), (3, .ref 578), (4, .int i)]) (h : Pn (some xs) m 373 1262 L [.int s0] H r H') : ∃ y0, (¬ (i + (Int32.ofInt 1)) < 0 ∧ xs[(i + (Int32.ofInt 1)).toNatClampNeg]? = some y0) ∧ ∃ L', LG L' [(0, .ref 3000000), (1, .ref 0), (2, .ref 78), (3, .ref 578), (4, .int i)] ∧ ∃ r2 H2, Pn none m 311 0 [(0, .ref 78), (1, .int y0)] [] H r2 H2 ∧ ((∃ cv, r2 = .inl cv ∧ Pn (some xs) m 373 1274 L' (cv.toList ++ []) H2 r H') ∨ (∃ E, r2 = .inr E ∧ r = .inr E ∧ H' = H2)) := by
  obtain ⟨g0, g1, g2, g3, g4, -⟩ := hL
  have h : Pn (some xs) m 373 1264 (mjSt 5 (.int s0) L) [] H r H' := pnA h at_373_1262 rfl rfl
  have g0 : mjGet (mjSt 5 (.int s0) L) 0 = some (.ref 3000000) := gt_ne g0 (by decide) rfl
  have g1 : mjGet (mjSt 5 (.int s0) L) 1 = some (.ref 0) := gt_ne g1 (by decide) rfl
  have g2 : mjGet (mjSt 5 (.int s0) L) 2 = some (.ref 78) := gt_ne g2 (by decide) rfl
  have g3 : mjGet (mjSt 5 (.int s0) L) 3 = some (.ref 578) := gt_ne g3 (by decide) rfl
  have g4 : mjGet (mjSt 5 (.int s0) L) 4 = some (.int i) := gt_ne g4 (by decide) rfl
  have g5 : mjGet (mjSt 5 (.int s0) L) 5 = some (.int s0) := gt_eq
  have h : Pn (some xs) m 373 1265 (mjSt 5 (.int s0) L) [.ref 78] H r H' := pnLrn g2 h at_373_1264
  have h : Pn (some xs) m 373 1266 (mjSt 5 (.int s0) L) [.ref 3000000, .ref 78] H r H' := pnLrn g0 h at_373_1265
  have h : Pn (some xs) m 373 1268 (mjSt 5 (.int s0) L) [.int i, .ref 3000000, .ref 78] H r H' := pnLi g4 h at_373_1266
  have h : Pn (some xs) m 373 1269 (mjSt 5 (.int s0) L) [.int (Int32.ofInt 1), .int i, .ref 3000000, .ref 78] H r H' := pnA h at_373_1268 rfl rfl
  have h : Pn (some xs) m 373 1270 (mjSt 5 (.int s0) L) [.int (i + (Int32.ofInt 1)), .ref 3000000, .ref 78] H r H' := pnA h at_373_1269 rfl rfl
  obtain ⟨y0, zy0, h⟩ := pnSa h at_373_1270
  have h : Pn (some xs) m 373 1271 (mjSt 5 (.int s0) L) [.int y0, .ref 78] H r H' := h
  refine ⟨y0, zy0, ?_⟩
  obtain ⟨r2, H2, q, h⟩ := pnC h at_373_1271 kc_373_1271.1 kc_373_1271.2 (as := [.ref 78, .int y0]) (rest := []) rfl
  have q : Pn none m 311 0 [(0, .ref 78), (1, .int y0)] [] H r2 H2 := q
  exact ⟨_, ⟨g0, g1, g2, g3, g4, trivial⟩, r2, H2, q, h⟩
theorem at_373_1274 : mjAtI 373 1274 = some (.istore 6, 2, 0, 0, 0) := by decide +kernel
theorem at_373_1276 : mjAtI 373 1276 = some (.goto 831, 3, 0, 2107, 0) := by decide +kernel
theorem lc_30 {m : Nat} {L : mjL} {H H' : mjH} {r : Option Value ⊕ Nat} {xs : List Int32} {i : Int32} {s1 : Int32} (hT : HT H) (hL : LG L [(0, .ref 3000000), (1, .ref 0), (2, .ref 78), (3, .ref 578), (4, .int i)]) (h : Pn (some xs) m 373 1274 L [.int s1] H r H') : ∃ L', LG L' [(0, .ref 3000000), (1, .ref 0), (2, .ref 78), (3, .ref 578), (4, .int (i + Int32.ofInt 6))] ∧ Pn (some xs) m 373 23 L' [] H r H' := by
  obtain ⟨g0, g1, g2, g3, g4, -⟩ := hL
  have h : Pn (some xs) m 373 1276 (mjSt 6 (.int s1) L) [] H r H' := pnA h at_373_1274 rfl rfl
  have g0 : mjGet (mjSt 6 (.int s1) L) 0 = some (.ref 3000000) := gt_ne g0 (by decide) rfl
  have g1 : mjGet (mjSt 6 (.int s1) L) 1 = some (.ref 0) := gt_ne g1 (by decide) rfl
  have g2 : mjGet (mjSt 6 (.int s1) L) 2 = some (.ref 78) := gt_ne g2 (by decide) rfl
  have g3 : mjGet (mjSt 6 (.int s1) L) 3 = some (.ref 578) := gt_ne g3 (by decide) rfl
  have g4 : mjGet (mjSt 6 (.int s1) L) 4 = some (.int i) := gt_ne g4 (by decide) rfl
  have g6 : mjGet (mjSt 6 (.int s1) L) 6 = some (.int s1) := gt_eq
  have h : Pn (some xs) m 373 2107 (mjSt 6 (.int s1) L) [] H r H' := pnA h at_373_1276 rfl rfl
  have h : Pn (some xs) m 373 2110 (mjSt 4 (.int (i + Int32.ofInt 6)) (mjSt 6 (.int s1) L)) [] H r H' := pnInc g4 h at_373_2107
  have g0 : mjGet (mjSt 4 (.int (i + Int32.ofInt 6)) (mjSt 6 (.int s1) L)) 0 = some (.ref 3000000) := gt_ne g0 (by decide) rfl
  have g1 : mjGet (mjSt 4 (.int (i + Int32.ofInt 6)) (mjSt 6 (.int s1) L)) 1 = some (.ref 0) := gt_ne g1 (by decide) rfl
  have g2 : mjGet (mjSt 4 (.int (i + Int32.ofInt 6)) (mjSt 6 (.int s1) L)) 2 = some (.ref 78) := gt_ne g2 (by decide) rfl
  have g3 : mjGet (mjSt 4 (.int (i + Int32.ofInt 6)) (mjSt 6 (.int s1) L)) 3 = some (.ref 578) := gt_ne g3 (by decide) rfl
  have g6 : mjGet (mjSt 4 (.int (i + Int32.ofInt 6)) (mjSt 6 (.int s1) L)) 6 = some (.int s1) := gt_ne g6 (by decide) rfl
  have g4 : mjGet (mjSt 4 (.int (i + Int32.ofInt 6)) (mjSt 6 (.int s1) L)) 4 = some (.int (i + Int32.ofInt 6)) := gt_eq
  have h : Pn (some xs) m 373 23 (mjSt 4 (.int (i + Int32.ofInt 6)) (mjSt 6 (.int s1) L)) [] H r H' := pnA h at_373_2110 rfl rfl
  exact ⟨_, ⟨g0, g1, g2, g3, g4, trivial⟩, h⟩
theorem at_373_1279 : mjAtI 373 1279 = some (.aload_n 1, 1, 0, 0, 0) := by decide +kernel
theorem at_373_1280 : mjAtI 373 1280 = some (.aload_n 0, 1, 0, 0, 0) := by decide +kernel
theorem at_373_1281 : mjAtI 373 1281 = some (.iload 4, 2, 0, 0, 0) := by decide +kernel
theorem at_373_1283 : mjAtI 373 1283 = some (.iconst 1, 1, 0, 0, 0) := by decide +kernel
theorem at_373_1284 : mjAtI 373 1284 = some (.iadd, 1, 0, 0, 0) := by decide +kernel
theorem at_373_1285 : mjAtI 373 1285 = some (.iaload, 1, 0, 0, 0) := by decide +kernel
theorem at_373_1286 : mjAtI 373 1286 = some (.aload_n 3, 1, 0, 0, 0) := by decide +kernel
theorem at_373_1287 : mjAtI 373 1287 = some (.invokestatic 270, 3, 354, 1, 1375) := by decide +kernel
theorem kc_373_1287 : kCall (.invokestatic 270) 354 373 = true ∧ kArg 354 = 3 := by decide +kernel
theorem la_31 {m : Nat} {L : mjL} {H H' : mjH} {r : Option Value ⊕ Nat} {xs : List Int32} {i : Int32} (hT : HT H) (hL : LG L [(0, .ref 3000000), (1, .ref 0), (2, .ref 78), (3, .ref 578), (4, .int i)]) (h : Pn (some xs) m 373 1279 L [] H r H') : ∃ y0, (¬ (i + (Int32.ofInt 1)) < 0 ∧ xs[(i + (Int32.ofInt 1)).toNatClampNeg]? = some y0) ∧ ∃ L', LG L' [(0, .ref 3000000), (1, .ref 0), (2, .ref 78), (3, .ref 578), (4, .int i)] ∧ ∃ r2 H2, Pn none m 354 0 [(0, .ref 0), (1, .int y0), (2, .ref 578)] [] H r2 H2 ∧ ((∃ cv, r2 = .inl cv ∧ Pn (some xs) m 373 1290 L' (cv.toList ++ []) H2 r H') ∨ (∃ E, r2 = .inr E ∧ r = .inr E ∧ H' = H2)) := by
  obtain ⟨g0, g1, g2, g3, g4, -⟩ := hL
  have h : Pn (some xs) m 373 1280 L [.ref 0] H r H' := pnLrn g1 h at_373_1279
  have h : Pn (some xs) m 373 1281 L [.ref 3000000, .ref 0] H r H' := pnLrn g0 h at_373_1280
  have h : Pn (some xs) m 373 1283 L [.int i, .ref 3000000, .ref 0] H r H' := pnLi g4 h at_373_1281
  have h : Pn (some xs) m 373 1284 L [.int (Int32.ofInt 1), .int i, .ref 3000000, .ref 0] H r H' := pnA h at_373_1283 rfl rfl
  have h : Pn (some xs) m 373 1285 L [.int (i + (Int32.ofInt 1)), .ref 3000000, .ref 0] H r H' := pnA h at_373_1284 rfl rfl
  obtain ⟨y0, zy0, h⟩ := pnSa h at_373_1285
  have h : Pn (some xs) m 373 1286 L [.int y0, .ref 0] H r H' := h
  refine ⟨y0, zy0, ?_⟩
  have h : Pn (some xs) m 373 1287 L [.ref 578, .int y0, .ref 0] H r H' := pnLrn g3 h at_373_1286
  obtain ⟨r2, H2, q, h⟩ := pnC h at_373_1287 kc_373_1287.1 kc_373_1287.2 (as := [.ref 0, .int y0, .ref 578]) (rest := []) rfl
  have q : Pn none m 354 0 [(0, .ref 0), (1, .int y0), (2, .ref 578)] [] H r2 H2 := q
  exact ⟨_, ⟨g0, g1, g2, g3, g4, trivial⟩, r2, H2, q, h⟩
theorem at_373_1290 : mjAtI 373 1290 = some (.istore 5, 2, 0, 0, 0) := by decide +kernel
theorem at_373_1292 : mjAtI 373 1292 = some (.aload_n 2, 1, 0, 0, 0) := by decide +kernel
theorem at_373_1293 : mjAtI 373 1293 = some (.aload_n 0, 1, 0, 0, 0) := by decide +kernel
theorem at_373_1294 : mjAtI 373 1294 = some (.iload 4, 2, 0, 0, 0) := by decide +kernel
theorem at_373_1296 : mjAtI 373 1296 = some (.iconst 1, 1, 0, 0, 0) := by decide +kernel
theorem at_373_1297 : mjAtI 373 1297 = some (.iadd, 1, 0, 0, 0) := by decide +kernel
theorem at_373_1298 : mjAtI 373 1298 = some (.iaload, 1, 0, 0, 0) := by decide +kernel
theorem at_373_1299 : mjAtI 373 1299 = some (.invokevirtual 272, 3, 312, 0, 2260) := by decide +kernel
theorem kc_373_1299 : kCall (.invokevirtual 272) 312 373 = true ∧ kArg 312 = 2 := by decide +kernel
theorem lb_31 {m : Nat} {L : mjL} {H H' : mjH} {r : Option Value ⊕ Nat} {xs : List Int32} {i : Int32} {s0 : Int32} (hT : HT H) (hL : LG L [(0, .ref 3000000), (1, .ref 0), (2, .ref 78), (3, .ref 578), (4, .int i)]) (h : Pn (some xs) m 373 1290 L [.int s0] H r H') : ∃ y0, (¬ (i + (Int32.ofInt 1)) < 0 ∧ xs[(i + (Int32.ofInt 1)).toNatClampNeg]? = some y0) ∧ ∃ L', LG L' [(0, .ref 3000000), (1, .ref 0), (2, .ref 78), (3, .ref 578), (4, .int i)] ∧ ∃ r2 H2, Pn none m 312 0 [(0, .ref 78), (1, .int y0)] [] H r2 H2 ∧ ((∃ cv, r2 = .inl cv ∧ Pn (some xs) m 373 1302 L' (cv.toList ++ []) H2 r H') ∨ (∃ E, r2 = .inr E ∧ r = .inr E ∧ H' = H2)) := by
  obtain ⟨g0, g1, g2, g3, g4, -⟩ := hL
  have h : Pn (some xs) m 373 1292 (mjSt 5 (.int s0) L) [] H r H' := pnA h at_373_1290 rfl rfl
  have g0 : mjGet (mjSt 5 (.int s0) L) 0 = some (.ref 3000000) := gt_ne g0 (by decide) rfl
  have g1 : mjGet (mjSt 5 (.int s0) L) 1 = some (.ref 0) := gt_ne g1 (by decide) rfl
  have g2 : mjGet (mjSt 5 (.int s0) L) 2 = some (.ref 78) := gt_ne g2 (by decide) rfl
  have g3 : mjGet (mjSt 5 (.int s0) L) 3 = some (.ref 578) := gt_ne g3 (by decide) rfl
  have g4 : mjGet (mjSt 5 (.int s0) L) 4 = some (.int i) := gt_ne g4 (by decide) rfl
  have g5 : mjGet (mjSt 5 (.int s0) L) 5 = some (.int s0) := gt_eq
  have h : Pn (some xs) m 373 1293 (mjSt 5 (.int s0) L) [.ref 78] H r H' := pnLrn g2 h at_373_1292
  have h : Pn (some xs) m 373 1294 (mjSt 5 (.int s0) L) [.ref 3000000, .ref 78] H r H' := pnLrn g0 h at_373_1293
  have h : Pn (some xs) m 373 1296 (mjSt 5 (.int s0) L) [.int i, .ref 3000000, .ref 78] H r H' := pnLi g4 h at_373_1294
  have h : Pn (some xs) m 373 1297 (mjSt 5 (.int s0) L) [.int (Int32.ofInt 1), .int i, .ref 3000000, .ref 78] H r H' := pnA h at_373_1296 rfl rfl
  have h : Pn (some xs) m 373 1298 (mjSt 5 (.int s0) L) [.int (i + (Int32.ofInt 1)), .ref 3000000, .ref 78] H r H' := pnA h at_373_1297 rfl rfl
  obtain ⟨y0, zy0, h⟩ := pnSa h at_373_1298
  have h : Pn (some xs) m 373 1299 (mjSt 5 (.int s0) L) [.int y0, .ref 78] H r H' := h
  refine ⟨y0, zy0, ?_⟩
  obtain ⟨r2, H2, q, h⟩ := pnC h at_373_1299 kc_373_1299.1 kc_373_1299.2 (as := [.ref 78, .int y0]) (rest := []) rfl
  have q : Pn none m 312 0 [(0, .ref 78), (1, .int y0)] [] H r2 H2 := q
  exact ⟨_, ⟨g0, g1, g2, g3, g4, trivial⟩, r2, H2, q, h⟩
theorem at_373_1302 : mjAtI 373 1302 = some (.istore 6, 2, 0, 0, 0) := by decide +kernel
theorem at_373_1304 : mjAtI 373 1304 = some (.goto 803, 3, 0, 2107, 0) := by decide +kernel
theorem lc_31 {m : Nat} {L : mjL} {H H' : mjH} {r : Option Value ⊕ Nat} {xs : List Int32} {i : Int32} {s1 : Int32} (hT : HT H) (hL : LG L [(0, .ref 3000000), (1, .ref 0), (2, .ref 78), (3, .ref 578), (4, .int i)]) (h : Pn (some xs) m 373 1302 L [.int s1] H r H') : ∃ L', LG L' [(0, .ref 3000000), (1, .ref 0), (2, .ref 78), (3, .ref 578), (4, .int (i + Int32.ofInt 6))] ∧ Pn (some xs) m 373 23 L' [] H r H' := by
  obtain ⟨g0, g1, g2, g3, g4, -⟩ := hL
  have h : Pn (some xs) m 373 1304 (mjSt 6 (.int s1) L) [] H r H' := pnA h at_373_1302 rfl rfl
  have g0 : mjGet (mjSt 6 (.int s1) L) 0 = some (.ref 3000000) := gt_ne g0 (by decide) rfl
  have g1 : mjGet (mjSt 6 (.int s1) L) 1 = some (.ref 0) := gt_ne g1 (by decide) rfl
  have g2 : mjGet (mjSt 6 (.int s1) L) 2 = some (.ref 78) := gt_ne g2 (by decide) rfl
  have g3 : mjGet (mjSt 6 (.int s1) L) 3 = some (.ref 578) := gt_ne g3 (by decide) rfl
  have g4 : mjGet (mjSt 6 (.int s1) L) 4 = some (.int i) := gt_ne g4 (by decide) rfl
  have g6 : mjGet (mjSt 6 (.int s1) L) 6 = some (.int s1) := gt_eq
  have h : Pn (some xs) m 373 2107 (mjSt 6 (.int s1) L) [] H r H' := pnA h at_373_1304 rfl rfl
  have h : Pn (some xs) m 373 2110 (mjSt 4 (.int (i + Int32.ofInt 6)) (mjSt 6 (.int s1) L)) [] H r H' := pnInc g4 h at_373_2107
  have g0 : mjGet (mjSt 4 (.int (i + Int32.ofInt 6)) (mjSt 6 (.int s1) L)) 0 = some (.ref 3000000) := gt_ne g0 (by decide) rfl
  have g1 : mjGet (mjSt 4 (.int (i + Int32.ofInt 6)) (mjSt 6 (.int s1) L)) 1 = some (.ref 0) := gt_ne g1 (by decide) rfl
  have g2 : mjGet (mjSt 4 (.int (i + Int32.ofInt 6)) (mjSt 6 (.int s1) L)) 2 = some (.ref 78) := gt_ne g2 (by decide) rfl
  have g3 : mjGet (mjSt 4 (.int (i + Int32.ofInt 6)) (mjSt 6 (.int s1) L)) 3 = some (.ref 578) := gt_ne g3 (by decide) rfl
  have g6 : mjGet (mjSt 4 (.int (i + Int32.ofInt 6)) (mjSt 6 (.int s1) L)) 6 = some (.int s1) := gt_ne g6 (by decide) rfl
  have g4 : mjGet (mjSt 4 (.int (i + Int32.ofInt 6)) (mjSt 6 (.int s1) L)) 4 = some (.int (i + Int32.ofInt 6)) := gt_eq
  have h : Pn (some xs) m 373 23 (mjSt 4 (.int (i + Int32.ofInt 6)) (mjSt 6 (.int s1) L)) [] H r H' := pnA h at_373_2110 rfl rfl
  exact ⟨_, ⟨g0, g1, g2, g3, g4, trivial⟩, h⟩
theorem at_373_1307 : mjAtI 373 1307 = some (.aload_n 1, 1, 0, 0, 0) := by decide +kernel
theorem at_373_1308 : mjAtI 373 1308 = some (.aload_n 0, 1, 0, 0, 0) := by decide +kernel
theorem at_373_1309 : mjAtI 373 1309 = some (.iload 4, 2, 0, 0, 0) := by decide +kernel
theorem at_373_1311 : mjAtI 373 1311 = some (.iconst 1, 1, 0, 0, 0) := by decide +kernel
theorem at_373_1312 : mjAtI 373 1312 = some (.iadd, 1, 0, 0, 0) := by decide +kernel
theorem at_373_1313 : mjAtI 373 1313 = some (.iaload, 1, 0, 0, 0) := by decide +kernel
theorem at_373_1314 : mjAtI 373 1314 = some (.aload_n 3, 1, 0, 0, 0) := by decide +kernel
theorem at_373_1315 : mjAtI 373 1315 = some (.invokestatic 273, 3, 355, 1, 1382) := by decide +kernel
theorem kc_373_1315 : kCall (.invokestatic 273) 355 373 = true ∧ kArg 355 = 3 := by decide +kernel
theorem la_32 {m : Nat} {L : mjL} {H H' : mjH} {r : Option Value ⊕ Nat} {xs : List Int32} {i : Int32} (hT : HT H) (hL : LG L [(0, .ref 3000000), (1, .ref 0), (2, .ref 78), (3, .ref 578), (4, .int i)]) (h : Pn (some xs) m 373 1307 L [] H r H') : ∃ y0, (¬ (i + (Int32.ofInt 1)) < 0 ∧ xs[(i + (Int32.ofInt 1)).toNatClampNeg]? = some y0) ∧ ∃ L', LG L' [(0, .ref 3000000), (1, .ref 0), (2, .ref 78), (3, .ref 578), (4, .int i)] ∧ ∃ r2 H2, Pn none m 355 0 [(0, .ref 0), (1, .int y0), (2, .ref 578)] [] H r2 H2 ∧ ((∃ cv, r2 = .inl cv ∧ Pn (some xs) m 373 1318 L' (cv.toList ++ []) H2 r H') ∨ (∃ E, r2 = .inr E ∧ r = .inr E ∧ H' = H2)) := by
  obtain ⟨g0, g1, g2, g3, g4, -⟩ := hL
  have h : Pn (some xs) m 373 1308 L [.ref 0] H r H' := pnLrn g1 h at_373_1307
  have h : Pn (some xs) m 373 1309 L [.ref 3000000, .ref 0] H r H' := pnLrn g0 h at_373_1308
  have h : Pn (some xs) m 373 1311 L [.int i, .ref 3000000, .ref 0] H r H' := pnLi g4 h at_373_1309
  have h : Pn (some xs) m 373 1312 L [.int (Int32.ofInt 1), .int i, .ref 3000000, .ref 0] H r H' := pnA h at_373_1311 rfl rfl
  have h : Pn (some xs) m 373 1313 L [.int (i + (Int32.ofInt 1)), .ref 3000000, .ref 0] H r H' := pnA h at_373_1312 rfl rfl
  obtain ⟨y0, zy0, h⟩ := pnSa h at_373_1313
  have h : Pn (some xs) m 373 1314 L [.int y0, .ref 0] H r H' := h
  refine ⟨y0, zy0, ?_⟩
  have h : Pn (some xs) m 373 1315 L [.ref 578, .int y0, .ref 0] H r H' := pnLrn g3 h at_373_1314
  obtain ⟨r2, H2, q, h⟩ := pnC h at_373_1315 kc_373_1315.1 kc_373_1315.2 (as := [.ref 0, .int y0, .ref 578]) (rest := []) rfl
  have q : Pn none m 355 0 [(0, .ref 0), (1, .int y0), (2, .ref 578)] [] H r2 H2 := q
  exact ⟨_, ⟨g0, g1, g2, g3, g4, trivial⟩, r2, H2, q, h⟩
theorem at_373_1318 : mjAtI 373 1318 = some (.istore 5, 2, 0, 0, 0) := by decide +kernel
theorem at_373_1320 : mjAtI 373 1320 = some (.aload_n 2, 1, 0, 0, 0) := by decide +kernel
theorem at_373_1321 : mjAtI 373 1321 = some (.aload_n 0, 1, 0, 0, 0) := by decide +kernel
theorem at_373_1322 : mjAtI 373 1322 = some (.iload 4, 2, 0, 0, 0) := by decide +kernel
theorem at_373_1324 : mjAtI 373 1324 = some (.iconst 1, 1, 0, 0, 0) := by decide +kernel
theorem at_373_1325 : mjAtI 373 1325 = some (.iadd, 1, 0, 0, 0) := by decide +kernel
theorem at_373_1326 : mjAtI 373 1326 = some (.iaload, 1, 0, 0, 0) := by decide +kernel
theorem at_373_1327 : mjAtI 373 1327 = some (.invokevirtual 275, 3, 289, 0, 2162) := by decide +kernel
theorem kc_373_1327 : kCall (.invokevirtual 275) 289 373 = true ∧ kArg 289 = 2 := by decide +kernel
theorem lb_32 {m : Nat} {L : mjL} {H H' : mjH} {r : Option Value ⊕ Nat} {xs : List Int32} {i : Int32} {s0 : Int32} (hT : HT H) (hL : LG L [(0, .ref 3000000), (1, .ref 0), (2, .ref 78), (3, .ref 578), (4, .int i)]) (h : Pn (some xs) m 373 1318 L [.int s0] H r H') : ∃ y0, (¬ (i + (Int32.ofInt 1)) < 0 ∧ xs[(i + (Int32.ofInt 1)).toNatClampNeg]? = some y0) ∧ ∃ L', LG L' [(0, .ref 3000000), (1, .ref 0), (2, .ref 78), (3, .ref 578), (4, .int i)] ∧ ∃ r2 H2, Pn none m 289 0 [(0, .ref 78), (1, .int y0)] [] H r2 H2 ∧ ((∃ cv, r2 = .inl cv ∧ Pn (some xs) m 373 1330 L' (cv.toList ++ []) H2 r H') ∨ (∃ E, r2 = .inr E ∧ r = .inr E ∧ H' = H2)) := by
  obtain ⟨g0, g1, g2, g3, g4, -⟩ := hL
  have h : Pn (some xs) m 373 1320 (mjSt 5 (.int s0) L) [] H r H' := pnA h at_373_1318 rfl rfl
  have g0 : mjGet (mjSt 5 (.int s0) L) 0 = some (.ref 3000000) := gt_ne g0 (by decide) rfl
  have g1 : mjGet (mjSt 5 (.int s0) L) 1 = some (.ref 0) := gt_ne g1 (by decide) rfl
  have g2 : mjGet (mjSt 5 (.int s0) L) 2 = some (.ref 78) := gt_ne g2 (by decide) rfl
  have g3 : mjGet (mjSt 5 (.int s0) L) 3 = some (.ref 578) := gt_ne g3 (by decide) rfl
  have g4 : mjGet (mjSt 5 (.int s0) L) 4 = some (.int i) := gt_ne g4 (by decide) rfl
  have g5 : mjGet (mjSt 5 (.int s0) L) 5 = some (.int s0) := gt_eq
  have h : Pn (some xs) m 373 1321 (mjSt 5 (.int s0) L) [.ref 78] H r H' := pnLrn g2 h at_373_1320
  have h : Pn (some xs) m 373 1322 (mjSt 5 (.int s0) L) [.ref 3000000, .ref 78] H r H' := pnLrn g0 h at_373_1321
  have h : Pn (some xs) m 373 1324 (mjSt 5 (.int s0) L) [.int i, .ref 3000000, .ref 78] H r H' := pnLi g4 h at_373_1322
  have h : Pn (some xs) m 373 1325 (mjSt 5 (.int s0) L) [.int (Int32.ofInt 1), .int i, .ref 3000000, .ref 78] H r H' := pnA h at_373_1324 rfl rfl
  have h : Pn (some xs) m 373 1326 (mjSt 5 (.int s0) L) [.int (i + (Int32.ofInt 1)), .ref 3000000, .ref 78] H r H' := pnA h at_373_1325 rfl rfl
  obtain ⟨y0, zy0, h⟩ := pnSa h at_373_1326
  have h : Pn (some xs) m 373 1327 (mjSt 5 (.int s0) L) [.int y0, .ref 78] H r H' := h
  refine ⟨y0, zy0, ?_⟩
  obtain ⟨r2, H2, q, h⟩ := pnC h at_373_1327 kc_373_1327.1 kc_373_1327.2 (as := [.ref 78, .int y0]) (rest := []) rfl
  have q : Pn none m 289 0 [(0, .ref 78), (1, .int y0)] [] H r2 H2 := q
  exact ⟨_, ⟨g0, g1, g2, g3, g4, trivial⟩, r2, H2, q, h⟩
theorem at_373_1330 : mjAtI 373 1330 = some (.istore 6, 2, 0, 0, 0) := by decide +kernel
theorem at_373_1332 : mjAtI 373 1332 = some (.goto 775, 3, 0, 2107, 0) := by decide +kernel
theorem lc_32 {m : Nat} {L : mjL} {H H' : mjH} {r : Option Value ⊕ Nat} {xs : List Int32} {i : Int32} {s1 : Int32} (hT : HT H) (hL : LG L [(0, .ref 3000000), (1, .ref 0), (2, .ref 78), (3, .ref 578), (4, .int i)]) (h : Pn (some xs) m 373 1330 L [.int s1] H r H') : ∃ L', LG L' [(0, .ref 3000000), (1, .ref 0), (2, .ref 78), (3, .ref 578), (4, .int (i + Int32.ofInt 6))] ∧ Pn (some xs) m 373 23 L' [] H r H' := by
  obtain ⟨g0, g1, g2, g3, g4, -⟩ := hL
  have h : Pn (some xs) m 373 1332 (mjSt 6 (.int s1) L) [] H r H' := pnA h at_373_1330 rfl rfl
  have g0 : mjGet (mjSt 6 (.int s1) L) 0 = some (.ref 3000000) := gt_ne g0 (by decide) rfl
  have g1 : mjGet (mjSt 6 (.int s1) L) 1 = some (.ref 0) := gt_ne g1 (by decide) rfl
  have g2 : mjGet (mjSt 6 (.int s1) L) 2 = some (.ref 78) := gt_ne g2 (by decide) rfl
  have g3 : mjGet (mjSt 6 (.int s1) L) 3 = some (.ref 578) := gt_ne g3 (by decide) rfl
  have g4 : mjGet (mjSt 6 (.int s1) L) 4 = some (.int i) := gt_ne g4 (by decide) rfl
  have g6 : mjGet (mjSt 6 (.int s1) L) 6 = some (.int s1) := gt_eq
  have h : Pn (some xs) m 373 2107 (mjSt 6 (.int s1) L) [] H r H' := pnA h at_373_1332 rfl rfl
  have h : Pn (some xs) m 373 2110 (mjSt 4 (.int (i + Int32.ofInt 6)) (mjSt 6 (.int s1) L)) [] H r H' := pnInc g4 h at_373_2107
  have g0 : mjGet (mjSt 4 (.int (i + Int32.ofInt 6)) (mjSt 6 (.int s1) L)) 0 = some (.ref 3000000) := gt_ne g0 (by decide) rfl
  have g1 : mjGet (mjSt 4 (.int (i + Int32.ofInt 6)) (mjSt 6 (.int s1) L)) 1 = some (.ref 0) := gt_ne g1 (by decide) rfl
  have g2 : mjGet (mjSt 4 (.int (i + Int32.ofInt 6)) (mjSt 6 (.int s1) L)) 2 = some (.ref 78) := gt_ne g2 (by decide) rfl
  have g3 : mjGet (mjSt 4 (.int (i + Int32.ofInt 6)) (mjSt 6 (.int s1) L)) 3 = some (.ref 578) := gt_ne g3 (by decide) rfl
  have g6 : mjGet (mjSt 4 (.int (i + Int32.ofInt 6)) (mjSt 6 (.int s1) L)) 6 = some (.int s1) := gt_ne g6 (by decide) rfl
  have g4 : mjGet (mjSt 4 (.int (i + Int32.ofInt 6)) (mjSt 6 (.int s1) L)) 4 = some (.int (i + Int32.ofInt 6)) := gt_eq
  have h : Pn (some xs) m 373 23 (mjSt 4 (.int (i + Int32.ofInt 6)) (mjSt 6 (.int s1) L)) [] H r H' := pnA h at_373_2110 rfl rfl
  exact ⟨_, ⟨g0, g1, g2, g3, g4, trivial⟩, h⟩
theorem at_373_1335 : mjAtI 373 1335 = some (.aload_n 1, 1, 0, 0, 0) := by decide +kernel
theorem at_373_1336 : mjAtI 373 1336 = some (.aload_n 0, 1, 0, 0, 0) := by decide +kernel
theorem at_373_1337 : mjAtI 373 1337 = some (.iload 4, 2, 0, 0, 0) := by decide +kernel
theorem at_373_1339 : mjAtI 373 1339 = some (.iconst 1, 1, 0, 0, 0) := by decide +kernel
theorem at_373_1340 : mjAtI 373 1340 = some (.iadd, 1, 0, 0, 0) := by decide +kernel
theorem at_373_1341 : mjAtI 373 1341 = some (.iaload, 1, 0, 0, 0) := by decide +kernel
theorem at_373_1342 : mjAtI 373 1342 = some (.aload_n 0, 1, 0, 0, 0) := by decide +kernel
theorem at_373_1343 : mjAtI 373 1343 = some (.iload 4, 2, 0, 0, 0) := by decide +kernel
theorem at_373_1345 : mjAtI 373 1345 = some (.iconst 2, 1, 0, 0, 0) := by decide +kernel
theorem at_373_1346 : mjAtI 373 1346 = some (.iadd, 1, 0, 0, 0) := by decide +kernel
theorem at_373_1347 : mjAtI 373 1347 = some (.iaload, 1, 0, 0, 0) := by decide +kernel
theorem at_373_1348 : mjAtI 373 1348 = some (.aload_n 0, 1, 0, 0, 0) := by decide +kernel
theorem at_373_1349 : mjAtI 373 1349 = some (.iload 4, 2, 0, 0, 0) := by decide +kernel
theorem at_373_1351 : mjAtI 373 1351 = some (.iconst 3, 1, 0, 0, 0) := by decide +kernel
theorem at_373_1352 : mjAtI 373 1352 = some (.iadd, 1, 0, 0, 0) := by decide +kernel
theorem at_373_1353 : mjAtI 373 1353 = some (.iaload, 1, 0, 0, 0) := by decide +kernel
theorem at_373_1354 : mjAtI 373 1354 = some (.aload_n 3, 1, 0, 0, 0) := by decide +kernel
theorem at_373_1355 : mjAtI 373 1355 = some (.invokestatic 276, 3, 356, 1, 1389) := by decide +kernel
theorem kc_373_1355 : kCall (.invokestatic 276) 356 373 = true ∧ kArg 356 = 5 := by decide +kernel
theorem la_33 {m : Nat} {L : mjL} {H H' : mjH} {r : Option Value ⊕ Nat} {xs : List Int32} {i : Int32} (hT : HT H) (hL : LG L [(0, .ref 3000000), (1, .ref 0), (2, .ref 78), (3, .ref 578), (4, .int i)]) (h : Pn (some xs) m 373 1335 L [] H r H') : ∃ y0, (¬ (i + (Int32.ofInt 1)) < 0 ∧ xs[(i + (Int32.ofInt 1)).toNatClampNeg]? = some y0) ∧ ∃ y1, (¬ (i + (Int32.ofInt 2)) < 0 ∧ xs[(i + (Int32.ofInt 2)).toNatClampNeg]? = some y1) ∧ ∃ y2, (¬ (i + (Int32.ofInt 3)) < 0 ∧ xs[(i + (Int32.ofInt 3)).toNatClampNeg]? = some y2) ∧ ∃ L', LG L' [(0, .ref 3000000), (1, .ref 0), (2, .ref 78), (3, .ref 578), (4, .int i)] ∧ ∃ r2 H2, Pn none m 356 0 [(0, .ref 0), (1, .int y0), (2, .int y1), (3, .int y2), (4, .ref 578)] [] H r2 H2 ∧ ((∃ cv, r2 = .inl cv ∧ Pn (some xs) m 373 1358 L' (cv.toList ++ []) H2 r H') ∨ (∃ E, r2 = .inr E ∧ r = .inr E ∧ H' = H2)) := by
  obtain ⟨g0, g1, g2, g3, g4, -⟩ := hL
  have h : Pn (some xs) m 373 1336 L [.ref 0] H r H' := pnLrn g1 h at_373_1335
  have h : Pn (some xs) m 373 1337 L [.ref 3000000, .ref 0] H r H' := pnLrn g0 h at_373_1336
  have h : Pn (some xs) m 373 1339 L [.int i, .ref 3000000, .ref 0] H r H' := pnLi g4 h at_373_1337
  have h : Pn (some xs) m 373 1340 L [.int (Int32.ofInt 1), .int i, .ref 3000000, .ref 0] H r H' := pnA h at_373_1339 rfl rfl
  have h : Pn (some xs) m 373 1341 L [.int (i + (Int32.ofInt 1)), .ref 3000000, .ref 0] H r H' := pnA h at_373_1340 rfl rfl
  obtain ⟨y0, zy0, h⟩ := pnSa h at_373_1341
  have h : Pn (some xs) m 373 1342 L [.int y0, .ref 0] H r H' := h
  refine ⟨y0, zy0, ?_⟩
  have h : Pn (some xs) m 373 1343 L [.ref 3000000, .int y0, .ref 0] H r H' := pnLrn g0 h at_373_1342
  have h : Pn (some xs) m 373 1345 L [.int i, .ref 3000000, .int y0, .ref 0] H r H' := pnLi g4 h at_373_1343
  have h : Pn (some xs) m 373 1346 L [.int (Int32.ofInt 2), .int i, .ref 3000000, .int y0, .ref 0] H r H' := pnA h at_373_1345 rfl rfl
  have h : Pn (some xs) m 373 1347 L [.int (i + (Int32.ofInt 2)), .ref 3000000, .int y0, .ref 0] H r H' := pnA h at_373_1346 rfl rfl
  obtain ⟨y1, zy1, h⟩ := pnSa h at_373_1347
  have h : Pn (some xs) m 373 1348 L [.int y1, .int y0, .ref 0] H r H' := h
  refine ⟨y1, zy1, ?_⟩
  have h : Pn (some xs) m 373 1349 L [.ref 3000000, .int y1, .int y0, .ref 0] H r H' := pnLrn g0 h at_373_1348
  have h : Pn (some xs) m 373 1351 L [.int i, .ref 3000000, .int y1, .int y0, .ref 0] H r H' := pnLi g4 h at_373_1349
  have h : Pn (some xs) m 373 1352 L [.int (Int32.ofInt 3), .int i, .ref 3000000, .int y1, .int y0, .ref 0] H r H' := pnA h at_373_1351 rfl rfl
  have h : Pn (some xs) m 373 1353 L [.int (i + (Int32.ofInt 3)), .ref 3000000, .int y1, .int y0, .ref 0] H r H' := pnA h at_373_1352 rfl rfl
  obtain ⟨y2, zy2, h⟩ := pnSa h at_373_1353
  have h : Pn (some xs) m 373 1354 L [.int y2, .int y1, .int y0, .ref 0] H r H' := h
  refine ⟨y2, zy2, ?_⟩
  have h : Pn (some xs) m 373 1355 L [.ref 578, .int y2, .int y1, .int y0, .ref 0] H r H' := pnLrn g3 h at_373_1354
  obtain ⟨r2, H2, q, h⟩ := pnC h at_373_1355 kc_373_1355.1 kc_373_1355.2 (as := [.ref 0, .int y0, .int y1, .int y2, .ref 578]) (rest := []) rfl
  have q : Pn none m 356 0 [(0, .ref 0), (1, .int y0), (2, .int y1), (3, .int y2), (4, .ref 578)] [] H r2 H2 := q
  exact ⟨_, ⟨g0, g1, g2, g3, g4, trivial⟩, r2, H2, q, h⟩
theorem at_373_1358 : mjAtI 373 1358 = some (.istore 5, 2, 0, 0, 0) := by decide +kernel
theorem at_373_1360 : mjAtI 373 1360 = some (.aload_n 2, 1, 0, 0, 0) := by decide +kernel
theorem at_373_1361 : mjAtI 373 1361 = some (.aload_n 0, 1, 0, 0, 0) := by decide +kernel
theorem at_373_1362 : mjAtI 373 1362 = some (.iload 4, 2, 0, 0, 0) := by decide +kernel
theorem at_373_1364 : mjAtI 373 1364 = some (.iconst 1, 1, 0, 0, 0) := by decide +kernel
theorem at_373_1365 : mjAtI 373 1365 = some (.iadd, 1, 0, 0, 0) := by decide +kernel
theorem at_373_1366 : mjAtI 373 1366 = some (.iaload, 1, 0, 0, 0) := by decide +kernel
theorem at_373_1367 : mjAtI 373 1367 = some (.aload_n 0, 1, 0, 0, 0) := by decide +kernel
theorem at_373_1368 : mjAtI 373 1368 = some (.iload 4, 2, 0, 0, 0) := by decide +kernel
theorem at_373_1370 : mjAtI 373 1370 = some (.iconst 2, 1, 0, 0, 0) := by decide +kernel
theorem at_373_1371 : mjAtI 373 1371 = some (.iadd, 1, 0, 0, 0) := by decide +kernel
theorem at_373_1372 : mjAtI 373 1372 = some (.iaload, 1, 0, 0, 0) := by decide +kernel
theorem at_373_1373 : mjAtI 373 1373 = some (.aload_n 0, 1, 0, 0, 0) := by decide +kernel
theorem at_373_1374 : mjAtI 373 1374 = some (.iload 4, 2, 0, 0, 0) := by decide +kernel
theorem at_373_1376 : mjAtI 373 1376 = some (.iconst 3, 1, 0, 0, 0) := by decide +kernel
theorem at_373_1377 : mjAtI 373 1377 = some (.iadd, 1, 0, 0, 0) := by decide +kernel
theorem at_373_1378 : mjAtI 373 1378 = some (.iaload, 1, 0, 0, 0) := by decide +kernel
theorem at_373_1379 : mjAtI 373 1379 = some (.invokevirtual 278, 3, 292, 0, 2171) := by decide +kernel
theorem kc_373_1379 : kCall (.invokevirtual 278) 292 373 = true ∧ kArg 292 = 4 := by decide +kernel
theorem lb_33 {m : Nat} {L : mjL} {H H' : mjH} {r : Option Value ⊕ Nat} {xs : List Int32} {i : Int32} {s0 : Int32} (hT : HT H) (hL : LG L [(0, .ref 3000000), (1, .ref 0), (2, .ref 78), (3, .ref 578), (4, .int i)]) (h : Pn (some xs) m 373 1358 L [.int s0] H r H') : ∃ y0, (¬ (i + (Int32.ofInt 1)) < 0 ∧ xs[(i + (Int32.ofInt 1)).toNatClampNeg]? = some y0) ∧ ∃ y1, (¬ (i + (Int32.ofInt 2)) < 0 ∧ xs[(i + (Int32.ofInt 2)).toNatClampNeg]? = some y1) ∧ ∃ y2, (¬ (i + (Int32.ofInt 3)) < 0 ∧ xs[(i + (Int32.ofInt 3)).toNatClampNeg]? = some y2) ∧ ∃ L', LG L' [(0, .ref 3000000), (1, .ref 0), (2, .ref 78), (3, .ref 578), (4, .int i)] ∧ ∃ r2 H2, Pn none m 292 0 [(0, .ref 78), (1, .int y0), (2, .int y1), (3, .int y2)] [] H r2 H2 ∧ ((∃ cv, r2 = .inl cv ∧ Pn (some xs) m 373 1382 L' (cv.toList ++ []) H2 r H') ∨ (∃ E, r2 = .inr E ∧ r = .inr E ∧ H' = H2)) := by
  obtain ⟨g0, g1, g2, g3, g4, -⟩ := hL
  have h : Pn (some xs) m 373 1360 (mjSt 5 (.int s0) L) [] H r H' := pnA h at_373_1358 rfl rfl
  have g0 : mjGet (mjSt 5 (.int s0) L) 0 = some (.ref 3000000) := gt_ne g0 (by decide) rfl
  have g1 : mjGet (mjSt 5 (.int s0) L) 1 = some (.ref 0) := gt_ne g1 (by decide) rfl
  have g2 : mjGet (mjSt 5 (.int s0) L) 2 = some (.ref 78) := gt_ne g2 (by decide) rfl
  have g3 : mjGet (mjSt 5 (.int s0) L) 3 = some (.ref 578) := gt_ne g3 (by decide) rfl
  have g4 : mjGet (mjSt 5 (.int s0) L) 4 = some (.int i) := gt_ne g4 (by decide) rfl
  have g5 : mjGet (mjSt 5 (.int s0) L) 5 = some (.int s0) := gt_eq
  have h : Pn (some xs) m 373 1361 (mjSt 5 (.int s0) L) [.ref 78] H r H' := pnLrn g2 h at_373_1360
  have h : Pn (some xs) m 373 1362 (mjSt 5 (.int s0) L) [.ref 3000000, .ref 78] H r H' := pnLrn g0 h at_373_1361
  have h : Pn (some xs) m 373 1364 (mjSt 5 (.int s0) L) [.int i, .ref 3000000, .ref 78] H r H' := pnLi g4 h at_373_1362
  have h : Pn (some xs) m 373 1365 (mjSt 5 (.int s0) L) [.int (Int32.ofInt 1), .int i, .ref 3000000, .ref 78] H r H' := pnA h at_373_1364 rfl rfl
  have h : Pn (some xs) m 373 1366 (mjSt 5 (.int s0) L) [.int (i + (Int32.ofInt 1)), .ref 3000000, .ref 78] H r H' := pnA h at_373_1365 rfl rfl
  obtain ⟨y0, zy0, h⟩ := pnSa h at_373_1366
  have h : Pn (some xs) m 373 1367 (mjSt 5 (.int s0) L) [.int y0, .ref 78] H r H' := h
  refine ⟨y0, zy0, ?_⟩
  have h : Pn (some xs) m 373 1368 (mjSt 5 (.int s0) L) [.ref 3000000, .int y0, .ref 78] H r H' := pnLrn g0 h at_373_1367
  have h : Pn (some xs) m 373 1370 (mjSt 5 (.int s0) L) [.int i, .ref 3000000, .int y0, .ref 78] H r H' := pnLi g4 h at_373_1368
  have h : Pn (some xs) m 373 1371 (mjSt 5 (.int s0) L) [.int (Int32.ofInt 2), .int i, .ref 3000000, .int y0, .ref 78] H r H' := pnA h at_373_1370 rfl rfl
  have h : Pn (some xs) m 373 1372 (mjSt 5 (.int s0) L) [.int (i + (Int32.ofInt 2)), .ref 3000000, .int y0, .ref 78] H r H' := pnA h at_373_1371 rfl rfl
  obtain ⟨y1, zy1, h⟩ := pnSa h at_373_1372
  have h : Pn (some xs) m 373 1373 (mjSt 5 (.int s0) L) [.int y1, .int y0, .ref 78] H r H' := h
  refine ⟨y1, zy1, ?_⟩
  have h : Pn (some xs) m 373 1374 (mjSt 5 (.int s0) L) [.ref 3000000, .int y1, .int y0, .ref 78] H r H' := pnLrn g0 h at_373_1373
  have h : Pn (some xs) m 373 1376 (mjSt 5 (.int s0) L) [.int i, .ref 3000000, .int y1, .int y0, .ref 78] H r H' := pnLi g4 h at_373_1374
  have h : Pn (some xs) m 373 1377 (mjSt 5 (.int s0) L) [.int (Int32.ofInt 3), .int i, .ref 3000000, .int y1, .int y0, .ref 78] H r H' := pnA h at_373_1376 rfl rfl
  have h : Pn (some xs) m 373 1378 (mjSt 5 (.int s0) L) [.int (i + (Int32.ofInt 3)), .ref 3000000, .int y1, .int y0, .ref 78] H r H' := pnA h at_373_1377 rfl rfl
  obtain ⟨y2, zy2, h⟩ := pnSa h at_373_1378
  have h : Pn (some xs) m 373 1379 (mjSt 5 (.int s0) L) [.int y2, .int y1, .int y0, .ref 78] H r H' := h
  refine ⟨y2, zy2, ?_⟩
  obtain ⟨r2, H2, q, h⟩ := pnC h at_373_1379 kc_373_1379.1 kc_373_1379.2 (as := [.ref 78, .int y0, .int y1, .int y2]) (rest := []) rfl
  have q : Pn none m 292 0 [(0, .ref 78), (1, .int y0), (2, .int y1), (3, .int y2)] [] H r2 H2 := q
  exact ⟨_, ⟨g0, g1, g2, g3, g4, trivial⟩, r2, H2, q, h⟩
theorem at_373_1382 : mjAtI 373 1382 = some (.istore 6, 2, 0, 0, 0) := by decide +kernel
theorem at_373_1384 : mjAtI 373 1384 = some (.goto 723, 3, 0, 2107, 0) := by decide +kernel
theorem lc_33 {m : Nat} {L : mjL} {H H' : mjH} {r : Option Value ⊕ Nat} {xs : List Int32} {i : Int32} {s1 : Int32} (hT : HT H) (hL : LG L [(0, .ref 3000000), (1, .ref 0), (2, .ref 78), (3, .ref 578), (4, .int i)]) (h : Pn (some xs) m 373 1382 L [.int s1] H r H') : ∃ L', LG L' [(0, .ref 3000000), (1, .ref 0), (2, .ref 78), (3, .ref 578), (4, .int (i + Int32.ofInt 6))] ∧ Pn (some xs) m 373 23 L' [] H r H' := by
  obtain ⟨g0, g1, g2, g3, g4, -⟩ := hL
  have h : Pn (some xs) m 373 1384 (mjSt 6 (.int s1) L) [] H r H' := pnA h at_373_1382 rfl rfl
  have g0 : mjGet (mjSt 6 (.int s1) L) 0 = some (.ref 3000000) := gt_ne g0 (by decide) rfl
  have g1 : mjGet (mjSt 6 (.int s1) L) 1 = some (.ref 0) := gt_ne g1 (by decide) rfl
  have g2 : mjGet (mjSt 6 (.int s1) L) 2 = some (.ref 78) := gt_ne g2 (by decide) rfl
  have g3 : mjGet (mjSt 6 (.int s1) L) 3 = some (.ref 578) := gt_ne g3 (by decide) rfl
  have g4 : mjGet (mjSt 6 (.int s1) L) 4 = some (.int i) := gt_ne g4 (by decide) rfl
  have g6 : mjGet (mjSt 6 (.int s1) L) 6 = some (.int s1) := gt_eq
  have h : Pn (some xs) m 373 2107 (mjSt 6 (.int s1) L) [] H r H' := pnA h at_373_1384 rfl rfl
  have h : Pn (some xs) m 373 2110 (mjSt 4 (.int (i + Int32.ofInt 6)) (mjSt 6 (.int s1) L)) [] H r H' := pnInc g4 h at_373_2107
  have g0 : mjGet (mjSt 4 (.int (i + Int32.ofInt 6)) (mjSt 6 (.int s1) L)) 0 = some (.ref 3000000) := gt_ne g0 (by decide) rfl
  have g1 : mjGet (mjSt 4 (.int (i + Int32.ofInt 6)) (mjSt 6 (.int s1) L)) 1 = some (.ref 0) := gt_ne g1 (by decide) rfl
  have g2 : mjGet (mjSt 4 (.int (i + Int32.ofInt 6)) (mjSt 6 (.int s1) L)) 2 = some (.ref 78) := gt_ne g2 (by decide) rfl
  have g3 : mjGet (mjSt 4 (.int (i + Int32.ofInt 6)) (mjSt 6 (.int s1) L)) 3 = some (.ref 578) := gt_ne g3 (by decide) rfl
  have g6 : mjGet (mjSt 4 (.int (i + Int32.ofInt 6)) (mjSt 6 (.int s1) L)) 6 = some (.int s1) := gt_ne g6 (by decide) rfl
  have g4 : mjGet (mjSt 4 (.int (i + Int32.ofInt 6)) (mjSt 6 (.int s1) L)) 4 = some (.int (i + Int32.ofInt 6)) := gt_eq
  have h : Pn (some xs) m 373 23 (mjSt 4 (.int (i + Int32.ofInt 6)) (mjSt 6 (.int s1) L)) [] H r H' := pnA h at_373_2110 rfl rfl
  exact ⟨_, ⟨g0, g1, g2, g3, g4, trivial⟩, h⟩
theorem at_373_1387 : mjAtI 373 1387 = some (.aload_n 1, 1, 0, 0, 0) := by decide +kernel
theorem at_373_1388 : mjAtI 373 1388 = some (.aload_n 0, 1, 0, 0, 0) := by decide +kernel
theorem at_373_1389 : mjAtI 373 1389 = some (.iload 4, 2, 0, 0, 0) := by decide +kernel
theorem at_373_1391 : mjAtI 373 1391 = some (.iconst 1, 1, 0, 0, 0) := by decide +kernel
theorem at_373_1392 : mjAtI 373 1392 = some (.iadd, 1, 0, 0, 0) := by decide +kernel
theorem at_373_1393 : mjAtI 373 1393 = some (.iaload, 1, 0, 0, 0) := by decide +kernel
theorem at_373_1394 : mjAtI 373 1394 = some (.aload_n 0, 1, 0, 0, 0) := by decide +kernel
theorem at_373_1395 : mjAtI 373 1395 = some (.iload 4, 2, 0, 0, 0) := by decide +kernel
theorem at_373_1397 : mjAtI 373 1397 = some (.iconst 2, 1, 0, 0, 0) := by decide +kernel
theorem at_373_1398 : mjAtI 373 1398 = some (.iadd, 1, 0, 0, 0) := by decide +kernel
theorem at_373_1399 : mjAtI 373 1399 = some (.iaload, 1, 0, 0, 0) := by decide +kernel
theorem at_373_1400 : mjAtI 373 1400 = some (.invokevirtual 279, 3, 147, 0, 574) := by decide +kernel
theorem kc_373_1400 : kCall (.invokevirtual 279) 147 373 = true ∧ kArg 147 = 3 := by decide +kernel
theorem la_34 {m : Nat} {L : mjL} {H H' : mjH} {r : Option Value ⊕ Nat} {xs : List Int32} {i : Int32} (hT : HT H) (hL : LG L [(0, .ref 3000000), (1, .ref 0), (2, .ref 78), (3, .ref 578), (4, .int i)]) (h : Pn (some xs) m 373 1387 L [] H r H') : ∃ y0, (¬ (i + (Int32.ofInt 1)) < 0 ∧ xs[(i + (Int32.ofInt 1)).toNatClampNeg]? = some y0) ∧ ∃ y1, (¬ (i + (Int32.ofInt 2)) < 0 ∧ xs[(i + (Int32.ofInt 2)).toNatClampNeg]? = some y1) ∧ ∃ L', LG L' [(0, .ref 3000000), (1, .ref 0), (2, .ref 78), (3, .ref 578), (4, .int i)] ∧ ∃ r2 H2, Pn none m 147 0 [(0, .ref 0), (1, .int y0), (2, .int y1)] [] H r2 H2 ∧ ((∃ cv, r2 = .inl cv ∧ Pn (some xs) m 373 1403 L' (cv.toList ++ []) H2 r H') ∨ (∃ E, r2 = .inr E ∧ r = .inr E ∧ H' = H2)) := by
  obtain ⟨g0, g1, g2, g3, g4, -⟩ := hL
  have h : Pn (some xs) m 373 1388 L [.ref 0] H r H' := pnLrn g1 h at_373_1387
  have h : Pn (some xs) m 373 1389 L [.ref 3000000, .ref 0] H r H' := pnLrn g0 h at_373_1388
  have h : Pn (some xs) m 373 1391 L [.int i, .ref 3000000, .ref 0] H r H' := pnLi g4 h at_373_1389
  have h : Pn (some xs) m 373 1392 L [.int (Int32.ofInt 1), .int i, .ref 3000000, .ref 0] H r H' := pnA h at_373_1391 rfl rfl
  have h : Pn (some xs) m 373 1393 L [.int (i + (Int32.ofInt 1)), .ref 3000000, .ref 0] H r H' := pnA h at_373_1392 rfl rfl
  obtain ⟨y0, zy0, h⟩ := pnSa h at_373_1393
  have h : Pn (some xs) m 373 1394 L [.int y0, .ref 0] H r H' := h
  refine ⟨y0, zy0, ?_⟩
  have h : Pn (some xs) m 373 1395 L [.ref 3000000, .int y0, .ref 0] H r H' := pnLrn g0 h at_373_1394
  have h : Pn (some xs) m 373 1397 L [.int i, .ref 3000000, .int y0, .ref 0] H r H' := pnLi g4 h at_373_1395
  have h : Pn (some xs) m 373 1398 L [.int (Int32.ofInt 2), .int i, .ref 3000000, .int y0, .ref 0] H r H' := pnA h at_373_1397 rfl rfl
  have h : Pn (some xs) m 373 1399 L [.int (i + (Int32.ofInt 2)), .ref 3000000, .int y0, .ref 0] H r H' := pnA h at_373_1398 rfl rfl
  obtain ⟨y1, zy1, h⟩ := pnSa h at_373_1399
  have h : Pn (some xs) m 373 1400 L [.int y1, .int y0, .ref 0] H r H' := h
  refine ⟨y1, zy1, ?_⟩
  obtain ⟨r2, H2, q, h⟩ := pnC h at_373_1400 kc_373_1400.1 kc_373_1400.2 (as := [.ref 0, .int y0, .int y1]) (rest := []) rfl
  have q : Pn none m 147 0 [(0, .ref 0), (1, .int y0), (2, .int y1)] [] H r2 H2 := q
  exact ⟨_, ⟨g0, g1, g2, g3, g4, trivial⟩, r2, H2, q, h⟩
theorem at_373_1403 : mjAtI 373 1403 = some (.pop, 1, 0, 0, 0) := by decide +kernel
theorem at_373_1404 : mjAtI 373 1404 = some (.aload_n 2, 1, 0, 0, 0) := by decide +kernel
theorem at_373_1405 : mjAtI 373 1405 = some (.aload_n 0, 1, 0, 0, 0) := by decide +kernel
theorem at_373_1406 : mjAtI 373 1406 = some (.iload 4, 2, 0, 0, 0) := by decide +kernel
theorem at_373_1408 : mjAtI 373 1408 = some (.iconst 1, 1, 0, 0, 0) := by decide +kernel
theorem at_373_1409 : mjAtI 373 1409 = some (.iadd, 1, 0, 0, 0) := by decide +kernel
theorem at_373_1410 : mjAtI 373 1410 = some (.iaload, 1, 0, 0, 0) := by decide +kernel
theorem at_373_1411 : mjAtI 373 1411 = some (.aload_n 0, 1, 0, 0, 0) := by decide +kernel
theorem at_373_1412 : mjAtI 373 1412 = some (.iload 4, 2, 0, 0, 0) := by decide +kernel
theorem at_373_1414 : mjAtI 373 1414 = some (.iconst 2, 1, 0, 0, 0) := by decide +kernel
theorem at_373_1415 : mjAtI 373 1415 = some (.iadd, 1, 0, 0, 0) := by decide +kernel
theorem at_373_1416 : mjAtI 373 1416 = some (.iaload, 1, 0, 0, 0) := by decide +kernel
theorem at_373_1417 : mjAtI 373 1417 = some (.invokevirtual 282, 3, 293, 0, 2180) := by decide +kernel
theorem kc_373_1417 : kCall (.invokevirtual 282) 293 373 = true ∧ kArg 293 = 3 := by decide +kernel
theorem lb_34 {m : Nat} {L : mjL} {H H' : mjH} {r : Option Value ⊕ Nat} {xs : List Int32} {i : Int32} {s0 : Int32} (hT : HT H) (hL : LG L [(0, .ref 3000000), (1, .ref 0), (2, .ref 78), (3, .ref 578), (4, .int i)]) (h : Pn (some xs) m 373 1403 L [.int s0] H r H') : ∃ y0, (¬ (i + (Int32.ofInt 1)) < 0 ∧ xs[(i + (Int32.ofInt 1)).toNatClampNeg]? = some y0) ∧ ∃ y1, (¬ (i + (Int32.ofInt 2)) < 0 ∧ xs[(i + (Int32.ofInt 2)).toNatClampNeg]? = some y1) ∧ ∃ L', LG L' [(0, .ref 3000000), (1, .ref 0), (2, .ref 78), (3, .ref 578), (4, .int i)] ∧ ∃ r2 H2, Pn none m 293 0 [(0, .ref 78), (1, .int y0), (2, .int y1)] [] H r2 H2 ∧ ((∃ cv, r2 = .inl cv ∧ Pn (some xs) m 373 1420 L' (cv.toList ++ []) H2 r H') ∨ (∃ E, r2 = .inr E ∧ r = .inr E ∧ H' = H2)) := by
  obtain ⟨g0, g1, g2, g3, g4, -⟩ := hL
  have h : Pn (some xs) m 373 1404 L [] H r H' := pnA h at_373_1403 rfl rfl
  have h : Pn (some xs) m 373 1405 L [.ref 78] H r H' := pnLrn g2 h at_373_1404
  have h : Pn (some xs) m 373 1406 L [.ref 3000000, .ref 78] H r H' := pnLrn g0 h at_373_1405
  have h : Pn (some xs) m 373 1408 L [.int i, .ref 3000000, .ref 78] H r H' := pnLi g4 h at_373_1406
  have h : Pn (some xs) m 373 1409 L [.int (Int32.ofInt 1), .int i, .ref 3000000, .ref 78] H r H' := pnA h at_373_1408 rfl rfl
  have h : Pn (some xs) m 373 1410 L [.int (i + (Int32.ofInt 1)), .ref 3000000, .ref 78] H r H' := pnA h at_373_1409 rfl rfl
  obtain ⟨y0, zy0, h⟩ := pnSa h at_373_1410
  have h : Pn (some xs) m 373 1411 L [.int y0, .ref 78] H r H' := h
  refine ⟨y0, zy0, ?_⟩
  have h : Pn (some xs) m 373 1412 L [.ref 3000000, .int y0, .ref 78] H r H' := pnLrn g0 h at_373_1411
  have h : Pn (some xs) m 373 1414 L [.int i, .ref 3000000, .int y0, .ref 78] H r H' := pnLi g4 h at_373_1412
  have h : Pn (some xs) m 373 1415 L [.int (Int32.ofInt 2), .int i, .ref 3000000, .int y0, .ref 78] H r H' := pnA h at_373_1414 rfl rfl
  have h : Pn (some xs) m 373 1416 L [.int (i + (Int32.ofInt 2)), .ref 3000000, .int y0, .ref 78] H r H' := pnA h at_373_1415 rfl rfl
  obtain ⟨y1, zy1, h⟩ := pnSa h at_373_1416
  have h : Pn (some xs) m 373 1417 L [.int y1, .int y0, .ref 78] H r H' := h
  refine ⟨y1, zy1, ?_⟩
  obtain ⟨r2, H2, q, h⟩ := pnC h at_373_1417 kc_373_1417.1 kc_373_1417.2 (as := [.ref 78, .int y0, .int y1]) (rest := []) rfl
  have q : Pn none m 293 0 [(0, .ref 78), (1, .int y0), (2, .int y1)] [] H r2 H2 := q
  exact ⟨_, ⟨g0, g1, g2, g3, g4, trivial⟩, r2, H2, q, h⟩
theorem at_373_1420 : mjAtI 373 1420 = some (.pop, 1, 0, 0, 0) := by decide +kernel
theorem at_373_1421 : mjAtI 373 1421 = some (.goto 686, 3, 0, 2107, 0) := by decide +kernel
theorem lc_34 {m : Nat} {L : mjL} {H H' : mjH} {r : Option Value ⊕ Nat} {xs : List Int32} {i : Int32} {s1 : Int32} (hT : HT H) (hL : LG L [(0, .ref 3000000), (1, .ref 0), (2, .ref 78), (3, .ref 578), (4, .int i)]) (h : Pn (some xs) m 373 1420 L [.int s1] H r H') : ∃ L', LG L' [(0, .ref 3000000), (1, .ref 0), (2, .ref 78), (3, .ref 578), (4, .int (i + Int32.ofInt 6))] ∧ Pn (some xs) m 373 23 L' [] H r H' := by
  obtain ⟨g0, g1, g2, g3, g4, -⟩ := hL
  have h : Pn (some xs) m 373 1421 L [] H r H' := pnA h at_373_1420 rfl rfl
  have h : Pn (some xs) m 373 2107 L [] H r H' := pnA h at_373_1421 rfl rfl
  have h : Pn (some xs) m 373 2110 (mjSt 4 (.int (i + Int32.ofInt 6)) L) [] H r H' := pnInc g4 h at_373_2107
  have g0 : mjGet (mjSt 4 (.int (i + Int32.ofInt 6)) L) 0 = some (.ref 3000000) := gt_ne g0 (by decide) rfl
  have g1 : mjGet (mjSt 4 (.int (i + Int32.ofInt 6)) L) 1 = some (.ref 0) := gt_ne g1 (by decide) rfl
  have g2 : mjGet (mjSt 4 (.int (i + Int32.ofInt 6)) L) 2 = some (.ref 78) := gt_ne g2 (by decide) rfl
  have g3 : mjGet (mjSt 4 (.int (i + Int32.ofInt 6)) L) 3 = some (.ref 578) := gt_ne g3 (by decide) rfl
  have g4 : mjGet (mjSt 4 (.int (i + Int32.ofInt 6)) L) 4 = some (.int (i + Int32.ofInt 6)) := gt_eq
  have h : Pn (some xs) m 373 23 (mjSt 4 (.int (i + Int32.ofInt 6)) L) [] H r H' := pnA h at_373_2110 rfl rfl
  exact ⟨_, ⟨g0, g1, g2, g3, g4, trivial⟩, h⟩
theorem at_373_1424 : mjAtI 373 1424 = some (.aload_n 1, 1, 0, 0, 0) := by decide +kernel
theorem at_373_1425 : mjAtI 373 1425 = some (.aload_n 0, 1, 0, 0, 0) := by decide +kernel
theorem at_373_1426 : mjAtI 373 1426 = some (.iload 4, 2, 0, 0, 0) := by decide +kernel
theorem at_373_1428 : mjAtI 373 1428 = some (.iconst 1, 1, 0, 0, 0) := by decide +kernel
theorem at_373_1429 : mjAtI 373 1429 = some (.iadd, 1, 0, 0, 0) := by decide +kernel
theorem at_373_1430 : mjAtI 373 1430 = some (.iaload, 1, 0, 0, 0) := by decide +kernel
theorem at_373_1431 : mjAtI 373 1431 = some (.aload_n 0, 1, 0, 0, 0) := by decide +kernel
theorem at_373_1432 : mjAtI 373 1432 = some (.iload 4, 2, 0, 0, 0) := by decide +kernel
theorem at_373_1434 : mjAtI 373 1434 = some (.iconst 2, 1, 0, 0, 0) := by decide +kernel
theorem at_373_1435 : mjAtI 373 1435 = some (.iadd, 1, 0, 0, 0) := by decide +kernel
theorem at_373_1436 : mjAtI 373 1436 = some (.iaload, 1, 0, 0, 0) := by decide +kernel
theorem at_373_1437 : mjAtI 373 1437 = some (.aload_n 3, 1, 0, 0, 0) := by decide +kernel
theorem at_373_1438 : mjAtI 373 1438 = some (.invokestatic 283, 3, 357, 1, 1400) := by decide +kernel
theorem kc_373_1438 : kCall (.invokestatic 283) 357 373 = true ∧ kArg 357 = 4 := by decide +kernel
theorem la_35 {m : Nat} {L : mjL} {H H' : mjH} {r : Option Value ⊕ Nat} {xs : List Int32} {i : Int32} (hT : HT H) (hL : LG L [(0, .ref 3000000), (1, .ref 0), (2, .ref 78), (3, .ref 578), (4, .int i)]) (h : Pn (some xs) m 373 1424 L [] H r H') : ∃ y0, (¬ (i + (Int32.ofInt 1)) < 0 ∧ xs[(i + (Int32.ofInt 1)).toNatClampNeg]? = some y0) ∧ ∃ y1, (¬ (i + (Int32.ofInt 2)) < 0 ∧ xs[(i + (Int32.ofInt 2)).toNatClampNeg]? = some y1) ∧ ∃ L', LG L' [(0, .ref 3000000), (1, .ref 0), (2, .ref 78), (3, .ref 578), (4, .int i)] ∧ ∃ r2 H2, Pn none m 357 0 [(0, .ref 0), (1, .int y0), (2, .int y1), (3, .ref 578)] [] H r2 H2 ∧ ((∃ cv, r2 = .inl cv ∧ Pn (some xs) m 373 1441 L' (cv.toList ++ []) H2 r H') ∨ (∃ E, r2 = .inr E ∧ r = .inr E ∧ H' = H2)) := by
  obtain ⟨g0, g1, g2, g3, g4, -⟩ := hL
  have h : Pn (some xs) m 373 1425 L [.ref 0] H r H' := pnLrn g1 h at_373_1424
  have h : Pn (some xs) m 373 1426 L [.ref 3000000, .ref 0] H r H' := pnLrn g0 h at_373_1425
  have h : Pn (some xs) m 373 1428 L [.int i, .ref 3000000, .ref 0] H r H' := pnLi g4 h at_373_1426
  have h : Pn (some xs) m 373 1429 L [.int (Int32.ofInt 1), .int i, .ref 3000000, .ref 0] H r H' := pnA h at_373_1428 rfl rfl
  have h : Pn (some xs) m 373 1430 L [.int (i + (Int32.ofInt 1)), .ref 3000000, .ref 0] H r H' := pnA h at_373_1429 rfl rfl
  obtain ⟨y0, zy0, h⟩ := pnSa h at_373_1430
  have h : Pn (some xs) m 373 1431 L [.int y0, .ref 0] H r H' := h
  refine ⟨y0, zy0, ?_⟩
  have h : Pn (some xs) m 373 1432 L [.ref 3000000, .int y0, .ref 0] H r H' := pnLrn g0 h at_373_1431
  have h : Pn (some xs) m 373 1434 L [.int i, .ref 3000000, .int y0, .ref 0] H r H' := pnLi g4 h at_373_1432
  have h : Pn (some xs) m 373 1435 L [.int (Int32.ofInt 2), .int i, .ref 3000000, .int y0, .ref 0] H r H' := pnA h at_373_1434 rfl rfl
  have h : Pn (some xs) m 373 1436 L [.int (i + (Int32.ofInt 2)), .ref 3000000, .int y0, .ref 0] H r H' := pnA h at_373_1435 rfl rfl
  obtain ⟨y1, zy1, h⟩ := pnSa h at_373_1436
  have h : Pn (some xs) m 373 1437 L [.int y1, .int y0, .ref 0] H r H' := h
  refine ⟨y1, zy1, ?_⟩
  have h : Pn (some xs) m 373 1438 L [.ref 578, .int y1, .int y0, .ref 0] H r H' := pnLrn g3 h at_373_1437
  obtain ⟨r2, H2, q, h⟩ := pnC h at_373_1438 kc_373_1438.1 kc_373_1438.2 (as := [.ref 0, .int y0, .int y1, .ref 578]) (rest := []) rfl
  have q : Pn none m 357 0 [(0, .ref 0), (1, .int y0), (2, .int y1), (3, .ref 578)] [] H r2 H2 := q
  exact ⟨_, ⟨g0, g1, g2, g3, g4, trivial⟩, r2, H2, q, h⟩
theorem at_373_1441 : mjAtI 373 1441 = some (.istore 5, 2, 0, 0, 0) := by decide +kernel
theorem at_373_1443 : mjAtI 373 1443 = some (.aload_n 2, 1, 0, 0, 0) := by decide +kernel
theorem at_373_1444 : mjAtI 373 1444 = some (.aload_n 0, 1, 0, 0, 0) := by decide +kernel
theorem at_373_1445 : mjAtI 373 1445 = some (.iload 4, 2, 0, 0, 0) := by decide +kernel
theorem at_373_1447 : mjAtI 373 1447 = some (.iconst 1, 1, 0, 0, 0) := by decide +kernel
theorem at_373_1448 : mjAtI 373 1448 = some (.iadd, 1, 0, 0, 0) := by decide +kernel
theorem at_373_1449 : mjAtI 373 1449 = some (.iaload, 1, 0, 0, 0) := by decide +kernel
theorem at_373_1450 : mjAtI 373 1450 = some (.aload_n 0, 1, 0, 0, 0) := by decide +kernel
theorem at_373_1451 : mjAtI 373 1451 = some (.iload 4, 2, 0, 0, 0) := by decide +kernel
theorem at_373_1453 : mjAtI 373 1453 = some (.iconst 2, 1, 0, 0, 0) := by decide +kernel
theorem at_373_1454 : mjAtI 373 1454 = some (.iadd, 1, 0, 0, 0) := by decide +kernel
theorem at_373_1455 : mjAtI 373 1455 = some (.iaload, 1, 0, 0, 0) := by decide +kernel
theorem at_373_1456 : mjAtI 373 1456 = some (.invokevirtual 285, 3, 315, 0, 2264) := by decide +kernel
theorem kc_373_1456 : kCall (.invokevirtual 285) 315 373 = true ∧ kArg 315 = 3 := by decide +kernel
theorem lb_35 {m : Nat} {L : mjL} {H H' : mjH} {r : Option Value ⊕ Nat} {xs : List Int32} {i : Int32} {s0 : Int32} (hT : HT H) (hL : LG L [(0, .ref 3000000), (1, .ref 0), (2, .ref 78), (3, .ref 578), (4, .int i)]) (h : Pn (some xs) m 373 1441 L [.int s0] H r H') : ∃ y0, (¬ (i + (Int32.ofInt 1)) < 0 ∧ xs[(i + (Int32.ofInt 1)).toNatClampNeg]? = some y0) ∧ ∃ y1, (¬ (i + (Int32.ofInt 2)) < 0 ∧ xs[(i + (Int32.ofInt 2)).toNatClampNeg]? = some y1) ∧ ∃ L', LG L' [(0, .ref 3000000), (1, .ref 0), (2, .ref 78), (3, .ref 578), (4, .int i)] ∧ ∃ r2 H2, Pn none m 315 0 [(0, .ref 78), (1, .int y0), (2, .int y1)] [] H r2 H2 ∧ ((∃ cv, r2 = .inl cv ∧ Pn (some xs) m 373 1459 L' (cv.toList ++ []) H2 r H') ∨ (∃ E, r2 = .inr E ∧ r = .inr E ∧ H' = H2)) := by
  obtain ⟨g0, g1, g2, g3, g4, -⟩ := hL
  have h : Pn (some xs) m 373 1443 (mjSt 5 (.int s0) L) [] H r H' := pnA h at_373_1441 rfl rfl
  have g0 : mjGet (mjSt 5 (.int s0) L) 0 = some (.ref 3000000) := gt_ne g0 (by decide) rfl
  have g1 : mjGet (mjSt 5 (.int s0) L) 1 = some (.ref 0) := gt_ne g1 (by decide) rfl
  have g2 : mjGet (mjSt 5 (.int s0) L) 2 = some (.ref 78) := gt_ne g2 (by decide) rfl
  have g3 : mjGet (mjSt 5 (.int s0) L) 3 = some (.ref 578) := gt_ne g3 (by decide) rfl
  have g4 : mjGet (mjSt 5 (.int s0) L) 4 = some (.int i) := gt_ne g4 (by decide) rfl
  have g5 : mjGet (mjSt 5 (.int s0) L) 5 = some (.int s0) := gt_eq
  have h : Pn (some xs) m 373 1444 (mjSt 5 (.int s0) L) [.ref 78] H r H' := pnLrn g2 h at_373_1443
  have h : Pn (some xs) m 373 1445 (mjSt 5 (.int s0) L) [.ref 3000000, .ref 78] H r H' := pnLrn g0 h at_373_1444
  have h : Pn (some xs) m 373 1447 (mjSt 5 (.int s0) L) [.int i, .ref 3000000, .ref 78] H r H' := pnLi g4 h at_373_1445
  have h : Pn (some xs) m 373 1448 (mjSt 5 (.int s0) L) [.int (Int32.ofInt 1), .int i, .ref 3000000, .ref 78] H r H' := pnA h at_373_1447 rfl rfl
  have h : Pn (some xs) m 373 1449 (mjSt 5 (.int s0) L) [.int (i + (Int32.ofInt 1)), .ref 3000000, .ref 78] H r H' := pnA h at_373_1448 rfl rfl
  obtain ⟨y0, zy0, h⟩ := pnSa h at_373_1449
  have h : Pn (some xs) m 373 1450 (mjSt 5 (.int s0) L) [.int y0, .ref 78] H r H' := h
  refine ⟨y0, zy0, ?_⟩
  have h : Pn (some xs) m 373 1451 (mjSt 5 (.int s0) L) [.ref 3000000, .int y0, .ref 78] H r H' := pnLrn g0 h at_373_1450
  have h : Pn (some xs) m 373 1453 (mjSt 5 (.int s0) L) [.int i, .ref 3000000, .int y0, .ref 78] H r H' := pnLi g4 h at_373_1451
  have h : Pn (some xs) m 373 1454 (mjSt 5 (.int s0) L) [.int (Int32.ofInt 2), .int i, .ref 3000000, .int y0, .ref 78] H r H' := pnA h at_373_1453 rfl rfl
  have h : Pn (some xs) m 373 1455 (mjSt 5 (.int s0) L) [.int (i + (Int32.ofInt 2)), .ref 3000000, .int y0, .ref 78] H r H' := pnA h at_373_1454 rfl rfl
  obtain ⟨y1, zy1, h⟩ := pnSa h at_373_1455
  have h : Pn (some xs) m 373 1456 (mjSt 5 (.int s0) L) [.int y1, .int y0, .ref 78] H r H' := h
  refine ⟨y1, zy1, ?_⟩
  obtain ⟨r2, H2, q, h⟩ := pnC h at_373_1456 kc_373_1456.1 kc_373_1456.2 (as := [.ref 78, .int y0, .int y1]) (rest := []) rfl
  have q : Pn none m 315 0 [(0, .ref 78), (1, .int y0), (2, .int y1)] [] H r2 H2 := q
  exact ⟨_, ⟨g0, g1, g2, g3, g4, trivial⟩, r2, H2, q, h⟩
theorem at_373_1459 : mjAtI 373 1459 = some (.istore 6, 2, 0, 0, 0) := by decide +kernel
theorem at_373_1461 : mjAtI 373 1461 = some (.goto 646, 3, 0, 2107, 0) := by decide +kernel
theorem lc_35 {m : Nat} {L : mjL} {H H' : mjH} {r : Option Value ⊕ Nat} {xs : List Int32} {i : Int32} {s1 : Int32} (hT : HT H) (hL : LG L [(0, .ref 3000000), (1, .ref 0), (2, .ref 78), (3, .ref 578), (4, .int i)]) (h : Pn (some xs) m 373 1459 L [.int s1] H r H') : ∃ L', LG L' [(0, .ref 3000000), (1, .ref 0), (2, .ref 78), (3, .ref 578), (4, .int (i + Int32.ofInt 6))] ∧ Pn (some xs) m 373 23 L' [] H r H' := by
  obtain ⟨g0, g1, g2, g3, g4, -⟩ := hL
  have h : Pn (some xs) m 373 1461 (mjSt 6 (.int s1) L) [] H r H' := pnA h at_373_1459 rfl rfl
  have g0 : mjGet (mjSt 6 (.int s1) L) 0 = some (.ref 3000000) := gt_ne g0 (by decide) rfl
  have g1 : mjGet (mjSt 6 (.int s1) L) 1 = some (.ref 0) := gt_ne g1 (by decide) rfl
  have g2 : mjGet (mjSt 6 (.int s1) L) 2 = some (.ref 78) := gt_ne g2 (by decide) rfl
  have g3 : mjGet (mjSt 6 (.int s1) L) 3 = some (.ref 578) := gt_ne g3 (by decide) rfl
  have g4 : mjGet (mjSt 6 (.int s1) L) 4 = some (.int i) := gt_ne g4 (by decide) rfl
  have g6 : mjGet (mjSt 6 (.int s1) L) 6 = some (.int s1) := gt_eq
  have h : Pn (some xs) m 373 2107 (mjSt 6 (.int s1) L) [] H r H' := pnA h at_373_1461 rfl rfl
  have h : Pn (some xs) m 373 2110 (mjSt 4 (.int (i + Int32.ofInt 6)) (mjSt 6 (.int s1) L)) [] H r H' := pnInc g4 h at_373_2107
  have g0 : mjGet (mjSt 4 (.int (i + Int32.ofInt 6)) (mjSt 6 (.int s1) L)) 0 = some (.ref 3000000) := gt_ne g0 (by decide) rfl
  have g1 : mjGet (mjSt 4 (.int (i + Int32.ofInt 6)) (mjSt 6 (.int s1) L)) 1 = some (.ref 0) := gt_ne g1 (by decide) rfl
  have g2 : mjGet (mjSt 4 (.int (i + Int32.ofInt 6)) (mjSt 6 (.int s1) L)) 2 = some (.ref 78) := gt_ne g2 (by decide) rfl
  have g3 : mjGet (mjSt 4 (.int (i + Int32.ofInt 6)) (mjSt 6 (.int s1) L)) 3 = some (.ref 578) := gt_ne g3 (by decide) rfl
  have g6 : mjGet (mjSt 4 (.int (i + Int32.ofInt 6)) (mjSt 6 (.int s1) L)) 6 = some (.int s1) := gt_ne g6 (by decide) rfl
  have g4 : mjGet (mjSt 4 (.int (i + Int32.ofInt 6)) (mjSt 6 (.int s1) L)) 4 = some (.int (i + Int32.ofInt 6)) := gt_eq
  have h : Pn (some xs) m 373 23 (mjSt 4 (.int (i + Int32.ofInt 6)) (mjSt 6 (.int s1) L)) [] H r H' := pnA h at_373_2110 rfl rfl
  exact ⟨_, ⟨g0, g1, g2, g3, g4, trivial⟩, h⟩
theorem at_373_1464 : mjAtI 373 1464 = some (.aload_n 1, 1, 0, 0, 0) := by decide +kernel
theorem at_373_1465 : mjAtI 373 1465 = some (.aload_n 0, 1, 0, 0, 0) := by decide +kernel
theorem at_373_1466 : mjAtI 373 1466 = some (.iload 4, 2, 0, 0, 0) := by decide +kernel
theorem at_373_1468 : mjAtI 373 1468 = some (.iconst 1, 1, 0, 0, 0) := by decide +kernel
theorem at_373_1469 : mjAtI 373 1469 = some (.iadd, 1, 0, 0, 0) := by decide +kernel
theorem at_373_1470 : mjAtI 373 1470 = some (.iaload, 1, 0, 0, 0) := by decide +kernel
theorem at_373_1471 : mjAtI 373 1471 = some (.aload_n 3, 1, 0, 0, 0) := by decide +kernel
theorem at_373_1472 : mjAtI 373 1472 = some (.invokestatic 286, 3, 358, 1, 1411) := by decide +kernel
theorem kc_373_1472 : kCall (.invokestatic 286) 358 373 = true ∧ kArg 358 = 3 := by decide +kernel
theorem la_36 {m : Nat} {L : mjL} {H H' : mjH} {r : Option Value ⊕ Nat} {xs : List Int32} {i : Int32} (hT : HT H) (hL : LG L [(0, .ref 3000000), (1, .ref 0), (2, .ref 78), (3, .ref 578), (4, .int i)]) (h : Pn (some xs) m 373 1464 L [] H r H') : ∃ y0, (¬ (i + (Int32.ofInt 1)) < 0 ∧ xs[(i + (Int32.ofInt 1)).toNatClampNeg]? = some y0) ∧ ∃ L', LG L' [(0, .ref 3000000), (1, .ref 0), (2, .ref 78), (3, .ref 578), (4, .int i)] ∧ ∃ r2 H2, Pn none m 358 0 [(0, .ref 0), (1, .int y0), (2, .ref 578)] [] H r2 H2 ∧ ((∃ cv, r2 = .inl cv ∧ Pn (some xs) m 373 1475 L' (cv.toList ++ []) H2 r H') ∨ (∃ E, r2 = .inr E ∧ r = .inr E ∧ H' = H2)) := by
  obtain ⟨g0, g1, g2, g3, g4, -⟩ := hL
  have h : Pn (some xs) m 373 1465 L [.ref 0] H r H' := pnLrn g1 h at_373_1464
  have h : Pn (some xs) m 373 1466 L [.ref 3000000, .ref 0] H r H' := pnLrn g0 h at_373_1465
  have h : Pn (some xs) m 373 1468 L [.int i, .ref 3000000, .ref 0] H r H' := pnLi g4 h at_373_1466
  have h : Pn (some xs) m 373 1469 L [.int (Int32.ofInt 1), .int i, .ref 3000000, .ref 0] H r H' := pnA h at_373_1468 rfl rfl
  have h : Pn (some xs) m 373 1470 L [.int (i + (Int32.ofInt 1)), .ref 3000000, .ref 0] H r H' := pnA h at_373_1469 rfl rfl
  obtain ⟨y0, zy0, h⟩ := pnSa h at_373_1470
  have h : Pn (some xs) m 373 1471 L [.int y0, .ref 0] H r H' := h
  refine ⟨y0, zy0, ?_⟩
  have h : Pn (some xs) m 373 1472 L [.ref 578, .int y0, .ref 0] H r H' := pnLrn g3 h at_373_1471
  obtain ⟨r2, H2, q, h⟩ := pnC h at_373_1472 kc_373_1472.1 kc_373_1472.2 (as := [.ref 0, .int y0, .ref 578]) (rest := []) rfl
  have q : Pn none m 358 0 [(0, .ref 0), (1, .int y0), (2, .ref 578)] [] H r2 H2 := q
  exact ⟨_, ⟨g0, g1, g2, g3, g4, trivial⟩, r2, H2, q, h⟩
theorem at_373_1475 : mjAtI 373 1475 = some (.istore 5, 2, 0, 0, 0) := by decide +kernel
theorem at_373_1477 : mjAtI 373 1477 = some (.aload_n 2, 1, 0, 0, 0) := by decide +kernel
theorem at_373_1478 : mjAtI 373 1478 = some (.aload_n 0, 1, 0, 0, 0) := by decide +kernel
theorem at_373_1479 : mjAtI 373 1479 = some (.iload 4, 2, 0, 0, 0) := by decide +kernel
theorem at_373_1481 : mjAtI 373 1481 = some (.iconst 1, 1, 0, 0, 0) := by decide +kernel
theorem at_373_1482 : mjAtI 373 1482 = some (.iadd, 1, 0, 0, 0) := by decide +kernel
theorem at_373_1483 : mjAtI 373 1483 = some (.iaload, 1, 0, 0, 0) := by decide +kernel
theorem at_373_1484 : mjAtI 373 1484 = some (.invokevirtual 288, 3, 316, 0, 2275) := by decide +kernel
theorem kc_373_1484 : kCall (.invokevirtual 288) 316 373 = true ∧ kArg 316 = 2 := by decide +kernel
theorem lb_36 {m : Nat} {L : mjL} {H H' : mjH} {r : Option Value ⊕ Nat} {xs : List Int32} {i : Int32} {s0 : Int32} (hT : HT H) (hL : LG L [(0, .ref 3000000), (1, .ref 0), (2, .ref 78), (3, .ref 578), (4, .int i)]) (h : Pn (some xs) m 373 1475 L [.int s0] H r H') : ∃ y0, (¬ (i + (Int32.ofInt 1)) < 0 ∧ xs[(i + (Int32.ofInt 1)).toNatClampNeg]? = some y0) ∧ ∃ L', LG L' [(0, .ref 3000000), (1, .ref 0), (2, .ref 78), (3, .ref 578), (4, .int i)] ∧ ∃ r2 H2, Pn none m 316 0 [(0, .ref 78), (1, .int y0)] [] H r2 H2 ∧ ((∃ cv, r2 = .inl cv ∧ Pn (some xs) m 373 1487 L' (cv.toList ++ []) H2 r H') ∨ (∃ E, r2 = .inr E ∧ r = .inr E ∧ H' = H2)) := by
  obtain ⟨g0, g1, g2, g3, g4, -⟩ := hL
  have h : Pn (some xs) m 373 1477 (mjSt 5 (.int s0) L) [] H r H' := pnA h at_373_1475 rfl rfl
  have g0 : mjGet (mjSt 5 (.int s0) L) 0 = some (.ref 3000000) := gt_ne g0 (by decide) rfl
  have g1 : mjGet (mjSt 5 (.int s0) L) 1 = some (.ref 0) := gt_ne g1 (by decide) rfl
  have g2 : mjGet (mjSt 5 (.int s0) L) 2 = some (.ref 78) := gt_ne g2 (by decide) rfl
  have g3 : mjGet (mjSt 5 (.int s0) L) 3 = some (.ref 578) := gt_ne g3 (by decide) rfl
  have g4 : mjGet (mjSt 5 (.int s0) L) 4 = some (.int i) := gt_ne g4 (by decide) rfl
  have g5 : mjGet (mjSt 5 (.int s0) L) 5 = some (.int s0) := gt_eq
  have h : Pn (some xs) m 373 1478 (mjSt 5 (.int s0) L) [.ref 78] H r H' := pnLrn g2 h at_373_1477
  have h : Pn (some xs) m 373 1479 (mjSt 5 (.int s0) L) [.ref 3000000, .ref 78] H r H' := pnLrn g0 h at_373_1478
  have h : Pn (some xs) m 373 1481 (mjSt 5 (.int s0) L) [.int i, .ref 3000000, .ref 78] H r H' := pnLi g4 h at_373_1479
  have h : Pn (some xs) m 373 1482 (mjSt 5 (.int s0) L) [.int (Int32.ofInt 1), .int i, .ref 3000000, .ref 78] H r H' := pnA h at_373_1481 rfl rfl
  have h : Pn (some xs) m 373 1483 (mjSt 5 (.int s0) L) [.int (i + (Int32.ofInt 1)), .ref 3000000, .ref 78] H r H' := pnA h at_373_1482 rfl rfl
  obtain ⟨y0, zy0, h⟩ := pnSa h at_373_1483
  have h : Pn (some xs) m 373 1484 (mjSt 5 (.int s0) L) [.int y0, .ref 78] H r H' := h
  refine ⟨y0, zy0, ?_⟩
  obtain ⟨r2, H2, q, h⟩ := pnC h at_373_1484 kc_373_1484.1 kc_373_1484.2 (as := [.ref 78, .int y0]) (rest := []) rfl
  have q : Pn none m 316 0 [(0, .ref 78), (1, .int y0)] [] H r2 H2 := q
  exact ⟨_, ⟨g0, g1, g2, g3, g4, trivial⟩, r2, H2, q, h⟩
theorem at_373_1487 : mjAtI 373 1487 = some (.istore 6, 2, 0, 0, 0) := by decide +kernel
theorem at_373_1489 : mjAtI 373 1489 = some (.goto 618, 3, 0, 2107, 0) := by decide +kernel
theorem lc_36 {m : Nat} {L : mjL} {H H' : mjH} {r : Option Value ⊕ Nat} {xs : List Int32} {i : Int32} {s1 : Int32} (hT : HT H) (hL : LG L [(0, .ref 3000000), (1, .ref 0), (2, .ref 78), (3, .ref 578), (4, .int i)]) (h : Pn (some xs) m 373 1487 L [.int s1] H r H') : ∃ L', LG L' [(0, .ref 3000000), (1, .ref 0), (2, .ref 78), (3, .ref 578), (4, .int (i + Int32.ofInt 6))] ∧ Pn (some xs) m 373 23 L' [] H r H' := by
  obtain ⟨g0, g1, g2, g3, g4, -⟩ := hL
  have h : Pn (some xs) m 373 1489 (mjSt 6 (.int s1) L) [] H r H' := pnA h at_373_1487 rfl rfl
  have g0 : mjGet (mjSt 6 (.int s1) L) 0 = some (.ref 3000000) := gt_ne g0 (by decide) rfl
  have g1 : mjGet (mjSt 6 (.int s1) L) 1 = some (.ref 0) := gt_ne g1 (by decide) rfl
  have g2 : mjGet (mjSt 6 (.int s1) L) 2 = some (.ref 78) := gt_ne g2 (by decide) rfl
  have g3 : mjGet (mjSt 6 (.int s1) L) 3 = some (.ref 578) := gt_ne g3 (by decide) rfl
  have g4 : mjGet (mjSt 6 (.int s1) L) 4 = some (.int i) := gt_ne g4 (by decide) rfl
  have g6 : mjGet (mjSt 6 (.int s1) L) 6 = some (.int s1) := gt_eq
  have h : Pn (some xs) m 373 2107 (mjSt 6 (.int s1) L) [] H r H' := pnA h at_373_1489 rfl rfl
  have h : Pn (some xs) m 373 2110 (mjSt 4 (.int (i + Int32.ofInt 6)) (mjSt 6 (.int s1) L)) [] H r H' := pnInc g4 h at_373_2107
  have g0 : mjGet (mjSt 4 (.int (i + Int32.ofInt 6)) (mjSt 6 (.int s1) L)) 0 = some (.ref 3000000) := gt_ne g0 (by decide) rfl
  have g1 : mjGet (mjSt 4 (.int (i + Int32.ofInt 6)) (mjSt 6 (.int s1) L)) 1 = some (.ref 0) := gt_ne g1 (by decide) rfl
  have g2 : mjGet (mjSt 4 (.int (i + Int32.ofInt 6)) (mjSt 6 (.int s1) L)) 2 = some (.ref 78) := gt_ne g2 (by decide) rfl
  have g3 : mjGet (mjSt 4 (.int (i + Int32.ofInt 6)) (mjSt 6 (.int s1) L)) 3 = some (.ref 578) := gt_ne g3 (by decide) rfl
  have g6 : mjGet (mjSt 4 (.int (i + Int32.ofInt 6)) (mjSt 6 (.int s1) L)) 6 = some (.int s1) := gt_ne g6 (by decide) rfl
  have g4 : mjGet (mjSt 4 (.int (i + Int32.ofInt 6)) (mjSt 6 (.int s1) L)) 4 = some (.int (i + Int32.ofInt 6)) := gt_eq
  have h : Pn (some xs) m 373 23 (mjSt 4 (.int (i + Int32.ofInt 6)) (mjSt 6 (.int s1) L)) [] H r H' := pnA h at_373_2110 rfl rfl
  exact ⟨_, ⟨g0, g1, g2, g3, g4, trivial⟩, h⟩
theorem at_373_1492 : mjAtI 373 1492 = some (.aload_n 1, 1, 0, 0, 0) := by decide +kernel
theorem at_373_1493 : mjAtI 373 1493 = some (.aload_n 0, 1, 0, 0, 0) := by decide +kernel
theorem at_373_1494 : mjAtI 373 1494 = some (.iload 4, 2, 0, 0, 0) := by decide +kernel
theorem at_373_1496 : mjAtI 373 1496 = some (.iconst 1, 1, 0, 0, 0) := by decide +kernel
theorem at_373_1497 : mjAtI 373 1497 = some (.iadd, 1, 0, 0, 0) := by decide +kernel
theorem at_373_1498 : mjAtI 373 1498 = some (.iaload, 1, 0, 0, 0) := by decide +kernel
theorem at_373_1499 : mjAtI 373 1499 = some (.aload_n 3, 1, 0, 0, 0) := by decide +kernel
theorem at_373_1500 : mjAtI 373 1500 = some (.invokestatic 289, 3, 359, 1, 1418) := by decide +kernel
theorem kc_373_1500 : kCall (.invokestatic 289) 359 373 = true ∧ kArg 359 = 3 := by decide +kernel
theorem la_37 {m : Nat} {L : mjL} {H H' : mjH} {r : Option Value ⊕ Nat} {xs : List Int32} {i : Int32} (hT : HT H) (hL : LG L [(0, .ref 3000000), (1, .ref 0), (2, .ref 78), (3, .ref 578), (4, .int i)]) (h : Pn (some xs) m 373 1492 L [] H r H') : ∃ y0, (¬ (i + (Int32.ofInt 1)) < 0 ∧ xs[(i + (Int32.ofInt 1)).toNatClampNeg]? = some y0) ∧ ∃ L', LG L' [(0, .ref 3000000), (1, .ref 0), (2, .ref 78), (3, .ref 578), (4, .int i)] ∧ ∃ r2 H2, Pn none m 359 0 [(0, .ref 0), (1, .int y0), (2, .ref 578)] [] H r2 H2 ∧ ((∃ cv, r2 = .inl cv ∧ Pn (some xs) m 373 1503 L' (cv.toList ++ []) H2 r H') ∨ (∃ E, r2 = .inr E ∧ r = .inr E ∧ H' = H2)) := by
  obtain ⟨g0, g1, g2, g3, g4, -⟩ := hL
  have h : Pn (some xs) m 373 1493 L [.ref 0] H r H' := pnLrn g1 h at_373_1492
  have h : Pn (some xs) m 373 1494 L [.ref 3000000, .ref 0] H r H' := pnLrn g0 h at_373_1493
  have h : Pn (some xs) m 373 1496 L [.int i, .ref 3000000, .ref 0] H r H' := pnLi g4 h at_373_1494
  have h : Pn (some xs) m 373 1497 L [.int (Int32.ofInt 1), .int i, .ref 3000000, .ref 0] H r H' := pnA h at_373_1496 rfl rfl
  have h : Pn (some xs) m 373 1498 L [.int (i + (Int32.ofInt 1)), .ref 3000000, .ref 0] H r H' := pnA h at_373_1497 rfl rfl
  obtain ⟨y0, zy0, h⟩ := pnSa h at_373_1498
  have h : Pn (some xs) m 373 1499 L [.int y0, .ref 0] H r H' := h
  refine ⟨y0, zy0, ?_⟩
  have h : Pn (some xs) m 373 1500 L [.ref 578, .int y0, .ref 0] H r H' := pnLrn g3 h at_373_1499
  obtain ⟨r2, H2, q, h⟩ := pnC h at_373_1500 kc_373_1500.1 kc_373_1500.2 (as := [.ref 0, .int y0, .ref 578]) (rest := []) rfl
  have q : Pn none m 359 0 [(0, .ref 0), (1, .int y0), (2, .ref 578)] [] H r2 H2 := q
  exact ⟨_, ⟨g0, g1, g2, g3, g4, trivial⟩, r2, H2, q, h⟩
theorem at_373_1503 : mjAtI 373 1503 = some (.istore 5, 2, 0, 0, 0) := by decide +kernel
theorem at_373_1505 : mjAtI 373 1505 = some (.aload_n 2, 1, 0, 0, 0) := by decide +kernel
theorem at_373_1506 : mjAtI 373 1506 = some (.aload_n 0, 1, 0, 0, 0) := by decide +kernel
theorem at_373_1507 : mjAtI 373 1507 = some (.iload 4, 2, 0, 0, 0) := by decide +kernel
theorem at_373_1509 : mjAtI 373 1509 = some (.iconst 1, 1, 0, 0, 0) := by decide +kernel
theorem at_373_1510 : mjAtI 373 1510 = some (.iadd, 1, 0, 0, 0) := by decide +kernel
theorem at_373_1511 : mjAtI 373 1511 = some (.iaload, 1, 0, 0, 0) := by decide +kernel
theorem at_373_1512 : mjAtI 373 1512 = some (.invokevirtual 291, 3, 281, 0, 2130) := by decide +kernel
theorem kc_373_1512 : kCall (.invokevirtual 291) 281 373 = true ∧ kArg 281 = 2 := by decide +kernel
theorem lb_37 {m : Nat} {L : mjL} {H H' : mjH} {r : Option Value ⊕ Nat} {xs : List Int32} {i : Int32} {s0 : Int32} (hT : HT H) (hL : LG L [(0, .ref 3000000), (1, .ref 0), (2, .ref 78), (3, .ref 578), (4, .int i)]) (h : Pn (some xs) m 373 1503 L [.int s0] H r H') : ∃ y0, (¬ (i + (Int32.ofInt 1)) < 0 ∧ xs[(i + (Int32.ofInt 1)).toNatClampNeg]? = some y0) ∧ ∃ L', LG L' [(0, .ref 3000000), (1, .ref 0), (2, .ref 78), (3, .ref 578), (4, .int i)] ∧ ∃ r2 H2, Pn none m 281 0 [(0, .ref 78), (1, .int y0)] [] H r2 H2 ∧ ((∃ cv, r2 = .inl cv ∧ Pn (some xs) m 373 1515 L' (cv.toList ++ []) H2 r H') ∨ (∃ E, r2 = .inr E ∧ r = .inr E ∧ H' = H2)) := by
  obtain ⟨g0, g1, g2, g3, g4, -⟩ := hL
  have h : Pn (some xs) m 373 1505 (mjSt 5 (.int s0) L) [] H r H' := pnA h at_373_1503 rfl rfl
  have g0 : mjGet (mjSt 5 (.int s0) L) 0 = some (.ref 3000000) := gt_ne g0 (by decide) rfl
  have g1 : mjGet (mjSt 5 (.int s0) L) 1 = some (.ref 0) := gt_ne g1 (by decide) rfl
  have g2 : mjGet (mjSt 5 (.int s0) L) 2 = some (.ref 78) := gt_ne g2 (by decide) rfl
  have g3 : mjGet (mjSt 5 (.int s0) L) 3 = some (.ref 578) := gt_ne g3 (by decide) rfl
  have g4 : mjGet (mjSt 5 (.int s0) L) 4 = some (.int i) := gt_ne g4 (by decide) rfl
  have g5 : mjGet (mjSt 5 (.int s0) L) 5 = some (.int s0) := gt_eq
  have h : Pn (some xs) m 373 1506 (mjSt 5 (.int s0) L) [.ref 78] H r H' := pnLrn g2 h at_373_1505
  have h : Pn (some xs) m 373 1507 (mjSt 5 (.int s0) L) [.ref 3000000, .ref 78] H r H' := pnLrn g0 h at_373_1506
  have h : Pn (some xs) m 373 1509 (mjSt 5 (.int s0) L) [.int i, .ref 3000000, .ref 78] H r H' := pnLi g4 h at_373_1507
  have h : Pn (some xs) m 373 1510 (mjSt 5 (.int s0) L) [.int (Int32.ofInt 1), .int i, .ref 3000000, .ref 78] H r H' := pnA h at_373_1509 rfl rfl
  have h : Pn (some xs) m 373 1511 (mjSt 5 (.int s0) L) [.int (i + (Int32.ofInt 1)), .ref 3000000, .ref 78] H r H' := pnA h at_373_1510 rfl rfl
  obtain ⟨y0, zy0, h⟩ := pnSa h at_373_1511
  have h : Pn (some xs) m 373 1512 (mjSt 5 (.int s0) L) [.int y0, .ref 78] H r H' := h
  refine ⟨y0, zy0, ?_⟩
  obtain ⟨r2, H2, q, h⟩ := pnC h at_373_1512 kc_373_1512.1 kc_373_1512.2 (as := [.ref 78, .int y0]) (rest := []) rfl
  have q : Pn none m 281 0 [(0, .ref 78), (1, .int y0)] [] H r2 H2 := q
  exact ⟨_, ⟨g0, g1, g2, g3, g4, trivial⟩, r2, H2, q, h⟩
theorem at_373_1515 : mjAtI 373 1515 = some (.istore 6, 2, 0, 0, 0) := by decide +kernel
theorem at_373_1517 : mjAtI 373 1517 = some (.goto 590, 3, 0, 2107, 0) := by decide +kernel
theorem lc_37 {m : Nat} {L : mjL} {H H' : mjH} {r : Option Value ⊕ Nat} {xs : List Int32} {i : Int32} {s1 : Int32} (hT : HT H) (hL : LG L [(0, .ref 3000000), (1, .ref 0), (2, .ref 78), (3, .ref 578), (4, .int i)]) (h : Pn (some xs) m 373 1515 L [.int s1] H r H') : ∃ L', LG L' [(0, .ref 3000000), (1, .ref 0), (2, .ref 78), (3, .ref 578), (4, .int (i + Int32.ofInt 6))] ∧ Pn (some xs) m 373 23 L' [] H r H' := by
  obtain ⟨g0, g1, g2, g3, g4, -⟩ := hL
  have h : Pn (some xs) m 373 1517 (mjSt 6 (.int s1) L) [] H r H' := pnA h at_373_1515 rfl rfl
  have g0 : mjGet (mjSt 6 (.int s1) L) 0 = some (.ref 3000000) := gt_ne g0 (by decide) rfl
  have g1 : mjGet (mjSt 6 (.int s1) L) 1 = some (.ref 0) := gt_ne g1 (by decide) rfl
  have g2 : mjGet (mjSt 6 (.int s1) L) 2 = some (.ref 78) := gt_ne g2 (by decide) rfl
  have g3 : mjGet (mjSt 6 (.int s1) L) 3 = some (.ref 578) := gt_ne g3 (by decide) rfl
  have g4 : mjGet (mjSt 6 (.int s1) L) 4 = some (.int i) := gt_ne g4 (by decide) rfl
  have g6 : mjGet (mjSt 6 (.int s1) L) 6 = some (.int s1) := gt_eq
  have h : Pn (some xs) m 373 2107 (mjSt 6 (.int s1) L) [] H r H' := pnA h at_373_1517 rfl rfl
  have h : Pn (some xs) m 373 2110 (mjSt 4 (.int (i + Int32.ofInt 6)) (mjSt 6 (.int s1) L)) [] H r H' := pnInc g4 h at_373_2107
  have g0 : mjGet (mjSt 4 (.int (i + Int32.ofInt 6)) (mjSt 6 (.int s1) L)) 0 = some (.ref 3000000) := gt_ne g0 (by decide) rfl
  have g1 : mjGet (mjSt 4 (.int (i + Int32.ofInt 6)) (mjSt 6 (.int s1) L)) 1 = some (.ref 0) := gt_ne g1 (by decide) rfl
  have g2 : mjGet (mjSt 4 (.int (i + Int32.ofInt 6)) (mjSt 6 (.int s1) L)) 2 = some (.ref 78) := gt_ne g2 (by decide) rfl
  have g3 : mjGet (mjSt 4 (.int (i + Int32.ofInt 6)) (mjSt 6 (.int s1) L)) 3 = some (.ref 578) := gt_ne g3 (by decide) rfl
  have g6 : mjGet (mjSt 4 (.int (i + Int32.ofInt 6)) (mjSt 6 (.int s1) L)) 6 = some (.int s1) := gt_ne g6 (by decide) rfl
  have g4 : mjGet (mjSt 4 (.int (i + Int32.ofInt 6)) (mjSt 6 (.int s1) L)) 4 = some (.int (i + Int32.ofInt 6)) := gt_eq
  have h : Pn (some xs) m 373 23 (mjSt 4 (.int (i + Int32.ofInt 6)) (mjSt 6 (.int s1) L)) [] H r H' := pnA h at_373_2110 rfl rfl
  exact ⟨_, ⟨g0, g1, g2, g3, g4, trivial⟩, h⟩
theorem at_373_1520 : mjAtI 373 1520 = some (.aload_n 1, 1, 0, 0, 0) := by decide +kernel
theorem at_373_1521 : mjAtI 373 1521 = some (.aload_n 0, 1, 0, 0, 0) := by decide +kernel
theorem at_373_1522 : mjAtI 373 1522 = some (.iload 4, 2, 0, 0, 0) := by decide +kernel
theorem at_373_1524 : mjAtI 373 1524 = some (.iconst 1, 1, 0, 0, 0) := by decide +kernel
theorem at_373_1525 : mjAtI 373 1525 = some (.iadd, 1, 0, 0, 0) := by decide +kernel
theorem at_373_1526 : mjAtI 373 1526 = some (.iaload, 1, 0, 0, 0) := by decide +kernel
theorem at_373_1527 : mjAtI 373 1527 = some (.aload_n 0, 1, 0, 0, 0) := by decide +kernel
theorem at_373_1528 : mjAtI 373 1528 = some (.iload 4, 2, 0, 0, 0) := by decide +kernel
theorem at_373_1530 : mjAtI 373 1530 = some (.iconst 2, 1, 0, 0, 0) := by decide +kernel
theorem at_373_1531 : mjAtI 373 1531 = some (.iadd, 1, 0, 0, 0) := by decide +kernel
theorem at_373_1532 : mjAtI 373 1532 = some (.iaload, 1, 0, 0, 0) := by decide +kernel
theorem at_373_1533 : mjAtI 373 1533 = some (.aload_n 3, 1, 0, 0, 0) := by decide +kernel
theorem at_373_1534 : mjAtI 373 1534 = some (.invokestatic 292, 3, 360, 1, 1425) := by decide +kernel
theorem kc_373_1534 : kCall (.invokestatic 292) 360 373 = true ∧ kArg 360 = 4 := by decide +kernel
theorem la_38 {m : Nat} {L : mjL} {H H' : mjH} {r : Option Value ⊕ Nat} {xs : List Int32} {i : Int32} (hT : HT H) (hL : LG L [(0, .ref 3000000), (1, .ref 0), (2, .ref 78), (3, .ref 578), (4, .int i)]) (h : Pn (some xs) m 373 1520 L [] H r H') : ∃ y0, (¬ (i + (Int32.ofInt 1)) < 0 ∧ xs[(i + (Int32.ofInt 1)).toNatClampNeg]? = some y0) ∧ ∃ y1, (¬ (i + (Int32.ofInt 2)) < 0 ∧ xs[(i + (Int32.ofInt 2)).toNatClampNeg]? = some y1) ∧ ∃ L', LG L' [(0, .ref 3000000), (1, .ref 0), (2, .ref 78), (3, .ref 578), (4, .int i)] ∧ ∃ r2 H2, Pn none m 360 0 [(0, .ref 0), (1, .int y0), (2, .int y1), (3, .ref 578)] [] H r2 H2 ∧ ((∃ cv, r2 = .inl cv ∧ Pn (some xs) m 373 1537 L' (cv.toList ++ []) H2 r H') ∨ (∃ E, r2 = .inr E ∧ r = .inr E ∧ H' = H2)) := by
  obtain ⟨g0, g1, g2, g3, g4, -⟩ := hL
  have h : Pn (some xs) m 373 1521 L [.ref 0] H r H' := pnLrn g1 h at_373_1520
  have h : Pn (some xs) m 373 1522 L [.ref 3000000, .ref 0] H r H' := pnLrn g0 h at_373_1521
  have h : Pn (some xs) m 373 1524 L [.int i, .ref 3000000, .ref 0] H r H' := pnLi g4 h at_373_1522
  have h : Pn (some xs) m 373 1525 L [.int (Int32.ofInt 1), .int i, .ref 3000000, .ref 0] H r H' := pnA h at_373_1524 rfl rfl
  have h : Pn (some xs) m 373 1526 L [.int (i + (Int32.ofInt 1)), .ref 3000000, .ref 0] H r H' := pnA h at_373_1525 rfl rfl
  obtain ⟨y0, zy0, h⟩ := pnSa h at_373_1526
  have h : Pn (some xs) m 373 1527 L [.int y0, .ref 0] H r H' := h
  refine ⟨y0, zy0, ?_⟩
  have h : Pn (some xs) m 373 1528 L [.ref 3000000, .int y0, .ref 0] H r H' := pnLrn g0 h at_373_1527
  have h : Pn (some xs) m 373 1530 L [.int i, .ref 3000000, .int y0, .ref 0] H r H' := pnLi g4 h at_373_1528
  have h : Pn (some xs) m 373 1531 L [.int (Int32.ofInt 2), .int i, .ref 3000000, .int y0, .ref 0] H r H' := pnA h at_373_1530 rfl rfl
  have h : Pn (some xs) m 373 1532 L [.int (i + (Int32.ofInt 2)), .ref 3000000, .int y0, .ref 0] H r H' := pnA h at_373_1531 rfl rfl
  obtain ⟨y1, zy1, h⟩ := pnSa h at_373_1532
  have h : Pn (some xs) m 373 1533 L [.int y1, .int y0, .ref 0] H r H' := h
  refine ⟨y1, zy1, ?_⟩
  have h : Pn (some xs) m 373 1534 L [.ref 578, .int y1, .int y0, .ref 0] H r H' := pnLrn g3 h at_373_1533
  obtain ⟨r2, H2, q, h⟩ := pnC h at_373_1534 kc_373_1534.1 kc_373_1534.2 (as := [.ref 0, .int y0, .int y1, .ref 578]) (rest := []) rfl
  have q : Pn none m 360 0 [(0, .ref 0), (1, .int y0), (2, .int y1), (3, .ref 578)] [] H r2 H2 := q
  exact ⟨_, ⟨g0, g1, g2, g3, g4, trivial⟩, r2, H2, q, h⟩
theorem at_373_1537 : mjAtI 373 1537 = some (.istore 5, 2, 0, 0, 0) := by decide +kernel
theorem at_373_1539 : mjAtI 373 1539 = some (.aload_n 2, 1, 0, 0, 0) := by decide +kernel
theorem at_373_1540 : mjAtI 373 1540 = some (.aload_n 0, 1, 0, 0, 0) := by decide +kernel
theorem at_373_1541 : mjAtI 373 1541 = some (.iload 4, 2, 0, 0, 0) := by decide +kernel
theorem at_373_1543 : mjAtI 373 1543 = some (.iconst 1, 1, 0, 0, 0) := by decide +kernel
theorem at_373_1544 : mjAtI 373 1544 = some (.iadd, 1, 0, 0, 0) := by decide +kernel
theorem at_373_1545 : mjAtI 373 1545 = some (.iaload, 1, 0, 0, 0) := by decide +kernel
theorem at_373_1546 : mjAtI 373 1546 = some (.aload_n 0, 1, 0, 0, 0) := by decide +kernel
theorem at_373_1547 : mjAtI 373 1547 = some (.iload 4, 2, 0, 0, 0) := by decide +kernel
theorem at_373_1549 : mjAtI 373 1549 = some (.iconst 2, 1, 0, 0, 0) := by decide +kernel
theorem at_373_1550 : mjAtI 373 1550 = some (.iadd, 1, 0, 0, 0) := by decide +kernel
theorem at_373_1551 : mjAtI 373 1551 = some (.iaload, 1, 0, 0, 0) := by decide +kernel
theorem at_373_1552 : mjAtI 373 1552 = some (.invokevirtual 294, 3, 297, 0, 2200) := by decide +kernel
theorem kc_373_1552 : kCall (.invokevirtual 294) 297 373 = true ∧ kArg 297 = 3 := by decide +kernel
theorem lb_38 {m : Nat} {L : mjL} {H H' : mjH} {r : Option Value ⊕ Nat} {xs : List Int32} {i : Int32} {s0 : Int32} (hT : HT H) (hL : LG L [(0, .ref 3000000), (1, .ref 0), (2, .ref 78), (3, .ref 578), (4, .int i)]) (h : Pn (some xs) m 373 1537 L [.int s0] H r H') : ∃ y0, (¬ (i + (Int32.ofInt 1)) < 0 ∧ xs[(i + (Int32.ofInt 1)).toNatClampNeg]? = some y0) ∧ ∃ y1, (¬ (i + (Int32.ofInt 2)) < 0 ∧ xs[(i + (Int32.ofInt 2)).toNatClampNeg]? = some y1) ∧ ∃ L', LG L' [(0, .ref 3000000), (1, .ref 0), (2, .ref 78), (3, .ref 578), (4, .int i)] ∧ ∃ r2 H2, Pn none m 297 0 [(0, .ref 78), (1, .int y0), (2, .int y1)] [] H r2 H2 ∧ ((∃ cv, r2 = .inl cv ∧ Pn (some xs) m 373 1555 L' (cv.toList ++ []) H2 r H') ∨ (∃ E, r2 = .inr E ∧ r = .inr E ∧ H' = H2)) := by
  obtain ⟨g0, g1, g2, g3, g4, -⟩ := hL
  have h : Pn (some xs) m 373 1539 (mjSt 5 (.int s0) L) [] H r H' := pnA h at_373_1537 rfl rfl
  have g0 : mjGet (mjSt 5 (.int s0) L) 0 = some (.ref 3000000) := gt_ne g0 (by decide) rfl
  have g1 : mjGet (mjSt 5 (.int s0) L) 1 = some (.ref 0) := gt_ne g1 (by decide) rfl
  have g2 : mjGet (mjSt 5 (.int s0) L) 2 = some (.ref 78) := gt_ne g2 (by decide) rfl
  have g3 : mjGet (mjSt 5 (.int s0) L) 3 = some (.ref 578) := gt_ne g3 (by decide) rfl
  have g4 : mjGet (mjSt 5 (.int s0) L) 4 = some (.int i) := gt_ne g4 (by decide) rfl
  have g5 : mjGet (mjSt 5 (.int s0) L) 5 = some (.int s0) := gt_eq
  have h : Pn (some xs) m 373 1540 (mjSt 5 (.int s0) L) [.ref 78] H r H' := pnLrn g2 h at_373_1539
  have h : Pn (some xs) m 373 1541 (mjSt 5 (.int s0) L) [.ref 3000000, .ref 78] H r H' := pnLrn g0 h at_373_1540
  have h : Pn (some xs) m 373 1543 (mjSt 5 (.int s0) L) [.int i, .ref 3000000, .ref 78] H r H' := pnLi g4 h at_373_1541
  have h : Pn (some xs) m 373 1544 (mjSt 5 (.int s0) L) [.int (Int32.ofInt 1), .int i, .ref 3000000, .ref 78] H r H' := pnA h at_373_1543 rfl rfl
  have h : Pn (some xs) m 373 1545 (mjSt 5 (.int s0) L) [.int (i + (Int32.ofInt 1)), .ref 3000000, .ref 78] H r H' := pnA h at_373_1544 rfl rfl
  obtain ⟨y0, zy0, h⟩ := pnSa h at_373_1545
  have h : Pn (some xs) m 373 1546 (mjSt 5 (.int s0) L) [.int y0, .ref 78] H r H' := h
  refine ⟨y0, zy0, ?_⟩
  have h : Pn (some xs) m 373 1547 (mjSt 5 (.int s0) L) [.ref 3000000, .int y0, .ref 78] H r H' := pnLrn g0 h at_373_1546
  have h : Pn (some xs) m 373 1549 (mjSt 5 (.int s0) L) [.int i, .ref 3000000, .int y0, .ref 78] H r H' := pnLi g4 h at_373_1547
  have h : Pn (some xs) m 373 1550 (mjSt 5 (.int s0) L) [.int (Int32.ofInt 2), .int i, .ref 3000000, .int y0, .ref 78] H r H' := pnA h at_373_1549 rfl rfl
  have h : Pn (some xs) m 373 1551 (mjSt 5 (.int s0) L) [.int (i + (Int32.ofInt 2)), .ref 3000000, .int y0, .ref 78] H r H' := pnA h at_373_1550 rfl rfl
  obtain ⟨y1, zy1, h⟩ := pnSa h at_373_1551
  have h : Pn (some xs) m 373 1552 (mjSt 5 (.int s0) L) [.int y1, .int y0, .ref 78] H r H' := h
  refine ⟨y1, zy1, ?_⟩
  obtain ⟨r2, H2, q, h⟩ := pnC h at_373_1552 kc_373_1552.1 kc_373_1552.2 (as := [.ref 78, .int y0, .int y1]) (rest := []) rfl
  have q : Pn none m 297 0 [(0, .ref 78), (1, .int y0), (2, .int y1)] [] H r2 H2 := q
  exact ⟨_, ⟨g0, g1, g2, g3, g4, trivial⟩, r2, H2, q, h⟩
theorem at_373_1555 : mjAtI 373 1555 = some (.lstore 6, 2, 0, 0, 0) := by decide +kernel
theorem at_373_1557 : mjAtI 373 1557 = some (.goto 550, 3, 0, 2107, 0) := by decide +kernel
theorem lc_38 {m : Nat} {L : mjL} {H H' : mjH} {r : Option Value ⊕ Nat} {xs : List Int32} {i : Int32} {s1 : Int64} (hT : HT H) (hL : LG L [(0, .ref 3000000), (1, .ref 0), (2, .ref 78), (3, .ref 578), (4, .int i)]) (h : Pn (some xs) m 373 1555 L [.long s1] H r H') : ∃ L', LG L' [(0, .ref 3000000), (1, .ref 0), (2, .ref 78), (3, .ref 578), (4, .int (i + Int32.ofInt 6))] ∧ Pn (some xs) m 373 23 L' [] H r H' := by
  obtain ⟨g0, g1, g2, g3, g4, -⟩ := hL
  have h : Pn (some xs) m 373 1557 (mjSt2 6 (.long s1) L) [] H r H' := pnA h at_373_1555 rfl rfl
  have g0 : mjGet (mjSt2 6 (.long s1) L) 0 = some (.ref 3000000) := gt_ne2 g0 (by decide) (by decide) rfl
  have g1 : mjGet (mjSt2 6 (.long s1) L) 1 = some (.ref 0) := gt_ne2 g1 (by decide) (by decide) rfl
  have g2 : mjGet (mjSt2 6 (.long s1) L) 2 = some (.ref 78) := gt_ne2 g2 (by decide) (by decide) rfl
  have g3 : mjGet (mjSt2 6 (.long s1) L) 3 = some (.ref 578) := gt_ne2 g3 (by decide) (by decide) rfl
  have g4 : mjGet (mjSt2 6 (.long s1) L) 4 = some (.int i) := gt_ne2 g4 (by decide) (by decide) rfl
  have g6 : mjGet (mjSt2 6 (.long s1) L) 6 = some (.long s1) := gt_eq2
  have h : Pn (some xs) m 373 2107 (mjSt2 6 (.long s1) L) [] H r H' := pnA h at_373_1557 rfl rfl
  have h : Pn (some xs) m 373 2110 (mjSt 4 (.int (i + Int32.ofInt 6)) (mjSt2 6 (.long s1) L)) [] H r H' := pnInc g4 h at_373_2107
  have g0 : mjGet (mjSt 4 (.int (i + Int32.ofInt 6)) (mjSt2 6 (.long s1) L)) 0 = some (.ref 3000000) := gt_ne g0 (by decide) rfl
  have g1 : mjGet (mjSt 4 (.int (i + Int32.ofInt 6)) (mjSt2 6 (.long s1) L)) 1 = some (.ref 0) := gt_ne g1 (by decide) rfl
  have g2 : mjGet (mjSt 4 (.int (i + Int32.ofInt 6)) (mjSt2 6 (.long s1) L)) 2 = some (.ref 78) := gt_ne g2 (by decide) rfl
  have g3 : mjGet (mjSt 4 (.int (i + Int32.ofInt 6)) (mjSt2 6 (.long s1) L)) 3 = some (.ref 578) := gt_ne g3 (by decide) rfl
  have g6 : mjGet (mjSt 4 (.int (i + Int32.ofInt 6)) (mjSt2 6 (.long s1) L)) 6 = some (.long s1) := gt_ne g6 (by decide) rfl
  have g4 : mjGet (mjSt 4 (.int (i + Int32.ofInt 6)) (mjSt2 6 (.long s1) L)) 4 = some (.int (i + Int32.ofInt 6)) := gt_eq
  have h : Pn (some xs) m 373 23 (mjSt 4 (.int (i + Int32.ofInt 6)) (mjSt2 6 (.long s1) L)) [] H r H' := pnA h at_373_2110 rfl rfl
  exact ⟨_, ⟨g0, g1, g2, g3, g4, trivial⟩, h⟩
theorem at_373_1560 : mjAtI 373 1560 = some (.aload_n 1, 1, 0, 0, 0) := by decide +kernel
theorem at_373_1561 : mjAtI 373 1561 = some (.aload_n 0, 1, 0, 0, 0) := by decide +kernel
theorem at_373_1562 : mjAtI 373 1562 = some (.iload 4, 2, 0, 0, 0) := by decide +kernel
theorem at_373_1564 : mjAtI 373 1564 = some (.iconst 1, 1, 0, 0, 0) := by decide +kernel
theorem at_373_1565 : mjAtI 373 1565 = some (.iadd, 1, 0, 0, 0) := by decide +kernel
theorem at_373_1566 : mjAtI 373 1566 = some (.iaload, 1, 0, 0, 0) := by decide +kernel
theorem at_373_1567 : mjAtI 373 1567 = some (.aload_n 0, 1, 0, 0, 0) := by decide +kernel
theorem at_373_1568 : mjAtI 373 1568 = some (.iload 4, 2, 0, 0, 0) := by decide +kernel
theorem at_373_1570 : mjAtI 373 1570 = some (.iconst 2, 1, 0, 0, 0) := by decide +kernel
theorem at_373_1571 : mjAtI 373 1571 = some (.iadd, 1, 0, 0, 0) := by decide +kernel
theorem at_373_1572 : mjAtI 373 1572 = some (.iaload, 1, 0, 0, 0) := by decide +kernel
theorem at_373_1573 : mjAtI 373 1573 = some (.aload_n 3, 1, 0, 0, 0) := by decide +kernel
theorem at_373_1574 : mjAtI 373 1574 = some (.invokestatic 295, 3, 361, 1, 1432) := by decide +kernel
theorem kc_373_1574 : kCall (.invokestatic 295) 361 373 = true ∧ kArg 361 = 4 := by decide +kernel
theorem la_39 {m : Nat} {L : mjL} {H H' : mjH} {r : Option Value ⊕ Nat} {xs : List Int32} {i : Int32} (hT : HT H) (hL : LG L [(0, .ref 3000000), (1, .ref 0), (2, .ref 78), (3, .ref 578), (4, .int i)]) (h : Pn (some xs) m 373 1560 L [] H r H') : ∃ y0, (¬ (i + (Int32.ofInt 1)) < 0 ∧ xs[(i + (Int32.ofInt 1)).toNatClampNeg]? = some y0) ∧ ∃ y1, (¬ (i + (Int32.ofInt 2)) < 0 ∧ xs[(i + (Int32.ofInt 2)).toNatClampNeg]? = some y1) ∧ ∃ L', LG L' [(0, .ref 3000000), (1, .ref 0), (2, .ref 78), (3, .ref 578), (4, .int i)] ∧ ∃ r2 H2, Pn none m 361 0 [(0, .ref 0), (1, .int y0), (2, .int y1), (3, .ref 578)] [] H r2 H2 ∧ ((∃ cv, r2 = .inl cv ∧ Pn (some xs) m 373 1577 L' (cv.toList ++ []) H2 r H') ∨ (∃ E, r2 = .inr E ∧ r = .inr E ∧ H' = H2)) := by
  obtain ⟨g0, g1, g2, g3, g4, -⟩ := hL
  have h : Pn (some xs) m 373 1561 L [.ref 0] H r H' := pnLrn g1 h at_373_1560
  have h : Pn (some xs) m 373 1562 L [.ref 3000000, .ref 0] H r H' := pnLrn g0 h at_373_1561
  have h : Pn (some xs) m 373 1564 L [.int i, .ref 3000000, .ref 0] H r H' := pnLi g4 h at_373_1562
  have h : Pn (some xs) m 373 1565 L [.int (Int32.ofInt 1), .int i, .ref 3000000, .ref 0] H r H' := pnA h at_373_1564 rfl rfl
  have h : Pn (some xs) m 373 1566 L [.int (i + (Int32.ofInt 1)), .ref 3000000, .ref 0] H r H' := pnA h at_373_1565 rfl rfl
  obtain ⟨y0, zy0, h⟩ := pnSa h at_373_1566
  have h : Pn (some xs) m 373 1567 L [.int y0, .ref 0] H r H' := h
  refine ⟨y0, zy0, ?_⟩
  have h : Pn (some xs) m 373 1568 L [.ref 3000000, .int y0, .ref 0] H r H' := pnLrn g0 h at_373_1567
  have h : Pn (some xs) m 373 1570 L [.int i, .ref 3000000, .int y0, .ref 0] H r H' := pnLi g4 h at_373_1568
  have h : Pn (some xs) m 373 1571 L [.int (Int32.ofInt 2), .int i, .ref 3000000, .int y0, .ref 0] H r H' := pnA h at_373_1570 rfl rfl
  have h : Pn (some xs) m 373 1572 L [.int (i + (Int32.ofInt 2)), .ref 3000000, .int y0, .ref 0] H r H' := pnA h at_373_1571 rfl rfl
  obtain ⟨y1, zy1, h⟩ := pnSa h at_373_1572
  have h : Pn (some xs) m 373 1573 L [.int y1, .int y0, .ref 0] H r H' := h
  refine ⟨y1, zy1, ?_⟩
  have h : Pn (some xs) m 373 1574 L [.ref 578, .int y1, .int y0, .ref 0] H r H' := pnLrn g3 h at_373_1573
  obtain ⟨r2, H2, q, h⟩ := pnC h at_373_1574 kc_373_1574.1 kc_373_1574.2 (as := [.ref 0, .int y0, .int y1, .ref 578]) (rest := []) rfl
  have q : Pn none m 361 0 [(0, .ref 0), (1, .int y0), (2, .int y1), (3, .ref 578)] [] H r2 H2 := q
  exact ⟨_, ⟨g0, g1, g2, g3, g4, trivial⟩, r2, H2, q, h⟩
theorem at_373_1577 : mjAtI 373 1577 = some (.istore 5, 2, 0, 0, 0) := by decide +kernel
theorem at_373_1579 : mjAtI 373 1579 = some (.aload_n 2, 1, 0, 0, 0) := by decide +kernel
theorem at_373_1580 : mjAtI 373 1580 = some (.aload_n 0, 1, 0, 0, 0) := by decide +kernel
theorem at_373_1581 : mjAtI 373 1581 = some (.iload 4, 2, 0, 0, 0) := by decide +kernel
theorem at_373_1583 : mjAtI 373 1583 = some (.iconst 1, 1, 0, 0, 0) := by decide +kernel
theorem at_373_1584 : mjAtI 373 1584 = some (.iadd, 1, 0, 0, 0) := by decide +kernel
theorem at_373_1585 : mjAtI 373 1585 = some (.iaload, 1, 0, 0, 0) := by decide +kernel
theorem at_373_1586 : mjAtI 373 1586 = some (.aload_n 0, 1, 0, 0, 0) := by decide +kernel
theorem at_373_1587 : mjAtI 373 1587 = some (.iload 4, 2, 0, 0, 0) := by decide +kernel
theorem at_373_1589 : mjAtI 373 1589 = some (.iconst 2, 1, 0, 0, 0) := by decide +kernel
theorem at_373_1590 : mjAtI 373 1590 = some (.iadd, 1, 0, 0, 0) := by decide +kernel
theorem at_373_1591 : mjAtI 373 1591 = some (.iaload, 1, 0, 0, 0) := by decide +kernel
theorem at_373_1592 : mjAtI 373 1592 = some (.invokevirtual 297, 3, 299, 0, 2204) := by decide +kernel
theorem kc_373_1592 : kCall (.invokevirtual 297) 299 373 = true ∧ kArg 299 = 3 := by decide +kernel
theorem lb_39 {m : Nat} {L : mjL} {H H' : mjH} {r : Option Value ⊕ Nat} {xs : List Int32} {i : Int32} {s0 : Int32} (hT : HT H) (hL : LG L [(0, .ref 3000000), (1, .ref 0), (2, .ref 78), (3, .ref 578), (4, .int i)]) (h : Pn (some xs) m 373 1577 L [.int s0] H r H') : ∃ y0, (¬ (i + (Int32.ofInt 1)) < 0 ∧ xs[(i + (Int32.ofInt 1)).toNatClampNeg]? = some y0) ∧ ∃ y1, (¬ (i + (Int32.ofInt 2)) < 0 ∧ xs[(i + (Int32.ofInt 2)).toNatClampNeg]? = some y1) ∧ ∃ L', LG L' [(0, .ref 3000000), (1, .ref 0), (2, .ref 78), (3, .ref 578), (4, .int i)] ∧ ∃ r2 H2, Pn none m 299 0 [(0, .ref 78), (1, .int y0), (2, .int y1)] [] H r2 H2 ∧ ((∃ cv, r2 = .inl cv ∧ Pn (some xs) m 373 1595 L' (cv.toList ++ []) H2 r H') ∨ (∃ E, r2 = .inr E ∧ r = .inr E ∧ H' = H2)) := by
  obtain ⟨g0, g1, g2, g3, g4, -⟩ := hL
  have h : Pn (some xs) m 373 1579 (mjSt 5 (.int s0) L) [] H r H' := pnA h at_373_1577 rfl rfl
  have g0 : mjGet (mjSt 5 (.int s0) L) 0 = some (.ref 3000000) := gt_ne g0 (by decide) rfl
  have g1 : mjGet (mjSt 5 (.int s0) L) 1 = some (.ref 0) := gt_ne g1 (by decide) rfl
  have g2 : mjGet (mjSt 5 (.int s0) L) 2 = some (.ref 78) := gt_ne g2 (by decide) rfl
  have g3 : mjGet (mjSt 5 (.int s0) L) 3 = some (.ref 578) := gt_ne g3 (by decide) rfl
  have g4 : mjGet (mjSt 5 (.int s0) L) 4 = some (.int i) := gt_ne g4 (by decide) rfl
  have g5 : mjGet (mjSt 5 (.int s0) L) 5 = some (.int s0) := gt_eq
  have h : Pn (some xs) m 373 1580 (mjSt 5 (.int s0) L) [.ref 78] H r H' := pnLrn g2 h at_373_1579
  have h : Pn (some xs) m 373 1581 (mjSt 5 (.int s0) L) [.ref 3000000, .ref 78] H r H' := pnLrn g0 h at_373_1580
  have h : Pn (some xs) m 373 1583 (mjSt 5 (.int s0) L) [.int i, .ref 3000000, .ref 78] H r H' := pnLi g4 h at_373_1581
  have h : Pn (some xs) m 373 1584 (mjSt 5 (.int s0) L) [.int (Int32.ofInt 1), .int i, .ref 3000000, .ref 78] H r H' := pnA h at_373_1583 rfl rfl
  have h : Pn (some xs) m 373 1585 (mjSt 5 (.int s0) L) [.int (i + (Int32.ofInt 1)), .ref 3000000, .ref 78] H r H' := pnA h at_373_1584 rfl rfl
  obtain ⟨y0, zy0, h⟩ := pnSa h at_373_1585
  have h : Pn (some xs) m 373 1586 (mjSt 5 (.int s0) L) [.int y0, .ref 78] H r H' := h
  refine ⟨y0, zy0, ?_⟩
  have h : Pn (some xs) m 373 1587 (mjSt 5 (.int s0) L) [.ref 3000000, .int y0, .ref 78] H r H' := pnLrn g0 h at_373_1586
  have h : Pn (some xs) m 373 1589 (mjSt 5 (.int s0) L) [.int i, .ref 3000000, .int y0, .ref 78] H r H' := pnLi g4 h at_373_1587
  have h : Pn (some xs) m 373 1590 (mjSt 5 (.int s0) L) [.int (Int32.ofInt 2), .int i, .ref 3000000, .int y0, .ref 78] H r H' := pnA h at_373_1589 rfl rfl
  have h : Pn (some xs) m 373 1591 (mjSt 5 (.int s0) L) [.int (i + (Int32.ofInt 2)), .ref 3000000, .int y0, .ref 78] H r H' := pnA h at_373_1590 rfl rfl
  obtain ⟨y1, zy1, h⟩ := pnSa h at_373_1591
  have h : Pn (some xs) m 373 1592 (mjSt 5 (.int s0) L) [.int y1, .int y0, .ref 78] H r H' := h
  refine ⟨y1, zy1, ?_⟩
  obtain ⟨r2, H2, q, h⟩ := pnC h at_373_1592 kc_373_1592.1 kc_373_1592.2 (as := [.ref 78, .int y0, .int y1]) (rest := []) rfl
  have q : Pn none m 299 0 [(0, .ref 78), (1, .int y0), (2, .int y1)] [] H r2 H2 := q
  exact ⟨_, ⟨g0, g1, g2, g3, g4, trivial⟩, r2, H2, q, h⟩
theorem at_373_1595 : mjAtI 373 1595 = some (.istore 6, 2, 0, 0, 0) := by decide +kernel
theorem at_373_1597 : mjAtI 373 1597 = some (.goto 510, 3, 0, 2107, 0) := by decide +kernel
theorem lc_39 {m : Nat} {L : mjL} {H H' : mjH} {r : Option Value ⊕ Nat} {xs : List Int32} {i : Int32} {s1 : Int32} (hT : HT H) (hL : LG L [(0, .ref 3000000), (1, .ref 0), (2, .ref 78), (3, .ref 578), (4, .int i)]) (h : Pn (some xs) m 373 1595 L [.int s1] H r H') : ∃ L', LG L' [(0, .ref 3000000), (1, .ref 0), (2, .ref 78), (3, .ref 578), (4, .int (i + Int32.ofInt 6))] ∧ Pn (some xs) m 373 23 L' [] H r H' := by
  obtain ⟨g0, g1, g2, g3, g4, -⟩ := hL
  have h : Pn (some xs) m 373 1597 (mjSt 6 (.int s1) L) [] H r H' := pnA h at_373_1595 rfl rfl
  have g0 : mjGet (mjSt 6 (.int s1) L) 0 = some (.ref 3000000) := gt_ne g0 (by decide) rfl
  have g1 : mjGet (mjSt 6 (.int s1) L) 1 = some (.ref 0) := gt_ne g1 (by decide) rfl
  have g2 : mjGet (mjSt 6 (.int s1) L) 2 = some (.ref 78) := gt_ne g2 (by decide) rfl
  have g3 : mjGet (mjSt 6 (.int s1) L) 3 = some (.ref 578) := gt_ne g3 (by decide) rfl
  have g4 : mjGet (mjSt 6 (.int s1) L) 4 = some (.int i) := gt_ne g4 (by decide) rfl
  have g6 : mjGet (mjSt 6 (.int s1) L) 6 = some (.int s1) := gt_eq
  have h : Pn (some xs) m 373 2107 (mjSt 6 (.int s1) L) [] H r H' := pnA h at_373_1597 rfl rfl
  have h : Pn (some xs) m 373 2110 (mjSt 4 (.int (i + Int32.ofInt 6)) (mjSt 6 (.int s1) L)) [] H r H' := pnInc g4 h at_373_2107
  have g0 : mjGet (mjSt 4 (.int (i + Int32.ofInt 6)) (mjSt 6 (.int s1) L)) 0 = some (.ref 3000000) := gt_ne g0 (by decide) rfl
  have g1 : mjGet (mjSt 4 (.int (i + Int32.ofInt 6)) (mjSt 6 (.int s1) L)) 1 = some (.ref 0) := gt_ne g1 (by decide) rfl
  have g2 : mjGet (mjSt 4 (.int (i + Int32.ofInt 6)) (mjSt 6 (.int s1) L)) 2 = some (.ref 78) := gt_ne g2 (by decide) rfl
  have g3 : mjGet (mjSt 4 (.int (i + Int32.ofInt 6)) (mjSt 6 (.int s1) L)) 3 = some (.ref 578) := gt_ne g3 (by decide) rfl
  have g6 : mjGet (mjSt 4 (.int (i + Int32.ofInt 6)) (mjSt 6 (.int s1) L)) 6 = some (.int s1) := gt_ne g6 (by decide) rfl
  have g4 : mjGet (mjSt 4 (.int (i + Int32.ofInt 6)) (mjSt 6 (.int s1) L)) 4 = some (.int (i + Int32.ofInt 6)) := gt_eq
  have h : Pn (some xs) m 373 23 (mjSt 4 (.int (i + Int32.ofInt 6)) (mjSt 6 (.int s1) L)) [] H r H' := pnA h at_373_2110 rfl rfl
  exact ⟨_, ⟨g0, g1, g2, g3, g4, trivial⟩, h⟩
theorem at_373_1600 : mjAtI 373 1600 = some (.aload_n 1, 1, 0, 0, 0) := by decide +kernel
theorem at_373_1601 : mjAtI 373 1601 = some (.aload_n 0, 1, 0, 0, 0) := by decide +kernel
theorem at_373_1602 : mjAtI 373 1602 = some (.iload 4, 2, 0, 0, 0) := by decide +kernel
theorem at_373_1604 : mjAtI 373 1604 = some (.iconst 1, 1, 0, 0, 0) := by decide +kernel
theorem at_373_1605 : mjAtI 373 1605 = some (.iadd, 1, 0, 0, 0) := by decide +kernel
theorem at_373_1606 : mjAtI 373 1606 = some (.iaload, 1, 0, 0, 0) := by decide +kernel
theorem at_373_1607 : mjAtI 373 1607 = some (.aload_n 3, 1, 0, 0, 0) := by decide +kernel
theorem at_373_1608 : mjAtI 373 1608 = some (.invokestatic 298, 3, 362, 1, 1439) := by decide +kernel
theorem kc_373_1608 : kCall (.invokestatic 298) 362 373 = true ∧ kArg 362 = 3 := by decide +kernel
theorem la_40 {m : Nat} {L : mjL} {H H' : mjH} {r : Option Value ⊕ Nat} {xs : List Int32} {i : Int32} (hT : HT H) (hL : LG L [(0, .ref 3000000), (1, .ref 0), (2, .ref 78), (3, .ref 578), (4, .int i)]) (h : Pn (some xs) m 373 1600 L [] H r H') : ∃ y0, (¬ (i + (Int32.ofInt 1)) < 0 ∧ xs[(i + (Int32.ofInt 1)).toNatClampNeg]? = some y0) ∧ ∃ L', LG L' [(0, .ref 3000000), (1, .ref 0), (2, .ref 78), (3, .ref 578), (4, .int i)] ∧ ∃ r2 H2, Pn none m 362 0 [(0, .ref 0), (1, .int y0), (2, .ref 578)] [] H r2 H2 ∧ ((∃ cv, r2 = .inl cv ∧ Pn (some xs) m 373 1611 L' (cv.toList ++ []) H2 r H') ∨ (∃ E, r2 = .inr E ∧ r = .inr E ∧ H' = H2)) := by
  obtain ⟨g0, g1, g2, g3, g4, -⟩ := hL
  have h : Pn (some xs) m 373 1601 L [.ref 0] H r H' := pnLrn g1 h at_373_1600
  have h : Pn (some xs) m 373 1602 L [.ref 3000000, .ref 0] H r H' := pnLrn g0 h at_373_1601
  have h : Pn (some xs) m 373 1604 L [.int i, .ref 3000000, .ref 0] H r H' := pnLi g4 h at_373_1602
  have h : Pn (some xs) m 373 1605 L [.int (Int32.ofInt 1), .int i, .ref 3000000, .ref 0] H r H' := pnA h at_373_1604 rfl rfl
  have h : Pn (some xs) m 373 1606 L [.int (i + (Int32.ofInt 1)), .ref 3000000, .ref 0] H r H' := pnA h at_373_1605 rfl rfl
  obtain ⟨y0, zy0, h⟩ := pnSa h at_373_1606
  have h : Pn (some xs) m 373 1607 L [.int y0, .ref 0] H r H' := h
  refine ⟨y0, zy0, ?_⟩
  have h : Pn (some xs) m 373 1608 L [.ref 578, .int y0, .ref 0] H r H' := pnLrn g3 h at_373_1607
  obtain ⟨r2, H2, q, h⟩ := pnC h at_373_1608 kc_373_1608.1 kc_373_1608.2 (as := [.ref 0, .int y0, .ref 578]) (rest := []) rfl
  have q : Pn none m 362 0 [(0, .ref 0), (1, .int y0), (2, .ref 578)] [] H r2 H2 := q
  exact ⟨_, ⟨g0, g1, g2, g3, g4, trivial⟩, r2, H2, q, h⟩
theorem at_373_1611 : mjAtI 373 1611 = some (.istore 5, 2, 0, 0, 0) := by decide +kernel
theorem at_373_1613 : mjAtI 373 1613 = some (.aload_n 2, 1, 0, 0, 0) := by decide +kernel
theorem at_373_1614 : mjAtI 373 1614 = some (.aload_n 0, 1, 0, 0, 0) := by decide +kernel
theorem at_373_1615 : mjAtI 373 1615 = some (.iload 4, 2, 0, 0, 0) := by decide +kernel
theorem at_373_1617 : mjAtI 373 1617 = some (.iconst 1, 1, 0, 0, 0) := by decide +kernel
theorem at_373_1618 : mjAtI 373 1618 = some (.iadd, 1, 0, 0, 0) := by decide +kernel
theorem at_373_1619 : mjAtI 373 1619 = some (.iaload, 1, 0, 0, 0) := by decide +kernel
theorem at_373_1620 : mjAtI 373 1620 = some (.invokevirtual 300, 3, 273, 0, 2098) := by decide +kernel
theorem kc_373_1620 : kCall (.invokevirtual 300) 273 373 = true ∧ kArg 273 = 2 := by decide +kernel
theorem lb_40 {m : Nat} {L : mjL} {H H' : mjH} {r : Option Value ⊕ Nat} {xs : List Int32} {i : Int32} {s0 : Int32} (hT : HT H) (hL : LG L [(0, .ref 3000000), (1, .ref 0), (2, .ref 78), (3, .ref 578), (4, .int i)]) (h : Pn (some xs) m 373 1611 L [.int s0] H r H') : ∃ y0, (¬ (i + (Int32.ofInt 1)) < 0 ∧ xs[(i + (Int32.ofInt 1)).toNatClampNeg]? = some y0) ∧ ∃ L', LG L' [(0, .ref 3000000), (1, .ref 0), (2, .ref 78), (3, .ref 578), (4, .int i)] ∧ ∃ r2 H2, Pn none m 273 0 [(0, .ref 78), (1, .int y0)] [] H r2 H2 ∧ ((∃ cv, r2 = .inl cv ∧ Pn (some xs) m 373 1623 L' (cv.toList ++ []) H2 r H') ∨ (∃ E, r2 = .inr E ∧ r = .inr E ∧ H' = H2)) := by
  obtain ⟨g0, g1, g2, g3, g4, -⟩ := hL
  have h : Pn (some xs) m 373 1613 (mjSt 5 (.int s0) L) [] H r H' := pnA h at_373_1611 rfl rfl
  have g0 : mjGet (mjSt 5 (.int s0) L) 0 = some (.ref 3000000) := gt_ne g0 (by decide) rfl
  have g1 : mjGet (mjSt 5 (.int s0) L) 1 = some (.ref 0) := gt_ne g1 (by decide) rfl
  have g2 : mjGet (mjSt 5 (.int s0) L) 2 = some (.ref 78) := gt_ne g2 (by decide) rfl
  have g3 : mjGet (mjSt 5 (.int s0) L) 3 = some (.ref 578) := gt_ne g3 (by decide) rfl
  have g4 : mjGet (mjSt 5 (.int s0) L) 4 = some (.int i) := gt_ne g4 (by decide) rfl
  have g5 : mjGet (mjSt 5 (.int s0) L) 5 = some (.int s0) := gt_eq
  have h : Pn (some xs) m 373 1614 (mjSt 5 (.int s0) L) [.ref 78] H r H' := pnLrn g2 h at_373_1613
  have h : Pn (some xs) m 373 1615 (mjSt 5 (.int s0) L) [.ref 3000000, .ref 78] H r H' := pnLrn g0 h at_373_1614
  have h : Pn (some xs) m 373 1617 (mjSt 5 (.int s0) L) [.int i, .ref 3000000, .ref 78] H r H' := pnLi g4 h at_373_1615
  have h : Pn (some xs) m 373 1618 (mjSt 5 (.int s0) L) [.int (Int32.ofInt 1), .int i, .ref 3000000, .ref 78] H r H' := pnA h at_373_1617 rfl rfl
  have h : Pn (some xs) m 373 1619 (mjSt 5 (.int s0) L) [.int (i + (Int32.ofInt 1)), .ref 3000000, .ref 78] H r H' := pnA h at_373_1618 rfl rfl
  obtain ⟨y0, zy0, h⟩ := pnSa h at_373_1619
  have h : Pn (some xs) m 373 1620 (mjSt 5 (.int s0) L) [.int y0, .ref 78] H r H' := h
  refine ⟨y0, zy0, ?_⟩
  obtain ⟨r2, H2, q, h⟩ := pnC h at_373_1620 kc_373_1620.1 kc_373_1620.2 (as := [.ref 78, .int y0]) (rest := []) rfl
  have q : Pn none m 273 0 [(0, .ref 78), (1, .int y0)] [] H r2 H2 := q
  exact ⟨_, ⟨g0, g1, g2, g3, g4, trivial⟩, r2, H2, q, h⟩
theorem at_373_1623 : mjAtI 373 1623 = some (.istore 6, 2, 0, 0, 0) := by decide +kernel
theorem at_373_1625 : mjAtI 373 1625 = some (.goto 482, 3, 0, 2107, 0) := by decide +kernel
theorem lc_40 {m : Nat} {L : mjL} {H H' : mjH} {r : Option Value ⊕ Nat} {xs : List Int32} {i : Int32} {s1 : Int32} (hT : HT H) (hL : LG L [(0, .ref 3000000), (1, .ref 0), (2, .ref 78), (3, .ref 578), (4, .int i)]) (h : Pn (some xs) m 373 1623 L [.int s1] H r H') : ∃ L', LG L' [(0, .ref 3000000), (1, .ref 0), (2, .ref 78), (3, .ref 578), (4, .int (i + Int32.ofInt 6))] ∧ Pn (some xs) m 373 23 L' [] H r H' := by
  obtain ⟨g0, g1, g2, g3, g4, -⟩ := hL
  have h : Pn (some xs) m 373 1625 (mjSt 6 (.int s1) L) [] H r H' := pnA h at_373_1623 rfl rfl
  have g0 : mjGet (mjSt 6 (.int s1) L) 0 = some (.ref 3000000) := gt_ne g0 (by decide) rfl
  have g1 : mjGet (mjSt 6 (.int s1) L) 1 = some (.ref 0) := gt_ne g1 (by decide) rfl
  have g2 : mjGet (mjSt 6 (.int s1) L) 2 = some (.ref 78) := gt_ne g2 (by decide) rfl
  have g3 : mjGet (mjSt 6 (.int s1) L) 3 = some (.ref 578) := gt_ne g3 (by decide) rfl
  have g4 : mjGet (mjSt 6 (.int s1) L) 4 = some (.int i) := gt_ne g4 (by decide) rfl
  have g6 : mjGet (mjSt 6 (.int s1) L) 6 = some (.int s1) := gt_eq
  have h : Pn (some xs) m 373 2107 (mjSt 6 (.int s1) L) [] H r H' := pnA h at_373_1625 rfl rfl
  have h : Pn (some xs) m 373 2110 (mjSt 4 (.int (i + Int32.ofInt 6)) (mjSt 6 (.int s1) L)) [] H r H' := pnInc g4 h at_373_2107
  have g0 : mjGet (mjSt 4 (.int (i + Int32.ofInt 6)) (mjSt 6 (.int s1) L)) 0 = some (.ref 3000000) := gt_ne g0 (by decide) rfl
  have g1 : mjGet (mjSt 4 (.int (i + Int32.ofInt 6)) (mjSt 6 (.int s1) L)) 1 = some (.ref 0) := gt_ne g1 (by decide) rfl
  have g2 : mjGet (mjSt 4 (.int (i + Int32.ofInt 6)) (mjSt 6 (.int s1) L)) 2 = some (.ref 78) := gt_ne g2 (by decide) rfl
  have g3 : mjGet (mjSt 4 (.int (i + Int32.ofInt 6)) (mjSt 6 (.int s1) L)) 3 = some (.ref 578) := gt_ne g3 (by decide) rfl
  have g6 : mjGet (mjSt 4 (.int (i + Int32.ofInt 6)) (mjSt 6 (.int s1) L)) 6 = some (.int s1) := gt_ne g6 (by decide) rfl
  have g4 : mjGet (mjSt 4 (.int (i + Int32.ofInt 6)) (mjSt 6 (.int s1) L)) 4 = some (.int (i + Int32.ofInt 6)) := gt_eq
  have h : Pn (some xs) m 373 23 (mjSt 4 (.int (i + Int32.ofInt 6)) (mjSt 6 (.int s1) L)) [] H r H' := pnA h at_373_2110 rfl rfl
  exact ⟨_, ⟨g0, g1, g2, g3, g4, trivial⟩, h⟩
theorem at_373_1628 : mjAtI 373 1628 = some (.aload_n 1, 1, 0, 0, 0) := by decide +kernel
theorem at_373_1629 : mjAtI 373 1629 = some (.aload_n 0, 1, 0, 0, 0) := by decide +kernel
theorem at_373_1630 : mjAtI 373 1630 = some (.iload 4, 2, 0, 0, 0) := by decide +kernel
theorem at_373_1632 : mjAtI 373 1632 = some (.iconst 1, 1, 0, 0, 0) := by decide +kernel
theorem at_373_1633 : mjAtI 373 1633 = some (.iadd, 1, 0, 0, 0) := by decide +kernel
theorem at_373_1634 : mjAtI 373 1634 = some (.iaload, 1, 0, 0, 0) := by decide +kernel
theorem at_373_1635 : mjAtI 373 1635 = some (.aload_n 3, 1, 0, 0, 0) := by decide +kernel
theorem at_373_1636 : mjAtI 373 1636 = some (.invokestatic 301, 3, 363, 1, 1446) := by decide +kernel
theorem kc_373_1636 : kCall (.invokestatic 301) 363 373 = true ∧ kArg 363 = 3 := by decide +kernel
theorem la_41 {m : Nat} {L : mjL} {H H' : mjH} {r : Option Value ⊕ Nat} {xs : List Int32} {i : Int32} (hT : HT H) (hL : LG L [(0, .ref 3000000), (1, .ref 0), (2, .ref 78), (3, .ref 578), (4, .int i)]) (h : Pn (some xs) m 373 1628 L [] H r H') : ∃ y0, (¬ (i + (Int32.ofInt 1)) < 0 ∧ xs[(i + (Int32.ofInt 1)).toNatClampNeg]? = some y0) ∧ ∃ L', LG L' [(0, .ref 3000000), (1, .ref 0), (2, .ref 78), (3, .ref 578), (4, .int i)] ∧ ∃ r2 H2, Pn none m 363 0 [(0, .ref 0), (1, .int y0), (2, .ref 578)] [] H r2 H2 ∧ ((∃ cv, r2 = .inl cv ∧ Pn (some xs) m 373 1639 L' (cv.toList ++ []) H2 r H') ∨ (∃ E, r2 = .inr E ∧ r = .inr E ∧ H' = H2)) := by
  obtain ⟨g0, g1, g2, g3, g4, -⟩ := hL
  have h : Pn (some xs) m 373 1629 L [.ref 0] H r H' := pnLrn g1 h at_373_1628
  have h : Pn (some xs) m 373 1630 L [.ref 3000000, .ref 0] H r H' := pnLrn g0 h at_373_1629
  have h : Pn (some xs) m 373 1632 L [.int i, .ref 3000000, .ref 0] H r H' := pnLi g4 h at_373_1630
  have h : Pn (some xs) m 373 1633 L [.int (Int32.ofInt 1), .int i, .ref 3000000, .ref 0] H r H' := pnA h at_373_1632 rfl rfl
  have h : Pn (some xs) m 373 1634 L [.int (i + (Int32.ofInt 1)), .ref 3000000, .ref 0] H r H' := pnA h at_373_1633 rfl rfl
  obtain ⟨y0, zy0, h⟩ := pnSa h at_373_1634
  have h : Pn (some xs) m 373 1635 L [.int y0, .ref 0] H r H' := h
  refine ⟨y0, zy0, ?_⟩
  have h : Pn (some xs) m 373 1636 L [.ref 578, .int y0, .ref 0] H r H' := pnLrn g3 h at_373_1635
  obtain ⟨r2, H2, q, h⟩ := pnC h at_373_1636 kc_373_1636.1 kc_373_1636.2 (as := [.ref 0, .int y0, .ref 578]) (rest := []) rfl
  have q : Pn none m 363 0 [(0, .ref 0), (1, .int y0), (2, .ref 578)] [] H r2 H2 := q
  exact ⟨_, ⟨g0, g1, g2, g3, g4, trivial⟩, r2, H2, q, h⟩
theorem at_373_1639 : mjAtI 373 1639 = some (.istore 5, 2, 0, 0, 0) := by decide +kernel
theorem at_373_1641 : mjAtI 373 1641 = some (.aload_n 2, 1, 0, 0, 0) := by decide +kernel
theorem at_373_1642 : mjAtI 373 1642 = some (.aload_n 0, 1, 0, 0, 0) := by decide +kernel
theorem at_373_1643 : mjAtI 373 1643 = some (.iload 4, 2, 0, 0, 0) := by decide +kernel
theorem at_373_1645 : mjAtI 373 1645 = some (.iconst 1, 1, 0, 0, 0) := by decide +kernel
theorem at_373_1646 : mjAtI 373 1646 = some (.iadd, 1, 0, 0, 0) := by decide +kernel
theorem at_373_1647 : mjAtI 373 1647 = some (.iaload, 1, 0, 0, 0) := by decide +kernel
theorem at_373_1648 : mjAtI 373 1648 = some (.invokevirtual 303, 3, 308, 0, 2244) := by decide +kernel
theorem kc_373_1648 : kCall (.invokevirtual 303) 308 373 = true ∧ kArg 308 = 2 := by decide +kernel
theorem lb_41 {m : Nat} {L : mjL} {H H' : mjH} {r : Option Value ⊕ Nat} {xs : List Int32} {i : Int32} {s0 : Int32} (hT : HT H) (hL : LG L [(0, .ref 3000000), (1, .ref 0), (2, .ref 78), (3, .ref 578), (4, .int i)]) (h : Pn (some xs) m 373 1639 L [.int s0] H r H') : ∃ y0, (¬ (i + (Int32.ofInt 1)) < 0 ∧ xs[(i + (Int32.ofInt 1)).toNatClampNeg]? = some y0) ∧ ∃ L', LG L' [(0, .ref 3000000), (1, .ref 0), (2, .ref 78), (3, .ref 578), (4, .int i)] ∧ ∃ r2 H2, Pn none m 308 0 [(0, .ref 78), (1, .int y0)] [] H r2 H2 ∧ ((∃ cv, r2 = .inl cv ∧ Pn (some xs) m 373 1651 L' (cv.toList ++ []) H2 r H') ∨ (∃ E, r2 = .inr E ∧ r = .inr E ∧ H' = H2)) := by
  obtain ⟨g0, g1, g2, g3, g4, -⟩ := hL
  have h : Pn (some xs) m 373 1641 (mjSt 5 (.int s0) L) [] H r H' := pnA h at_373_1639 rfl rfl
  have g0 : mjGet (mjSt 5 (.int s0) L) 0 = some (.ref 3000000) := gt_ne g0 (by decide) rfl
  have g1 : mjGet (mjSt 5 (.int s0) L) 1 = some (.ref 0) := gt_ne g1 (by decide) rfl
  have g2 : mjGet (mjSt 5 (.int s0) L) 2 = some (.ref 78) := gt_ne g2 (by decide) rfl
  have g3 : mjGet (mjSt 5 (.int s0) L) 3 = some (.ref 578) := gt_ne g3 (by decide) rfl
  have g4 : mjGet (mjSt 5 (.int s0) L) 4 = some (.int i) := gt_ne g4 (by decide) rfl
  have g5 : mjGet (mjSt 5 (.int s0) L) 5 = some (.int s0) := gt_eq
  have h : Pn (some xs) m 373 1642 (mjSt 5 (.int s0) L) [.ref 78] H r H' := pnLrn g2 h at_373_1641
  have h : Pn (some xs) m 373 1643 (mjSt 5 (.int s0) L) [.ref 3000000, .ref 78] H r H' := pnLrn g0 h at_373_1642
  have h : Pn (some xs) m 373 1645 (mjSt 5 (.int s0) L) [.int i, .ref 3000000, .ref 78] H r H' := pnLi g4 h at_373_1643
  have h : Pn (some xs) m 373 1646 (mjSt 5 (.int s0) L) [.int (Int32.ofInt 1), .int i, .ref 3000000, .ref 78] H r H' := pnA h at_373_1645 rfl rfl
  have h : Pn (some xs) m 373 1647 (mjSt 5 (.int s0) L) [.int (i + (Int32.ofInt 1)), .ref 3000000, .ref 78] H r H' := pnA h at_373_1646 rfl rfl
  obtain ⟨y0, zy0, h⟩ := pnSa h at_373_1647
  have h : Pn (some xs) m 373 1648 (mjSt 5 (.int s0) L) [.int y0, .ref 78] H r H' := h
  refine ⟨y0, zy0, ?_⟩
  obtain ⟨r2, H2, q, h⟩ := pnC h at_373_1648 kc_373_1648.1 kc_373_1648.2 (as := [.ref 78, .int y0]) (rest := []) rfl
  have q : Pn none m 308 0 [(0, .ref 78), (1, .int y0)] [] H r2 H2 := q
  exact ⟨_, ⟨g0, g1, g2, g3, g4, trivial⟩, r2, H2, q, h⟩
theorem at_373_1651 : mjAtI 373 1651 = some (.istore 6, 2, 0, 0, 0) := by decide +kernel
theorem at_373_1653 : mjAtI 373 1653 = some (.goto 454, 3, 0, 2107, 0) := by decide +kernel
theorem lc_41 {m : Nat} {L : mjL} {H H' : mjH} {r : Option Value ⊕ Nat} {xs : List Int32} {i : Int32} {s1 : Int32} (hT : HT H) (hL : LG L [(0, .ref 3000000), (1, .ref 0), (2, .ref 78), (3, .ref 578), (4, .int i)]) (h : Pn (some xs) m 373 1651 L [.int s1] H r H') : ∃ L', LG L' [(0, .ref 3000000), (1, .ref 0), (2, .ref 78), (3, .ref 578), (4, .int (i + Int32.ofInt 6))] ∧ Pn (some xs) m 373 23 L' [] H r H' := by
  obtain ⟨g0, g1, g2, g3, g4, -⟩ := hL
  have h : Pn (some xs) m 373 1653 (mjSt 6 (.int s1) L) [] H r H' := pnA h at_373_1651 rfl rfl
  have g0 : mjGet (mjSt 6 (.int s1) L) 0 = some (.ref 3000000) := gt_ne g0 (by decide) rfl
  have g1 : mjGet (mjSt 6 (.int s1) L) 1 = some (.ref 0) := gt_ne g1 (by decide) rfl
  have g2 : mjGet (mjSt 6 (.int s1) L) 2 = some (.ref 78) := gt_ne g2 (by decide) rfl
  have g3 : mjGet (mjSt 6 (.int s1) L) 3 = some (.ref 578) := gt_ne g3 (by decide) rfl
  have g4 : mjGet (mjSt 6 (.int s1) L) 4 = some (.int i) := gt_ne g4 (by decide) rfl
  have g6 : mjGet (mjSt 6 (.int s1) L) 6 = some (.int s1) := gt_eq
  have h : Pn (some xs) m 373 2107 (mjSt 6 (.int s1) L) [] H r H' := pnA h at_373_1653 rfl rfl
  have h : Pn (some xs) m 373 2110 (mjSt 4 (.int (i + Int32.ofInt 6)) (mjSt 6 (.int s1) L)) [] H r H' := pnInc g4 h at_373_2107
  have g0 : mjGet (mjSt 4 (.int (i + Int32.ofInt 6)) (mjSt 6 (.int s1) L)) 0 = some (.ref 3000000) := gt_ne g0 (by decide) rfl
  have g1 : mjGet (mjSt 4 (.int (i + Int32.ofInt 6)) (mjSt 6 (.int s1) L)) 1 = some (.ref 0) := gt_ne g1 (by decide) rfl
  have g2 : mjGet (mjSt 4 (.int (i + Int32.ofInt 6)) (mjSt 6 (.int s1) L)) 2 = some (.ref 78) := gt_ne g2 (by decide) rfl
  have g3 : mjGet (mjSt 4 (.int (i + Int32.ofInt 6)) (mjSt 6 (.int s1) L)) 3 = some (.ref 578) := gt_ne g3 (by decide) rfl
  have g6 : mjGet (mjSt 4 (.int (i + Int32.ofInt 6)) (mjSt 6 (.int s1) L)) 6 = some (.int s1) := gt_ne g6 (by decide) rfl
  have g4 : mjGet (mjSt 4 (.int (i + Int32.ofInt 6)) (mjSt 6 (.int s1) L)) 4 = some (.int (i + Int32.ofInt 6)) := gt_eq
  have h : Pn (some xs) m 373 23 (mjSt 4 (.int (i + Int32.ofInt 6)) (mjSt 6 (.int s1) L)) [] H r H' := pnA h at_373_2110 rfl rfl
  exact ⟨_, ⟨g0, g1, g2, g3, g4, trivial⟩, h⟩
theorem at_373_1656 : mjAtI 373 1656 = some (.aload_n 1, 1, 0, 0, 0) := by decide +kernel
theorem at_373_1657 : mjAtI 373 1657 = some (.aload_n 0, 1, 0, 0, 0) := by decide +kernel
theorem at_373_1658 : mjAtI 373 1658 = some (.iload 4, 2, 0, 0, 0) := by decide +kernel
theorem at_373_1660 : mjAtI 373 1660 = some (.iconst 1, 1, 0, 0, 0) := by decide +kernel
theorem at_373_1661 : mjAtI 373 1661 = some (.iadd, 1, 0, 0, 0) := by decide +kernel
theorem at_373_1662 : mjAtI 373 1662 = some (.iaload, 1, 0, 0, 0) := by decide +kernel
theorem at_373_1663 : mjAtI 373 1663 = some (.aload_n 3, 1, 0, 0, 0) := by decide +kernel
theorem at_373_1664 : mjAtI 373 1664 = some (.invokestatic 304, 3, 364, 1, 1453) := by decide +kernel
theorem kc_373_1664 : kCall (.invokestatic 304) 364 373 = true ∧ kArg 364 = 3 := by decide +kernel
theorem la_42 {m : Nat} {L : mjL} {H H' : mjH} {r : Option Value ⊕ Nat} {xs : List Int32} {i : Int32} (hT : HT H) (hL : LG L [(0, .ref 3000000), (1, .ref 0), (2, .ref 78), (3, .ref 578), (4, .int i)]) (h : Pn (some xs) m 373 1656 L [] H r H') : ∃ y0, (¬ (i + (Int32.ofInt 1)) < 0 ∧ xs[(i + (Int32.ofInt 1)).toNatClampNeg]? = some y0) ∧ ∃ L', LG L' [(0, .ref 3000000), (1, .ref 0), (2, .ref 78), (3, .ref 578), (4, .int i)] ∧ ∃ r2 H2, Pn none m 364 0 [(0, .ref 0), (1, .int y0), (2, .ref 578)] [] H r2 H2 ∧ ((∃ cv, r2 = .inl cv ∧ Pn (some xs) m 373 1667 L' (cv.toList ++ []) H2 r H') ∨ (∃ E, r2 = .inr E ∧ r = .inr E ∧ H' = H2)) := by
  obtain ⟨g0, g1, g2, g3, g4, -⟩ := hL
  have h : Pn (some xs) m 373 1657 L [.ref 0] H r H' := pnLrn g1 h at_373_1656
  have h : Pn (some xs) m 373 1658 L [.ref 3000000, .ref 0] H r H' := pnLrn g0 h at_373_1657
  have h : Pn (some xs) m 373 1660 L [.int i, .ref 3000000, .ref 0] H r H' := pnLi g4 h at_373_1658
  have h : Pn (some xs) m 373 1661 L [.int (Int32.ofInt 1), .int i, .ref 3000000, .ref 0] H r H' := pnA h at_373_1660 rfl rfl
  have h : Pn (some xs) m 373 1662 L [.int (i + (Int32.ofInt 1)), .ref 3000000, .ref 0] H r H' := pnA h at_373_1661 rfl rfl
  obtain ⟨y0, zy0, h⟩ := pnSa h at_373_1662
  have h : Pn (some xs) m 373 1663 L [.int y0, .ref 0] H r H' := h
  refine ⟨y0, zy0, ?_⟩
  have h : Pn (some xs) m 373 1664 L [.ref 578, .int y0, .ref 0] H r H' := pnLrn g3 h at_373_1663
  obtain ⟨r2, H2, q, h⟩ := pnC h at_373_1664 kc_373_1664.1 kc_373_1664.2 (as := [.ref 0, .int y0, .ref 578]) (rest := []) rfl
  have q : Pn none m 364 0 [(0, .ref 0), (1, .int y0), (2, .ref 578)] [] H r2 H2 := q
  exact ⟨_, ⟨g0, g1, g2, g3, g4, trivial⟩, r2, H2, q, h⟩
theorem at_373_1667 : mjAtI 373 1667 = some (.istore 5, 2, 0, 0, 0) := by decide +kernel
theorem at_373_1669 : mjAtI 373 1669 = some (.aload_n 2, 1, 0, 0, 0) := by decide +kernel
theorem at_373_1670 : mjAtI 373 1670 = some (.aload_n 0, 1, 0, 0, 0) := by decide +kernel
theorem at_373_1671 : mjAtI 373 1671 = some (.iload 4, 2, 0, 0, 0) := by decide +kernel
theorem at_373_1673 : mjAtI 373 1673 = some (.iconst 1, 1, 0, 0, 0) := by decide +kernel
theorem at_373_1674 : mjAtI 373 1674 = some (.iadd, 1, 0, 0, 0) := by decide +kernel
theorem at_373_1675 : mjAtI 373 1675 = some (.iaload, 1, 0, 0, 0) := by decide +kernel
theorem at_373_1676 : mjAtI 373 1676 = some (.invokevirtual 306, 3, 309, 0, 2248) := by decide +kernel
theorem kc_373_1676 : kCall (.invokevirtual 306) 309 373 = true ∧ kArg 309 = 2 := by decide +kernel
theorem lb_42 {m : Nat} {L : mjL} {H H' : mjH} {r : Option Value ⊕ Nat} {xs : List Int32} {i : Int32} {s0 : Int32} (hT : HT H) (hL : LG L [(0, .ref 3000000), (1, .ref 0), (2, .ref 78), (3, .ref 578), (4, .int i)]) (h : Pn (some xs) m 373 1667 L [.int s0] H r H') : ∃ y0, (¬ (i + (Int32.ofInt 1)) < 0 ∧ xs[(i + (Int32.ofInt 1)).toNatClampNeg]? = some y0) ∧ ∃ L', LG L' [(0, .ref 3000000), (1, .ref 0), (2, .ref 78), (3, .ref 578), (4, .int i)] ∧ ∃ r2 H2, Pn none m 309 0 [(0, .ref 78), (1, .int y0)] [] H r2 H2 ∧ ((∃ cv, r2 = .inl cv ∧ Pn (some xs) m 373 1679 L' (cv.toList ++ []) H2 r H') ∨ (∃ E, r2 = .inr E ∧ r = .inr E ∧ H' = H2)) := by
  obtain ⟨g0, g1, g2, g3, g4, -⟩ := hL
  have h : Pn (some xs) m 373 1669 (mjSt 5 (.int s0) L) [] H r H' := pnA h at_373_1667 rfl rfl
  have g0 : mjGet (mjSt 5 (.int s0) L) 0 = some (.ref 3000000) := gt_ne g0 (by decide) rfl
  have g1 : mjGet (mjSt 5 (.int s0) L) 1 = some (.ref 0) := gt_ne g1 (by decide) rfl
  have g2 : mjGet (mjSt 5 (.int s0) L) 2 = some (.ref 78) := gt_ne g2 (by decide) rfl
  have g3 : mjGet (mjSt 5 (.int s0) L) 3 = some (.ref 578) := gt_ne g3 (by decide) rfl
  have g4 : mjGet (mjSt 5 (.int s0) L) 4 = some (.int i) := gt_ne g4 (by decide) rfl
  have g5 : mjGet (mjSt 5 (.int s0) L) 5 = some (.int s0) := gt_eq
  have h : Pn (some xs) m 373 1670 (mjSt 5 (.int s0) L) [.ref 78] H r H' := pnLrn g2 h at_373_1669
  have h : Pn (some xs) m 373 1671 (mjSt 5 (.int s0) L) [.ref 3000000, .ref 78] H r H' := pnLrn g0 h at_373_1670
  have h : Pn (some xs) m 373 1673 (mjSt 5 (.int s0) L) [.int i, .ref 3000000, .ref 78] H r H' := pnLi g4 h at_373_1671
  have h : Pn (some xs) m 373 1674 (mjSt 5 (.int s0) L) [.int (Int32.ofInt 1), .int i, .ref 3000000, .ref 78] H r H' := pnA h at_373_1673 rfl rfl
  have h : Pn (some xs) m 373 1675 (mjSt 5 (.int s0) L) [.int (i + (Int32.ofInt 1)), .ref 3000000, .ref 78] H r H' := pnA h at_373_1674 rfl rfl
  obtain ⟨y0, zy0, h⟩ := pnSa h at_373_1675
  have h : Pn (some xs) m 373 1676 (mjSt 5 (.int s0) L) [.int y0, .ref 78] H r H' := h
  refine ⟨y0, zy0, ?_⟩
  obtain ⟨r2, H2, q, h⟩ := pnC h at_373_1676 kc_373_1676.1 kc_373_1676.2 (as := [.ref 78, .int y0]) (rest := []) rfl
  have q : Pn none m 309 0 [(0, .ref 78), (1, .int y0)] [] H r2 H2 := q
  exact ⟨_, ⟨g0, g1, g2, g3, g4, trivial⟩, r2, H2, q, h⟩
theorem at_373_1679 : mjAtI 373 1679 = some (.istore 6, 2, 0, 0, 0) := by decide +kernel
theorem at_373_1681 : mjAtI 373 1681 = some (.goto 426, 3, 0, 2107, 0) := by decide +kernel
theorem lc_42 {m : Nat} {L : mjL} {H H' : mjH} {r : Option Value ⊕ Nat} {xs : List Int32} {i : Int32} {s1 : Int32} (hT : HT H) (hL : LG L [(0, .ref 3000000), (1, .ref 0), (2, .ref 78), (3, .ref 578), (4, .int i)]) (h : Pn (some xs) m 373 1679 L [.int s1] H r H') : ∃ L', LG L' [(0, .ref 3000000), (1, .ref 0), (2, .ref 78), (3, .ref 578), (4, .int (i + Int32.ofInt 6))] ∧ Pn (some xs) m 373 23 L' [] H r H' := by
  obtain ⟨g0, g1, g2, g3, g4, -⟩ := hL
  have h : Pn (some xs) m 373 1681 (mjSt 6 (.int s1) L) [] H r H' := pnA h at_373_1679 rfl rfl
  have g0 : mjGet (mjSt 6 (.int s1) L) 0 = some (.ref 3000000) := gt_ne g0 (by decide) rfl
  have g1 : mjGet (mjSt 6 (.int s1) L) 1 = some (.ref 0) := gt_ne g1 (by decide) rfl
  have g2 : mjGet (mjSt 6 (.int s1) L) 2 = some (.ref 78) := gt_ne g2 (by decide) rfl
  have g3 : mjGet (mjSt 6 (.int s1) L) 3 = some (.ref 578) := gt_ne g3 (by decide) rfl
  have g4 : mjGet (mjSt 6 (.int s1) L) 4 = some (.int i) := gt_ne g4 (by decide) rfl
  have g6 : mjGet (mjSt 6 (.int s1) L) 6 = some (.int s1) := gt_eq
  have h : Pn (some xs) m 373 2107 (mjSt 6 (.int s1) L) [] H r H' := pnA h at_373_1681 rfl rfl
  have h : Pn (some xs) m 373 2110 (mjSt 4 (.int (i + Int32.ofInt 6)) (mjSt 6 (.int s1) L)) [] H r H' := pnInc g4 h at_373_2107
  have g0 : mjGet (mjSt 4 (.int (i + Int32.ofInt 6)) (mjSt 6 (.int s1) L)) 0 = some (.ref 3000000) := gt_ne g0 (by decide) rfl
  have g1 : mjGet (mjSt 4 (.int (i + Int32.ofInt 6)) (mjSt 6 (.int s1) L)) 1 = some (.ref 0) := gt_ne g1 (by decide) rfl
  have g2 : mjGet (mjSt 4 (.int (i + Int32.ofInt 6)) (mjSt 6 (.int s1) L)) 2 = some (.ref 78) := gt_ne g2 (by decide) rfl
  have g3 : mjGet (mjSt 4 (.int (i + Int32.ofInt 6)) (mjSt 6 (.int s1) L)) 3 = some (.ref 578) := gt_ne g3 (by decide) rfl
  have g6 : mjGet (mjSt 4 (.int (i + Int32.ofInt 6)) (mjSt 6 (.int s1) L)) 6 = some (.int s1) := gt_ne g6 (by decide) rfl
  have g4 : mjGet (mjSt 4 (.int (i + Int32.ofInt 6)) (mjSt 6 (.int s1) L)) 4 = some (.int (i + Int32.ofInt 6)) := gt_eq
  have h : Pn (some xs) m 373 23 (mjSt 4 (.int (i + Int32.ofInt 6)) (mjSt 6 (.int s1) L)) [] H r H' := pnA h at_373_2110 rfl rfl
  exact ⟨_, ⟨g0, g1, g2, g3, g4, trivial⟩, h⟩
theorem at_373_1684 : mjAtI 373 1684 = some (.aload_n 1, 1, 0, 0, 0) := by decide +kernel
theorem at_373_1685 : mjAtI 373 1685 = some (.aload_n 0, 1, 0, 0, 0) := by decide +kernel
theorem at_373_1686 : mjAtI 373 1686 = some (.iload 4, 2, 0, 0, 0) := by decide +kernel
theorem at_373_1688 : mjAtI 373 1688 = some (.iconst 1, 1, 0, 0, 0) := by decide +kernel
theorem at_373_1689 : mjAtI 373 1689 = some (.iadd, 1, 0, 0, 0) := by decide +kernel
theorem at_373_1690 : mjAtI 373 1690 = some (.iaload, 1, 0, 0, 0) := by decide +kernel
theorem at_373_1691 : mjAtI 373 1691 = some (.aload_n 3, 1, 0, 0, 0) := by decide +kernel
theorem at_373_1692 : mjAtI 373 1692 = some (.invokestatic 307, 3, 365, 1, 1469) := by decide +kernel
theorem kc_373_1692 : kCall (.invokestatic 307) 365 373 = true ∧ kArg 365 = 3 := by decide +kernel
theorem la_43 {m : Nat} {L : mjL} {H H' : mjH} {r : Option Value ⊕ Nat} {xs : List Int32} {i : Int32} (hT : HT H) (hL : LG L [(0, .ref 3000000), (1, .ref 0), (2, .ref 78), (3, .ref 578), (4, .int i)]) (h : Pn (some xs) m 373 1684 L [] H r H') : ∃ y0, (¬ (i + (Int32.ofInt 1)) < 0 ∧ xs[(i + (Int32.ofInt 1)).toNatClampNeg]? = some y0) ∧ ∃ L', LG L' [(0, .ref 3000000), (1, .ref 0), (2, .ref 78), (3, .ref 578), (4, .int i)] ∧ ∃ r2 H2, Pn none m 365 0 [(0, .ref 0), (1, .int y0), (2, .ref 578)] [] H r2 H2 ∧ ((∃ cv, r2 = .inl cv ∧ Pn (some xs) m 373 1695 L' (cv.toList ++ []) H2 r H') ∨ (∃ E, r2 = .inr E ∧ r = .inr E ∧ H' = H2)) := by
  obtain ⟨g0, g1, g2, g3, g4, -⟩ := hL
  have h : Pn (some xs) m 373 1685 L [.ref 0] H r H' := pnLrn g1 h at_373_1684
  have h : Pn (some xs) m 373 1686 L [.ref 3000000, .ref 0] H r H' := pnLrn g0 h at_373_1685
  have h : Pn (some xs) m 373 1688 L [.int i, .ref 3000000, .ref 0] H r H' := pnLi g4 h at_373_1686
  have h : Pn (some xs) m 373 1689 L [.int (Int32.ofInt 1), .int i, .ref 3000000, .ref 0] H r H' := pnA h at_373_1688 rfl rfl
  have h : Pn (some xs) m 373 1690 L [.int (i + (Int32.ofInt 1)), .ref 3000000, .ref 0] H r H' := pnA h at_373_1689 rfl rfl
  obtain ⟨y0, zy0, h⟩ := pnSa h at_373_1690
  have h : Pn (some xs) m 373 1691 L [.int y0, .ref 0] H r H' := h
  refine ⟨y0, zy0, ?_⟩
  have h : Pn (some xs) m 373 1692 L [.ref 578, .int y0, .ref 0] H r H' := pnLrn g3 h at_373_1691
  obtain ⟨r2, H2, q, h⟩ := pnC h at_373_1692 kc_373_1692.1 kc_373_1692.2 (as := [.ref 0, .int y0, .ref 578]) (rest := []) rfl
  have q : Pn none m 365 0 [(0, .ref 0), (1, .int y0), (2, .ref 578)] [] H r2 H2 := q
  exact ⟨_, ⟨g0, g1, g2, g3, g4, trivial⟩, r2, H2, q, h⟩
theorem at_373_1695 : mjAtI 373 1695 = some (.istore 5, 2, 0, 0, 0) := by decide +kernel
theorem at_373_1697 : mjAtI 373 1697 = some (.aload_n 2, 1, 0, 0, 0) := by decide +kernel
theorem at_373_1698 : mjAtI 373 1698 = some (.aload_n 0, 1, 0, 0, 0) := by decide +kernel
theorem at_373_1699 : mjAtI 373 1699 = some (.iload 4, 2, 0, 0, 0) := by decide +kernel
theorem at_373_1701 : mjAtI 373 1701 = some (.iconst 1, 1, 0, 0, 0) := by decide +kernel
theorem at_373_1702 : mjAtI 373 1702 = some (.iadd, 1, 0, 0, 0) := by decide +kernel
theorem at_373_1703 : mjAtI 373 1703 = some (.iaload, 1, 0, 0, 0) := by decide +kernel
theorem at_373_1704 : mjAtI 373 1704 = some (.invokevirtual 309, 3, 290, 0, 2166) := by decide +kernel
theorem kc_373_1704 : kCall (.invokevirtual 309) 290 373 = true ∧ kArg 290 = 2 := by decide +kernel
theorem lb_43 {m : Nat} {L : mjL} {H H' : mjH} {r : Option Value ⊕ Nat} {xs : List Int32} {i : Int32} {s0 : Int32} (hT : HT H) (hL : LG L [(0, .ref 3000000), (1, .ref 0), (2, .ref 78), (3, .ref 578), (4, .int i)]) (h : Pn (some xs) m 373 1695 L [.int s0] H r H') : ∃ y0, (¬ (i + (Int32.ofInt 1)) < 0 ∧ xs[(i + (Int32.ofInt 1)).toNatClampNeg]? = some y0) ∧ ∃ L', LG L' [(0, .ref 3000000), (1, .ref 0), (2, .ref 78), (3, .ref 578), (4, .int i)] ∧ ∃ r2 H2, Pn none m 290 0 [(0, .ref 78), (1, .int y0)] [] H r2 H2 ∧ ((∃ cv, r2 = .inl cv ∧ Pn (some xs) m 373 1707 L' (cv.toList ++ []) H2 r H') ∨ (∃ E, r2 = .inr E ∧ r = .inr E ∧ H' = H2)) := by
  obtain ⟨g0, g1, g2, g3, g4, -⟩ := hL
  have h : Pn (some xs) m 373 1697 (mjSt 5 (.int s0) L) [] H r H' := pnA h at_373_1695 rfl rfl
  have g0 : mjGet (mjSt 5 (.int s0) L) 0 = some (.ref 3000000) := gt_ne g0 (by decide) rfl
  have g1 : mjGet (mjSt 5 (.int s0) L) 1 = some (.ref 0) := gt_ne g1 (by decide) rfl
  have g2 : mjGet (mjSt 5 (.int s0) L) 2 = some (.ref 78) := gt_ne g2 (by decide) rfl
  have g3 : mjGet (mjSt 5 (.int s0) L) 3 = some (.ref 578) := gt_ne g3 (by decide) rfl
  have g4 : mjGet (mjSt 5 (.int s0) L) 4 = some (.int i) := gt_ne g4 (by decide) rfl
  have g5 : mjGet (mjSt 5 (.int s0) L) 5 = some (.int s0) := gt_eq
  have h : Pn (some xs) m 373 1698 (mjSt 5 (.int s0) L) [.ref 78] H r H' := pnLrn g2 h at_373_1697
  have h : Pn (some xs) m 373 1699 (mjSt 5 (.int s0) L) [.ref 3000000, .ref 78] H r H' := pnLrn g0 h at_373_1698
  have h : Pn (some xs) m 373 1701 (mjSt 5 (.int s0) L) [.int i, .ref 3000000, .ref 78] H r H' := pnLi g4 h at_373_1699
  have h : Pn (some xs) m 373 1702 (mjSt 5 (.int s0) L) [.int (Int32.ofInt 1), .int i, .ref 3000000, .ref 78] H r H' := pnA h at_373_1701 rfl rfl
  have h : Pn (some xs) m 373 1703 (mjSt 5 (.int s0) L) [.int (i + (Int32.ofInt 1)), .ref 3000000, .ref 78] H r H' := pnA h at_373_1702 rfl rfl
  obtain ⟨y0, zy0, h⟩ := pnSa h at_373_1703
  have h : Pn (some xs) m 373 1704 (mjSt 5 (.int s0) L) [.int y0, .ref 78] H r H' := h
  refine ⟨y0, zy0, ?_⟩
  obtain ⟨r2, H2, q, h⟩ := pnC h at_373_1704 kc_373_1704.1 kc_373_1704.2 (as := [.ref 78, .int y0]) (rest := []) rfl
  have q : Pn none m 290 0 [(0, .ref 78), (1, .int y0)] [] H r2 H2 := q
  exact ⟨_, ⟨g0, g1, g2, g3, g4, trivial⟩, r2, H2, q, h⟩
theorem at_373_1707 : mjAtI 373 1707 = some (.lstore 6, 2, 0, 0, 0) := by decide +kernel
theorem at_373_1709 : mjAtI 373 1709 = some (.goto 398, 3, 0, 2107, 0) := by decide +kernel
theorem lc_43 {m : Nat} {L : mjL} {H H' : mjH} {r : Option Value ⊕ Nat} {xs : List Int32} {i : Int32} {s1 : Int64} (hT : HT H) (hL : LG L [(0, .ref 3000000), (1, .ref 0), (2, .ref 78), (3, .ref 578), (4, .int i)]) (h : Pn (some xs) m 373 1707 L [.long s1] H r H') : ∃ L', LG L' [(0, .ref 3000000), (1, .ref 0), (2, .ref 78), (3, .ref 578), (4, .int (i + Int32.ofInt 6))] ∧ Pn (some xs) m 373 23 L' [] H r H' := by
  obtain ⟨g0, g1, g2, g3, g4, -⟩ := hL
  have h : Pn (some xs) m 373 1709 (mjSt2 6 (.long s1) L) [] H r H' := pnA h at_373_1707 rfl rfl
  have g0 : mjGet (mjSt2 6 (.long s1) L) 0 = some (.ref 3000000) := gt_ne2 g0 (by decide) (by decide) rfl
  have g1 : mjGet (mjSt2 6 (.long s1) L) 1 = some (.ref 0) := gt_ne2 g1 (by decide) (by decide) rfl
  have g2 : mjGet (mjSt2 6 (.long s1) L) 2 = some (.ref 78) := gt_ne2 g2 (by decide) (by decide) rfl
  have g3 : mjGet (mjSt2 6 (.long s1) L) 3 = some (.ref 578) := gt_ne2 g3 (by decide) (by decide) rfl
  have g4 : mjGet (mjSt2 6 (.long s1) L) 4 = some (.int i) := gt_ne2 g4 (by decide) (by decide) rfl
  have g6 : mjGet (mjSt2 6 (.long s1) L) 6 = some (.long s1) := gt_eq2
  have h : Pn (some xs) m 373 2107 (mjSt2 6 (.long s1) L) [] H r H' := pnA h at_373_1709 rfl rfl
  have h : Pn (some xs) m 373 2110 (mjSt 4 (.int (i + Int32.ofInt 6)) (mjSt2 6 (.long s1) L)) [] H r H' := pnInc g4 h at_373_2107
  have g0 : mjGet (mjSt 4 (.int (i + Int32.ofInt 6)) (mjSt2 6 (.long s1) L)) 0 = some (.ref 3000000) := gt_ne g0 (by decide) rfl
  have g1 : mjGet (mjSt 4 (.int (i + Int32.ofInt 6)) (mjSt2 6 (.long s1) L)) 1 = some (.ref 0) := gt_ne g1 (by decide) rfl
  have g2 : mjGet (mjSt 4 (.int (i + Int32.ofInt 6)) (mjSt2 6 (.long s1) L)) 2 = some (.ref 78) := gt_ne g2 (by decide) rfl
  have g3 : mjGet (mjSt 4 (.int (i + Int32.ofInt 6)) (mjSt2 6 (.long s1) L)) 3 = some (.ref 578) := gt_ne g3 (by decide) rfl
  have g6 : mjGet (mjSt 4 (.int (i + Int32.ofInt 6)) (mjSt2 6 (.long s1) L)) 6 = some (.long s1) := gt_ne g6 (by decide) rfl
  have g4 : mjGet (mjSt 4 (.int (i + Int32.ofInt 6)) (mjSt2 6 (.long s1) L)) 4 = some (.int (i + Int32.ofInt 6)) := gt_eq
  have h : Pn (some xs) m 373 23 (mjSt 4 (.int (i + Int32.ofInt 6)) (mjSt2 6 (.long s1) L)) [] H r H' := pnA h at_373_2110 rfl rfl
  exact ⟨_, ⟨g0, g1, g2, g3, g4, trivial⟩, h⟩
theorem at_373_1712 : mjAtI 373 1712 = some (.aload_n 1, 1, 0, 0, 0) := by decide +kernel
theorem at_373_1713 : mjAtI 373 1713 = some (.aload_n 0, 1, 0, 0, 0) := by decide +kernel
theorem at_373_1714 : mjAtI 373 1714 = some (.iload 4, 2, 0, 0, 0) := by decide +kernel
theorem at_373_1716 : mjAtI 373 1716 = some (.iconst 1, 1, 0, 0, 0) := by decide +kernel
theorem at_373_1717 : mjAtI 373 1717 = some (.iadd, 1, 0, 0, 0) := by decide +kernel
theorem at_373_1718 : mjAtI 373 1718 = some (.iaload, 1, 0, 0, 0) := by decide +kernel
theorem at_373_1719 : mjAtI 373 1719 = some (.aload_n 0, 1, 0, 0, 0) := by decide +kernel
theorem at_373_1720 : mjAtI 373 1720 = some (.iload 4, 2, 0, 0, 0) := by decide +kernel
theorem at_373_1722 : mjAtI 373 1722 = some (.iconst 2, 1, 0, 0, 0) := by decide +kernel
theorem at_373_1723 : mjAtI 373 1723 = some (.iadd, 1, 0, 0, 0) := by decide +kernel
theorem at_373_1724 : mjAtI 373 1724 = some (.iaload, 1, 0, 0, 0) := by decide +kernel
theorem at_373_1725 : mjAtI 373 1725 = some (.aload_n 0, 1, 0, 0, 0) := by decide +kernel
theorem at_373_1726 : mjAtI 373 1726 = some (.iload 4, 2, 0, 0, 0) := by decide +kernel
theorem at_373_1728 : mjAtI 373 1728 = some (.iconst 3, 1, 0, 0, 0) := by decide +kernel
theorem at_373_1729 : mjAtI 373 1729 = some (.iadd, 1, 0, 0, 0) := by decide +kernel
theorem at_373_1730 : mjAtI 373 1730 = some (.iaload, 1, 0, 0, 0) := by decide +kernel
theorem at_373_1731 : mjAtI 373 1731 = some (.aload_n 3, 1, 0, 0, 0) := by decide +kernel
theorem at_373_1732 : mjAtI 373 1732 = some (.invokestatic 310, 3, 366, 1, 1476) := by decide +kernel
theorem kc_373_1732 : kCall (.invokestatic 310) 366 373 = true ∧ kArg 366 = 5 := by decide +kernel
theorem la_44 {m : Nat} {L : mjL} {H H' : mjH} {r : Option Value ⊕ Nat} {xs : List Int32} {i : Int32} (hT : HT H) (hL : LG L [(0, .ref 3000000), (1, .ref 0), (2, .ref 78), (3, .ref 578), (4, .int i)]) (h : Pn (some xs) m 373 1712 L [] H r H') : ∃ y0, (¬ (i + (Int32.ofInt 1)) < 0 ∧ xs[(i + (Int32.ofInt 1)).toNatClampNeg]? = some y0) ∧ ∃ y1, (¬ (i + (Int32.ofInt 2)) < 0 ∧ xs[(i + (Int32.ofInt 2)).toNatClampNeg]? = some y1) ∧ ∃ y2, (¬ (i + (Int32.ofInt 3)) < 0 ∧ xs[(i + (Int32.ofInt 3)).toNatClampNeg]? = some y2) ∧ ∃ L', LG L' [(0, .ref 3000000), (1, .ref 0), (2, .ref 78), (3, .ref 578), (4, .int i)] ∧ ∃ r2 H2, Pn none m 366 0 [(0, .ref 0), (1, .int y0), (2, .int y1), (3, .int y2), (4, .ref 578)] [] H r2 H2 ∧ ((∃ cv, r2 = .inl cv ∧ Pn (some xs) m 373 1735 L' (cv.toList ++ []) H2 r H') ∨ (∃ E, r2 = .inr E ∧ r = .inr E ∧ H' = H2)) := by
  obtain ⟨g0, g1, g2, g3, g4, -⟩ := hL
  have h : Pn (some xs) m 373 1713 L [.ref 0] H r H' := pnLrn g1 h at_373_1712
  have h : Pn (some xs) m 373 1714 L [.ref 3000000, .ref 0] H r H' := pnLrn g0 h at_373_1713
  have h : Pn (some xs) m 373 1716 L [.int i, .ref 3000000, .ref 0] H r H' := pnLi g4 h at_373_1714
  have h : Pn (some xs) m 373 1717 L [.int (Int32.ofInt 1), .int i, .ref 3000000, .ref 0] H r H' := pnA h at_373_1716 rfl rfl
  have h : Pn (some xs) m 373 1718 L [.int (i + (Int32.ofInt 1)), .ref 3000000, .ref 0] H r H' := pnA h at_373_1717 rfl rfl
  obtain ⟨y0, zy0, h⟩ := pnSa h at_373_1718
  have h : Pn (some xs) m 373 1719 L [.int y0, .ref 0] H r H' := h
  refine ⟨y0, zy0, ?_⟩
  have h : Pn (some xs) m 373 1720 L [.ref 3000000, .int y0, .ref 0] H r H' := pnLrn g0 h at_373_1719
  have h : Pn (some xs) m 373 1722 L [.int i, .ref 3000000, .int y0, .ref 0] H r H' := pnLi g4 h at_373_1720
  have h : Pn (some xs) m 373 1723 L [.int (Int32.ofInt 2), .int i, .ref 3000000, .int y0, .ref 0] H r H' := pnA h at_373_1722 rfl rfl
  have h : Pn (some xs) m 373 1724 L [.int (i + (Int32.ofInt 2)), .ref 3000000, .int y0, .ref 0] H r H' := pnA h at_373_1723 rfl rfl
  obtain ⟨y1, zy1, h⟩ := pnSa h at_373_1724
  have h : Pn (some xs) m 373 1725 L [.int y1, .int y0, .ref 0] H r H' := h
  refine ⟨y1, zy1, ?_⟩
  have h : Pn (some xs) m 373 1726 L [.ref 3000000, .int y1, .int y0, .ref 0] H r H' := pnLrn g0 h at_373_1725
  have h : Pn (some xs) m 373 1728 L [.int i, .ref 3000000, .int y1, .int y0, .ref 0] H r H' := pnLi g4 h at_373_1726
  have h : Pn (some xs) m 373 1729 L [.int (Int32.ofInt 3), .int i, .ref 3000000, .int y1, .int y0, .ref 0] H r H' := pnA h at_373_1728 rfl rfl
  have h : Pn (some xs) m 373 1730 L [.int (i + (Int32.ofInt 3)), .ref 3000000, .int y1, .int y0, .ref 0] H r H' := pnA h at_373_1729 rfl rfl
  obtain ⟨y2, zy2, h⟩ := pnSa h at_373_1730
  have h : Pn (some xs) m 373 1731 L [.int y2, .int y1, .int y0, .ref 0] H r H' := h
  refine ⟨y2, zy2, ?_⟩
  have h : Pn (some xs) m 373 1732 L [.ref 578, .int y2, .int y1, .int y0, .ref 0] H r H' := pnLrn g3 h at_373_1731
  obtain ⟨r2, H2, q, h⟩ := pnC h at_373_1732 kc_373_1732.1 kc_373_1732.2 (as := [.ref 0, .int y0, .int y1, .int y2, .ref 578]) (rest := []) rfl
  have q : Pn none m 366 0 [(0, .ref 0), (1, .int y0), (2, .int y1), (3, .int y2), (4, .ref 578)] [] H r2 H2 := q
  exact ⟨_, ⟨g0, g1, g2, g3, g4, trivial⟩, r2, H2, q, h⟩
theorem at_373_1735 : mjAtI 373 1735 = some (.istore 5, 2, 0, 0, 0) := by decide +kernel
theorem at_373_1737 : mjAtI 373 1737 = some (.aload_n 2, 1, 0, 0, 0) := by decide +kernel
theorem at_373_1738 : mjAtI 373 1738 = some (.aload_n 0, 1, 0, 0, 0) := by decide +kernel
theorem at_373_1739 : mjAtI 373 1739 = some (.iload 4, 2, 0, 0, 0) := by decide +kernel
theorem at_373_1741 : mjAtI 373 1741 = some (.iconst 1, 1, 0, 0, 0) := by decide +kernel
theorem at_373_1742 : mjAtI 373 1742 = some (.iadd, 1, 0, 0, 0) := by decide +kernel
theorem at_373_1743 : mjAtI 373 1743 = some (.iaload, 1, 0, 0, 0) := by decide +kernel
theorem at_373_1744 : mjAtI 373 1744 = some (.aload_n 0, 1, 0, 0, 0) := by decide +kernel
theorem at_373_1745 : mjAtI 373 1745 = some (.iload 4, 2, 0, 0, 0) := by decide +kernel
theorem at_373_1747 : mjAtI 373 1747 = some (.iconst 2, 1, 0, 0, 0) := by decide +kernel
theorem at_373_1748 : mjAtI 373 1748 = some (.iadd, 1, 0, 0, 0) := by decide +kernel
theorem at_373_1749 : mjAtI 373 1749 = some (.iaload, 1, 0, 0, 0) := by decide +kernel
theorem at_373_1750 : mjAtI 373 1750 = some (.aload_n 0, 1, 0, 0, 0) := by decide +kernel
theorem at_373_1751 : mjAtI 373 1751 = some (.iload 4, 2, 0, 0, 0) := by decide +kernel
theorem at_373_1753 : mjAtI 373 1753 = some (.iconst 3, 1, 0, 0, 0) := by decide +kernel
theorem at_373_1754 : mjAtI 373 1754 = some (.iadd, 1, 0, 0, 0) := by decide +kernel
theorem at_373_1755 : mjAtI 373 1755 = some (.iaload, 1, 0, 0, 0) := by decide +kernel
theorem at_373_1756 : mjAtI 373 1756 = some (.invokevirtual 312, 3, 294, 0, 2184) := by decide +kernel
theorem kc_373_1756 : kCall (.invokevirtual 312) 294 373 = true ∧ kArg 294 = 4 := by decide +kernel
theorem lb_44 {m : Nat} {L : mjL} {H H' : mjH} {r : Option Value ⊕ Nat} {xs : List Int32} {i : Int32} {s0 : Int32} (hT : HT H) (hL : LG L [(0, .ref 3000000), (1, .ref 0), (2, .ref 78), (3, .ref 578), (4, .int i)]) (h : Pn (some xs) m 373 1735 L [.int s0] H r H') : ∃ y0, (¬ (i + (Int32.ofInt 1)) < 0 ∧ xs[(i + (Int32.ofInt 1)).toNatClampNeg]? = some y0) ∧ ∃ y1, (¬ (i + (Int32.ofInt 2)) < 0 ∧ xs[(i + (Int32.ofInt 2)).toNatClampNeg]? = some y1) ∧ ∃ y2, (¬ (i + (Int32.ofInt 3)) < 0 ∧ xs[(i + (Int32.ofInt 3)).toNatClampNeg]? = some y2) ∧ ∃ L', LG L' [(0, .ref 3000000), (1, .ref 0), (2, .ref 78), (3, .ref 578), (4, .int i)] ∧ ∃ r2 H2, Pn none m 294 0 [(0, .ref 78), (1, .int y0), (2, .int y1), (3, .int y2)] [] H r2 H2 ∧ ((∃ cv, r2 = .inl cv ∧ Pn (some xs) m 373 1759 L' (cv.toList ++ []) H2 r H') ∨ (∃ E, r2 = .inr E ∧ r = .inr E ∧ H' = H2)) := by
  obtain ⟨g0, g1, g2, g3, g4, -⟩ := hL
  have h : Pn (some xs) m 373 1737 (mjSt 5 (.int s0) L) [] H r H' := pnA h at_373_1735 rfl rfl
  have g0 : mjGet (mjSt 5 (.int s0) L) 0 = some (.ref 3000000) := gt_ne g0 (by decide) rfl
  have g1 : mjGet (mjSt 5 (.int s0) L) 1 = some (.ref 0) := gt_ne g1 (by decide) rfl
  have g2 : mjGet (mjSt 5 (.int s0) L) 2 = some (.ref 78) := gt_ne g2 (by decide) rfl
  have g3 : mjGet (mjSt 5 (.int s0) L) 3 = some (.ref 578) := gt_ne g3 (by decide) rfl
  have g4 : mjGet (mjSt 5 (.int s0) L) 4 = some (.int i) := gt_ne g4 (by decide) rfl
  have g5 : mjGet (mjSt 5 (.int s0) L) 5 = some (.int s0) := gt_eq
  have h : Pn (some xs) m 373 1738 (mjSt 5 (.int s0) L) [.ref 78] H r H' := pnLrn g2 h at_373_1737
  have h : Pn (some xs) m 373 1739 (mjSt 5 (.int s0) L) [.ref 3000000, .ref 78] H r H' := pnLrn g0 h at_373_1738
  have h : Pn (some xs) m 373 1741 (mjSt 5 (.int s0) L) [.int i, .ref 3000000, .ref 78] H r H' := pnLi g4 h at_373_1739
  have h : Pn (some xs) m 373 1742 (mjSt 5 (.int s0) L) [.int (Int32.ofInt 1), .int i, .ref 3000000, .ref 78] H r H' := pnA h at_373_1741 rfl rfl
  have h : Pn (some xs) m 373 1743 (mjSt 5 (.int s0) L) [.int (i + (Int32.ofInt 1)), .ref 3000000, .ref 78] H r H' := pnA h at_373_1742 rfl rfl
  obtain ⟨y0, zy0, h⟩ := pnSa h at_373_1743
  have h : Pn (some xs) m 373 1744 (mjSt 5 (.int s0) L) [.int y0, .ref 78] H r H' := h
  refine ⟨y0, zy0, ?_⟩
  have h : Pn (some xs) m 373 1745 (mjSt 5 (.int s0) L) [.ref 3000000, .int y0, .ref 78] H r H' := pnLrn g0 h at_373_1744
  have h : Pn (some xs) m 373 1747 (mjSt 5 (.int s0) L) [.int i, .ref 3000000, .int y0, .ref 78] H r H' := pnLi g4 h at_373_1745
  have h : Pn (some xs) m 373 1748 (mjSt 5 (.int s0) L) [.int (Int32.ofInt 2), .int i, .ref 3000000, .int y0, .ref 78] H r H' := pnA h at_373_1747 rfl rfl
  have h : Pn (some xs) m 373 1749 (mjSt 5 (.int s0) L) [.int (i + (Int32.ofInt 2)), .ref 3000000, .int y0, .ref 78] H r H' := pnA h at_373_1748 rfl rfl
  obtain ⟨y1, zy1, h⟩ := pnSa h at_373_1749
  have h : Pn (some xs) m 373 1750 (mjSt 5 (.int s0) L) [.int y1, .int y0, .ref 78] H r H' := h
  refine ⟨y1, zy1, ?_⟩
  have h : Pn (some xs) m 373 1751 (mjSt 5 (.int s0) L) [.ref 3000000, .int y1, .int y0, .ref 78] H r H' := pnLrn g0 h at_373_1750
  have h : Pn (some xs) m 373 1753 (mjSt 5 (.int s0) L) [.int i, .ref 3000000, .int y1, .int y0, .ref 78] H r H' := pnLi g4 h at_373_1751
  have h : Pn (some xs) m 373 1754 (mjSt 5 (.int s0) L) [.int (Int32.ofInt 3), .int i, .ref 3000000, .int y1, .int y0, .ref 78] H r H' := pnA h at_373_1753 rfl rfl
  have h : Pn (some xs) m 373 1755 (mjSt 5 (.int s0) L) [.int (i + (Int32.ofInt 3)), .ref 3000000, .int y1, .int y0, .ref 78] H r H' := pnA h at_373_1754 rfl rfl
  obtain ⟨y2, zy2, h⟩ := pnSa h at_373_1755
  have h : Pn (some xs) m 373 1756 (mjSt 5 (.int s0) L) [.int y2, .int y1, .int y0, .ref 78] H r H' := h
  refine ⟨y2, zy2, ?_⟩
  obtain ⟨r2, H2, q, h⟩ := pnC h at_373_1756 kc_373_1756.1 kc_373_1756.2 (as := [.ref 78, .int y0, .int y1, .int y2]) (rest := []) rfl
  have q : Pn none m 294 0 [(0, .ref 78), (1, .int y0), (2, .int y1), (3, .int y2)] [] H r2 H2 := q
  exact ⟨_, ⟨g0, g1, g2, g3, g4, trivial⟩, r2, H2, q, h⟩
theorem at_373_1759 : mjAtI 373 1759 = some (.istore 6, 2, 0, 0, 0) := by decide +kernel
theorem at_373_1761 : mjAtI 373 1761 = some (.goto 346, 3, 0, 2107, 0) := by decide +kernel
theorem lc_44 {m : Nat} {L : mjL} {H H' : mjH} {r : Option Value ⊕ Nat} {xs : List Int32} {i : Int32} {s1 : Int32} (hT : HT H) (hL : LG L [(0, .ref 3000000), (1, .ref 0), (2, .ref 78), (3, .ref 578), (4, .int i)]) (h : Pn (some xs) m 373 1759 L [.int s1] H r H') : ∃ L', LG L' [(0, .ref 3000000), (1, .ref 0), (2, .ref 78), (3, .ref 578), (4, .int (i + Int32.ofInt 6))] ∧ Pn (some xs) m 373 23 L' [] H r H' := by
  obtain ⟨g0, g1, g2, g3, g4, -⟩ := hL
  have h : Pn (some xs) m 373 1761 (mjSt 6 (.int s1) L) [] H r H' := pnA h at_373_1759 rfl rfl
  have g0 : mjGet (mjSt 6 (.int s1) L) 0 = some (.ref 3000000) := gt_ne g0 (by decide) rfl
  have g1 : mjGet (mjSt 6 (.int s1) L) 1 = some (.ref 0) := gt_ne g1 (by decide) rfl
  have g2 : mjGet (mjSt 6 (.int s1) L) 2 = some (.ref 78) := gt_ne g2 (by decide) rfl
  have g3 : mjGet (mjSt 6 (.int s1) L) 3 = some (.ref 578) := gt_ne g3 (by decide) rfl
  have g4 : mjGet (mjSt 6 (.int s1) L) 4 = some (.int i) := gt_ne g4 (by decide) rfl
  have g6 : mjGet (mjSt 6 (.int s1) L) 6 = some (.int s1) := gt_eq
  have h : Pn (some xs) m 373 2107 (mjSt 6 (.int s1) L) [] H r H' := pnA h at_373_1761 rfl rfl
  have h : Pn (some xs) m 373 2110 (mjSt 4 (.int (i + Int32.ofInt 6)) (mjSt 6 (.int s1) L)) [] H r H' := pnInc g4 h at_373_2107
  have g0 : mjGet (mjSt 4 (.int (i + Int32.ofInt 6)) (mjSt 6 (.int s1) L)) 0 = some (.ref 3000000) := gt_ne g0 (by decide) rfl
  have g1 : mjGet (mjSt 4 (.int (i + Int32.ofInt 6)) (mjSt 6 (.int s1) L)) 1 = some (.ref 0) := gt_ne g1 (by decide) rfl
  have g2 : mjGet (mjSt 4 (.int (i + Int32.ofInt 6)) (mjSt 6 (.int s1) L)) 2 = some (.ref 78) := gt_ne g2 (by decide) rfl
  have g3 : mjGet (mjSt 4 (.int (i + Int32.ofInt 6)) (mjSt 6 (.int s1) L)) 3 = some (.ref 578) := gt_ne g3 (by decide) rfl
  have g6 : mjGet (mjSt 4 (.int (i + Int32.ofInt 6)) (mjSt 6 (.int s1) L)) 6 = some (.int s1) := gt_ne g6 (by decide) rfl
  have g4 : mjGet (mjSt 4 (.int (i + Int32.ofInt 6)) (mjSt 6 (.int s1) L)) 4 = some (.int (i + Int32.ofInt 6)) := gt_eq
  have h : Pn (some xs) m 373 23 (mjSt 4 (.int (i + Int32.ofInt 6)) (mjSt 6 (.int s1) L)) [] H r H' := pnA h at_373_2110 rfl rfl
  exact ⟨_, ⟨g0, g1, g2, g3, g4, trivial⟩, h⟩
theorem at_373_1764 : mjAtI 373 1764 = some (.aload_n 1, 1, 0, 0, 0) := by decide +kernel
theorem at_373_1765 : mjAtI 373 1765 = some (.aload_n 0, 1, 0, 0, 0) := by decide +kernel
theorem at_373_1766 : mjAtI 373 1766 = some (.iload 4, 2, 0, 0, 0) := by decide +kernel
theorem at_373_1768 : mjAtI 373 1768 = some (.iconst 1, 1, 0, 0, 0) := by decide +kernel
theorem at_373_1769 : mjAtI 373 1769 = some (.iadd, 1, 0, 0, 0) := by decide +kernel
theorem at_373_1770 : mjAtI 373 1770 = some (.iaload, 1, 0, 0, 0) := by decide +kernel
theorem at_373_1771 : mjAtI 373 1771 = some (.aload_n 0, 1, 0, 0, 0) := by decide +kernel
theorem at_373_1772 : mjAtI 373 1772 = some (.iload 4, 2, 0, 0, 0) := by decide +kernel
theorem at_373_1774 : mjAtI 373 1774 = some (.iconst 2, 1, 0, 0, 0) := by decide +kernel
theorem at_373_1775 : mjAtI 373 1775 = some (.iadd, 1, 0, 0, 0) := by decide +kernel
theorem at_373_1776 : mjAtI 373 1776 = some (.iaload, 1, 0, 0, 0) := by decide +kernel
theorem at_373_1777 : mjAtI 373 1777 = some (.aload_n 3, 1, 0, 0, 0) := by decide +kernel
theorem at_373_1778 : mjAtI 373 1778 = some (.invokestatic 313, 3, 367, 1, 1483) := by decide +kernel
theorem kc_373_1778 : kCall (.invokestatic 313) 367 373 = true ∧ kArg 367 = 4 := by decide +kernel
theorem la_45 {m : Nat} {L : mjL} {H H' : mjH} {r : Option Value ⊕ Nat} {xs : List Int32} {i : Int32} (hT : HT H) (hL : LG L [(0, .ref 3000000), (1, .ref 0), (2, .ref 78), (3, .ref 578), (4, .int i)]) (h : Pn (some xs) m 373 1764 L [] H r H') : ∃ y0, (¬ (i + (Int32.ofInt 1)) < 0 ∧ xs[(i + (Int32.ofInt 1)).toNatClampNeg]? = some y0) ∧ ∃ y1, (¬ (i + (Int32.ofInt 2)) < 0 ∧ xs[(i + (Int32.ofInt 2)).toNatClampNeg]? = some y1) ∧ ∃ L', LG L' [(0, .ref 3000000), (1, .ref 0), (2, .ref 78), (3, .ref 578), (4, .int i)] ∧ ∃ r2 H2, Pn none m 367 0 [(0, .ref 0), (1, .int y0), (2, .int y1), (3, .ref 578)] [] H r2 H2 ∧ ((∃ cv, r2 = .inl cv ∧ Pn (some xs) m 373 1781 L' (cv.toList ++ []) H2 r H') ∨ (∃ E, r2 = .inr E ∧ r = .inr E ∧ H' = H2)) := by
  obtain ⟨g0, g1, g2, g3, g4, -⟩ := hL
  have h : Pn (some xs) m 373 1765 L [.ref 0] H r H' := pnLrn g1 h at_373_1764
  have h : Pn (some xs) m 373 1766 L [.ref 3000000, .ref 0] H r H' := pnLrn g0 h at_373_1765
  have h : Pn (some xs) m 373 1768 L [.int i, .ref 3000000, .ref 0] H r H' := pnLi g4 h at_373_1766
  have h : Pn (some xs) m 373 1769 L [.int (Int32.ofInt 1), .int i, .ref 3000000, .ref 0] H r H' := pnA h at_373_1768 rfl rfl
  have h : Pn (some xs) m 373 1770 L [.int (i + (Int32.ofInt 1)), .ref 3000000, .ref 0] H r H' := pnA h at_373_1769 rfl rfl
  obtain ⟨y0, zy0, h⟩ := pnSa h at_373_1770
  have h : Pn (some xs) m 373 1771 L [.int y0, .ref 0] H r H' := h
  refine ⟨y0, zy0, ?_⟩
  have h : Pn (some xs) m 373 1772 L [.ref 3000000, .int y0, .ref 0] H r H' := pnLrn g0 h at_373_1771
  have h : Pn (some xs) m 373 1774 L [.int i, .ref 3000000, .int y0, .ref 0] H r H' := pnLi g4 h at_373_1772
  have h : Pn (some xs) m 373 1775 L [.int (Int32.ofInt 2), .int i, .ref 3000000, .int y0, .ref 0] H r H' := pnA h at_373_1774 rfl rfl
  have h : Pn (some xs) m 373 1776 L [.int (i + (Int32.ofInt 2)), .ref 3000000, .int y0, .ref 0] H r H' := pnA h at_373_1775 rfl rfl
  obtain ⟨y1, zy1, h⟩ := pnSa h at_373_1776
  have h : Pn (some xs) m 373 1777 L [.int y1, .int y0, .ref 0] H r H' := h
  refine ⟨y1, zy1, ?_⟩
  have h : Pn (some xs) m 373 1778 L [.ref 578, .int y1, .int y0, .ref 0] H r H' := pnLrn g3 h at_373_1777
  obtain ⟨r2, H2, q, h⟩ := pnC h at_373_1778 kc_373_1778.1 kc_373_1778.2 (as := [.ref 0, .int y0, .int y1, .ref 578]) (rest := []) rfl
  have q : Pn none m 367 0 [(0, .ref 0), (1, .int y0), (2, .int y1), (3, .ref 578)] [] H r2 H2 := q
  exact ⟨_, ⟨g0, g1, g2, g3, g4, trivial⟩, r2, H2, q, h⟩
theorem at_373_1781 : mjAtI 373 1781 = some (.istore 5, 2, 0, 0, 0) := by decide +kernel
theorem at_373_1783 : mjAtI 373 1783 = some (.aload_n 2, 1, 0, 0, 0) := by decide +kernel
theorem at_373_1784 : mjAtI 373 1784 = some (.aload_n 0, 1, 0, 0, 0) := by decide +kernel
theorem at_373_1785 : mjAtI 373 1785 = some (.iload 4, 2, 0, 0, 0) := by decide +kernel
theorem at_373_1787 : mjAtI 373 1787 = some (.iconst 1, 1, 0, 0, 0) := by decide +kernel
theorem at_373_1788 : mjAtI 373 1788 = some (.iadd, 1, 0, 0, 0) := by decide +kernel
theorem at_373_1789 : mjAtI 373 1789 = some (.iaload, 1, 0, 0, 0) := by decide +kernel
theorem at_373_1790 : mjAtI 373 1790 = some (.aload_n 0, 1, 0, 0, 0) := by decide +kernel
theorem at_373_1791 : mjAtI 373 1791 = some (.iload 4, 2, 0, 0, 0) := by decide +kernel
theorem at_373_1793 : mjAtI 373 1793 = some (.iconst 2, 1, 0, 0, 0) := by decide +kernel
theorem at_373_1794 : mjAtI 373 1794 = some (.iadd, 1, 0, 0, 0) := by decide +kernel
theorem at_373_1795 : mjAtI 373 1795 = some (.iaload, 1, 0, 0, 0) := by decide +kernel
theorem at_373_1796 : mjAtI 373 1796 = some (.invokevirtual 315, 3, 306, 0, 2236) := by decide +kernel
theorem kc_373_1796 : kCall (.invokevirtual 315) 306 373 = true ∧ kArg 306 = 3 := by decide +kernel
theorem lb_45 {m : Nat} {L : mjL} {H H' : mjH} {r : Option Value ⊕ Nat} {xs : List Int32} {i : Int32} {s0 : Int32} (hT : HT H) (hL : LG L [(0, .ref 3000000), (1, .ref 0), (2, .ref 78), (3, .ref 578), (4, .int i)]) (h : Pn (some xs) m 373 1781 L [.int s0] H r H') : ∃ y0, (¬ (i + (Int32.ofInt 1)) < 0 ∧ xs[(i + (Int32.ofInt 1)).toNatClampNeg]? = some y0) ∧ ∃ y1, (¬ (i + (Int32.ofInt 2)) < 0 ∧ xs[(i + (Int32.ofInt 2)).toNatClampNeg]? = some y1) ∧ ∃ L', LG L' [(0, .ref 3000000), (1, .ref 0), (2, .ref 78), (3, .ref 578), (4, .int i)] ∧ ∃ r2 H2, Pn none m 306 0 [(0, .ref 78), (1, .int y0), (2, .int y1)] [] H r2 H2 ∧ ((∃ cv, r2 = .inl cv ∧ Pn (some xs) m 373 1799 L' (cv.toList ++ []) H2 r H') ∨ (∃ E, r2 = .inr E ∧ r = .inr E ∧ H' = H2)) := by
  obtain ⟨g0, g1, g2, g3, g4, -⟩ := hL
  have h : Pn (some xs) m 373 1783 (mjSt 5 (.int s0) L) [] H r H' := pnA h at_373_1781 rfl rfl
  have g0 : mjGet (mjSt 5 (.int s0) L) 0 = some (.ref 3000000) := gt_ne g0 (by decide) rfl
  have g1 : mjGet (mjSt 5 (.int s0) L) 1 = some (.ref 0) := gt_ne g1 (by decide) rfl
  have g2 : mjGet (mjSt 5 (.int s0) L) 2 = some (.ref 78) := gt_ne g2 (by decide) rfl
  have g3 : mjGet (mjSt 5 (.int s0) L) 3 = some (.ref 578) := gt_ne g3 (by decide) rfl
  have g4 : mjGet (mjSt 5 (.int s0) L) 4 = some (.int i) := gt_ne g4 (by decide) rfl
  have g5 : mjGet (mjSt 5 (.int s0) L) 5 = some (.int s0) := gt_eq
  have h : Pn (some xs) m 373 1784 (mjSt 5 (.int s0) L) [.ref 78] H r H' := pnLrn g2 h at_373_1783
  have h : Pn (some xs) m 373 1785 (mjSt 5 (.int s0) L) [.ref 3000000, .ref 78] H r H' := pnLrn g0 h at_373_1784
  have h : Pn (some xs) m 373 1787 (mjSt 5 (.int s0) L) [.int i, .ref 3000000, .ref 78] H r H' := pnLi g4 h at_373_1785
  have h : Pn (some xs) m 373 1788 (mjSt 5 (.int s0) L) [.int (Int32.ofInt 1), .int i, .ref 3000000, .ref 78] H r H' := pnA h at_373_1787 rfl rfl
  have h : Pn (some xs) m 373 1789 (mjSt 5 (.int s0) L) [.int (i + (Int32.ofInt 1)), .ref 3000000, .ref 78] H r H' := pnA h at_373_1788 rfl rfl
  obtain ⟨y0, zy0, h⟩ := pnSa h at_373_1789
  have h : Pn (some xs) m 373 1790 (mjSt 5 (.int s0) L) [.int y0, .ref 78] H r H' := h
  refine ⟨y0, zy0, ?_⟩
  have h : Pn (some xs) m 373 1791 (mjSt 5 (.int s0) L) [.ref 3000000, .int y0, .ref 78] H r H' := pnLrn g0 h at_373_1790
  have h : Pn (some xs) m 373 1793 (mjSt 5 (.int s0) L) [.int i, .ref 3000000, .int y0, .ref 78] H r H' := pnLi g4 h at_373_1791
  have h : Pn (some xs) m 373 1794 (mjSt 5 (.int s0) L) [.int (Int32.ofInt 2), .int i, .ref 3000000, .int y0, .ref 78] H r H' := pnA h at_373_1793 rfl rfl
  have h : Pn (some xs) m 373 1795 (mjSt 5 (.int s0) L) [.int (i + (Int32.ofInt 2)), .ref 3000000, .int y0, .ref 78] H r H' := pnA h at_373_1794 rfl rfl
  obtain ⟨y1, zy1, h⟩ := pnSa h at_373_1795
  have h : Pn (some xs) m 373 1796 (mjSt 5 (.int s0) L) [.int y1, .int y0, .ref 78] H r H' := h
  refine ⟨y1, zy1, ?_⟩
  obtain ⟨r2, H2, q, h⟩ := pnC h at_373_1796 kc_373_1796.1 kc_373_1796.2 (as := [.ref 78, .int y0, .int y1]) (rest := []) rfl
  have q : Pn none m 306 0 [(0, .ref 78), (1, .int y0), (2, .int y1)] [] H r2 H2 := q
  exact ⟨_, ⟨g0, g1, g2, g3, g4, trivial⟩, r2, H2, q, h⟩
theorem at_373_1799 : mjAtI 373 1799 = some (.istore 6, 2, 0, 0, 0) := by decide +kernel
theorem at_373_1801 : mjAtI 373 1801 = some (.goto 306, 3, 0, 2107, 0) := by decide +kernel
theorem lc_45 {m : Nat} {L : mjL} {H H' : mjH} {r : Option Value ⊕ Nat} {xs : List Int32} {i : Int32} {s1 : Int32} (hT : HT H) (hL : LG L [(0, .ref 3000000), (1, .ref 0), (2, .ref 78), (3, .ref 578), (4, .int i)]) (h : Pn (some xs) m 373 1799 L [.int s1] H r H') : ∃ L', LG L' [(0, .ref 3000000), (1, .ref 0), (2, .ref 78), (3, .ref 578), (4, .int (i + Int32.ofInt 6))] ∧ Pn (some xs) m 373 23 L' [] H r H' := by
  obtain ⟨g0, g1, g2, g3, g4, -⟩ := hL
  have h : Pn (some xs) m 373 1801 (mjSt 6 (.int s1) L) [] H r H' := pnA h at_373_1799 rfl rfl
  have g0 : mjGet (mjSt 6 (.int s1) L) 0 = some (.ref 3000000) := gt_ne g0 (by decide) rfl
  have g1 : mjGet (mjSt 6 (.int s1) L) 1 = some (.ref 0) := gt_ne g1 (by decide) rfl
  have g2 : mjGet (mjSt 6 (.int s1) L) 2 = some (.ref 78) := gt_ne g2 (by decide) rfl
  have g3 : mjGet (mjSt 6 (.int s1) L) 3 = some (.ref 578) := gt_ne g3 (by decide) rfl
  have g4 : mjGet (mjSt 6 (.int s1) L) 4 = some (.int i) := gt_ne g4 (by decide) rfl
  have g6 : mjGet (mjSt 6 (.int s1) L) 6 = some (.int s1) := gt_eq
  have h : Pn (some xs) m 373 2107 (mjSt 6 (.int s1) L) [] H r H' := pnA h at_373_1801 rfl rfl
  have h : Pn (some xs) m 373 2110 (mjSt 4 (.int (i + Int32.ofInt 6)) (mjSt 6 (.int s1) L)) [] H r H' := pnInc g4 h at_373_2107
  have g0 : mjGet (mjSt 4 (.int (i + Int32.ofInt 6)) (mjSt 6 (.int s1) L)) 0 = some (.ref 3000000) := gt_ne g0 (by decide) rfl
  have g1 : mjGet (mjSt 4 (.int (i + Int32.ofInt 6)) (mjSt 6 (.int s1) L)) 1 = some (.ref 0) := gt_ne g1 (by decide) rfl
  have g2 : mjGet (mjSt 4 (.int (i + Int32.ofInt 6)) (mjSt 6 (.int s1) L)) 2 = some (.ref 78) := gt_ne g2 (by decide) rfl
  have g3 : mjGet (mjSt 4 (.int (i + Int32.ofInt 6)) (mjSt 6 (.int s1) L)) 3 = some (.ref 578) := gt_ne g3 (by decide) rfl
  have g6 : mjGet (mjSt 4 (.int (i + Int32.ofInt 6)) (mjSt 6 (.int s1) L)) 6 = some (.int s1) := gt_ne g6 (by decide) rfl
  have g4 : mjGet (mjSt 4 (.int (i + Int32.ofInt 6)) (mjSt 6 (.int s1) L)) 4 = some (.int (i + Int32.ofInt 6)) := gt_eq
  have h : Pn (some xs) m 373 23 (mjSt 4 (.int (i + Int32.ofInt 6)) (mjSt 6 (.int s1) L)) [] H r H' := pnA h at_373_2110 rfl rfl
  exact ⟨_, ⟨g0, g1, g2, g3, g4, trivial⟩, h⟩
theorem at_373_1804 : mjAtI 373 1804 = some (.aload_n 1, 1, 0, 0, 0) := by decide +kernel
theorem at_373_1805 : mjAtI 373 1805 = some (.aload_n 0, 1, 0, 0, 0) := by decide +kernel
theorem at_373_1806 : mjAtI 373 1806 = some (.iload 4, 2, 0, 0, 0) := by decide +kernel
theorem at_373_1808 : mjAtI 373 1808 = some (.iconst 1, 1, 0, 0, 0) := by decide +kernel
theorem at_373_1809 : mjAtI 373 1809 = some (.iadd, 1, 0, 0, 0) := by decide +kernel
theorem at_373_1810 : mjAtI 373 1810 = some (.iaload, 1, 0, 0, 0) := by decide +kernel
theorem at_373_1811 : mjAtI 373 1811 = some (.aload_n 3, 1, 0, 0, 0) := by decide +kernel
theorem at_373_1812 : mjAtI 373 1812 = some (.invokestatic 316, 3, 368, 1, 1491) := by decide +kernel
theorem kc_373_1812 : kCall (.invokestatic 316) 368 373 = true ∧ kArg 368 = 3 := by decide +kernel
theorem la_46 {m : Nat} {L : mjL} {H H' : mjH} {r : Option Value ⊕ Nat} {xs : List Int32} {i : Int32} (hT : HT H) (hL : LG L [(0, .ref 3000000), (1, .ref 0), (2, .ref 78), (3, .ref 578), (4, .int i)]) (h : Pn (some xs) m 373 1804 L [] H r H') : ∃ y0, (¬ (i + (Int32.ofInt 1)) < 0 ∧ xs[(i + (Int32.ofInt 1)).toNatClampNeg]? = some y0) ∧ ∃ L', LG L' [(0, .ref 3000000), (1, .ref 0), (2, .ref 78), (3, .ref 578), (4, .int i)] ∧ ∃ r2 H2, Pn none m 368 0 [(0, .ref 0), (1, .int y0), (2, .ref 578)] [] H r2 H2 ∧ ((∃ cv, r2 = .inl cv ∧ Pn (some xs) m 373 1815 L' (cv.toList ++ []) H2 r H') ∨ (∃ E, r2 = .inr E ∧ r = .inr E ∧ H' = H2)) := by
  obtain ⟨g0, g1, g2, g3, g4, -⟩ := hL
  have h : Pn (some xs) m 373 1805 L [.ref 0] H r H' := pnLrn g1 h at_373_1804
  have h : Pn (some xs) m 373 1806 L [.ref 3000000, .ref 0] H r H' := pnLrn g0 h at_373_1805
  have h : Pn (some xs) m 373 1808 L [.int i, .ref 3000000, .ref 0] H r H' := pnLi g4 h at_373_1806
  have h : Pn (some xs) m 373 1809 L [.int (Int32.ofInt 1), .int i, .ref 3000000, .ref 0] H r H' := pnA h at_373_1808 rfl rfl
  have h : Pn (some xs) m 373 1810 L [.int (i + (Int32.ofInt 1)), .ref 3000000, .ref 0] H r H' := pnA h at_373_1809 rfl rfl
  obtain ⟨y0, zy0, h⟩ := pnSa h at_373_1810
  have h : Pn (some xs) m 373 1811 L [.int y0, .ref 0] H r H' := h
  refine ⟨y0, zy0, ?_⟩
  have h : Pn (some xs) m 373 1812 L [.ref 578, .int y0, .ref 0] H r H' := pnLrn g3 h at_373_1811
  obtain ⟨r2, H2, q, h⟩ := pnC h at_373_1812 kc_373_1812.1 kc_373_1812.2 (as := [.ref 0, .int y0, .ref 578]) (rest := []) rfl
  have q : Pn none m 368 0 [(0, .ref 0), (1, .int y0), (2, .ref 578)] [] H r2 H2 := q
  exact ⟨_, ⟨g0, g1, g2, g3, g4, trivial⟩, r2, H2, q, h⟩
theorem at_373_1815 : mjAtI 373 1815 = some (.istore 5, 2, 0, 0, 0) := by decide +kernel
theorem at_373_1817 : mjAtI 373 1817 = some (.aload_n 2, 1, 0, 0, 0) := by decide +kernel
theorem at_373_1818 : mjAtI 373 1818 = some (.aload_n 0, 1, 0, 0, 0) := by decide +kernel
theorem at_373_1819 : mjAtI 373 1819 = some (.iload 4, 2, 0, 0, 0) := by decide +kernel
theorem at_373_1821 : mjAtI 373 1821 = some (.iconst 1, 1, 0, 0, 0) := by decide +kernel
theorem at_373_1822 : mjAtI 373 1822 = some (.iadd, 1, 0, 0, 0) := by decide +kernel
theorem at_373_1823 : mjAtI 373 1823 = some (.iaload, 1, 0, 0, 0) := by decide +kernel
theorem at_373_1824 : mjAtI 373 1824 = some (.invokevirtual 318, 3, 320, 0, 2283) := by decide +kernel
theorem kc_373_1824 : kCall (.invokevirtual 318) 320 373 = true ∧ kArg 320 = 2 := by decide +kernel
theorem lb_46 {m : Nat} {L : mjL} {H H' : mjH} {r : Option Value ⊕ Nat} {xs : List Int32} {i : Int32} {s0 : Int32} (hT : HT H) (hL : LG L [(0, .ref 3000000), (1, .ref 0), (2, .ref 78), (3, .ref 578), (4, .int i)]) (h : Pn (some xs) m 373 1815 L [.int s0] H r H') : ∃ y0, (¬ (i + (Int32.ofInt 1)) < 0 ∧ xs[(i + (Int32.ofInt 1)).toNatClampNeg]? = some y0) ∧ ∃ L', LG L' [(0, .ref 3000000), (1, .ref 0), (2, .ref 78), (3, .ref 578), (4, .int i)] ∧ ∃ r2 H2, Pn none m 320 0 [(0, .ref 78), (1, .int y0)] [] H r2 H2 ∧ ((∃ cv, r2 = .inl cv ∧ Pn (some xs) m 373 1827 L' (cv.toList ++ []) H2 r H') ∨ (∃ E, r2 = .inr E ∧ r = .inr E ∧ H' = H2)) := by
  obtain ⟨g0, g1, g2, g3, g4, -⟩ := hL
  have h : Pn (some xs) m 373 1817 (mjSt 5 (.int s0) L) [] H r H' := pnA h at_373_1815 rfl rfl
  have g0 : mjGet (mjSt 5 (.int s0) L) 0 = some (.ref 3000000) := gt_ne g0 (by decide) rfl
  have g1 : mjGet (mjSt 5 (.int s0) L) 1 = some (.ref 0) := gt_ne g1 (by decide) rfl
  have g2 : mjGet (mjSt 5 (.int s0) L) 2 = some (.ref 78) := gt_ne g2 (by decide) rfl
  have g3 : mjGet (mjSt 5 (.int s0) L) 3 = some (.ref 578) := gt_ne g3 (by decide) rfl
  have g4 : mjGet (mjSt 5 (.int s0) L) 4 = some (.int i) := gt_ne g4 (by decide) rfl
  have g5 : mjGet (mjSt 5 (.int s0) L) 5 = some (.int s0) := gt_eq
  have h : Pn (some xs) m 373 1818 (mjSt 5 (.int s0) L) [.ref 78] H r H' := pnLrn g2 h at_373_1817
  have h : Pn (some xs) m 373 1819 (mjSt 5 (.int s0) L) [.ref 3000000, .ref 78] H r H' := pnLrn g0 h at_373_1818
  have h : Pn (some xs) m 373 1821 (mjSt 5 (.int s0) L) [.int i, .ref 3000000, .ref 78] H r H' := pnLi g4 h at_373_1819
  have h : Pn (some xs) m 373 1822 (mjSt 5 (.int s0) L) [.int (Int32.ofInt 1), .int i, .ref 3000000, .ref 78] H r H' := pnA h at_373_1821 rfl rfl
  have h : Pn (some xs) m 373 1823 (mjSt 5 (.int s0) L) [.int (i + (Int32.ofInt 1)), .ref 3000000, .ref 78] H r H' := pnA h at_373_1822 rfl rfl
  obtain ⟨y0, zy0, h⟩ := pnSa h at_373_1823
  have h : Pn (some xs) m 373 1824 (mjSt 5 (.int s0) L) [.int y0, .ref 78] H r H' := h
  refine ⟨y0, zy0, ?_⟩
  obtain ⟨r2, H2, q, h⟩ := pnC h at_373_1824 kc_373_1824.1 kc_373_1824.2 (as := [.ref 78, .int y0]) (rest := []) rfl
  have q : Pn none m 320 0 [(0, .ref 78), (1, .int y0)] [] H r2 H2 := q
  exact ⟨_, ⟨g0, g1, g2, g3, g4, trivial⟩, r2, H2, q, h⟩
theorem at_373_1827 : mjAtI 373 1827 = some (.istore 6, 2, 0, 0, 0) := by decide +kernel
theorem at_373_1829 : mjAtI 373 1829 = some (.goto 278, 3, 0, 2107, 0) := by decide +kernel
theorem lc_46 {m : Nat} {L : mjL} {H H' : mjH} {r : Option Value ⊕ Nat} {xs : List Int32} {i : Int32} {s1 : Int32} (hT : HT H) (hL : LG L [(0, .ref 3000000), (1, .ref 0), (2, .ref 78), (3, .ref 578), (4, .int i)]) (h : Pn (some xs) m 373 1827 L [.int s1] H r H') : ∃ L', LG L' [(0, .ref 3000000), (1, .ref 0), (2, .ref 78), (3, .ref 578), (4, .int (i + Int32.ofInt 6))] ∧ Pn (some xs) m 373 23 L' [] H r H' := by
  obtain ⟨g0, g1, g2, g3, g4, -⟩ := hL
  have h : Pn (some xs) m 373 1829 (mjSt 6 (.int s1) L) [] H r H' := pnA h at_373_1827 rfl rfl
  have g0 : mjGet (mjSt 6 (.int s1) L) 0 = some (.ref 3000000) := gt_ne g0 (by decide) rfl
  have g1 : mjGet (mjSt 6 (.int s1) L) 1 = some (.ref 0) := gt_ne g1 (by decide) rfl
  have g2 : mjGet (mjSt 6 (.int s1) L) 2 = some (.ref 78) := gt_ne g2 (by decide) rfl
  have g3 : mjGet (mjSt 6 (.int s1) L) 3 = some (.ref 578) := gt_ne g3 (by decide) rfl
  have g4 : mjGet (mjSt 6 (.int s1) L) 4 = some (.int i) := gt_ne g4 (by decide) rfl
  have g6 : mjGet (mjSt 6 (.int s1) L) 6 = some (.int s1) := gt_eq
  have h : Pn (some xs) m 373 2107 (mjSt 6 (.int s1) L) [] H r H' := pnA h at_373_1829 rfl rfl
  have h : Pn (some xs) m 373 2110 (mjSt 4 (.int (i + Int32.ofInt 6)) (mjSt 6 (.int s1) L)) [] H r H' := pnInc g4 h at_373_2107
  have g0 : mjGet (mjSt 4 (.int (i + Int32.ofInt 6)) (mjSt 6 (.int s1) L)) 0 = some (.ref 3000000) := gt_ne g0 (by decide) rfl
  have g1 : mjGet (mjSt 4 (.int (i + Int32.ofInt 6)) (mjSt 6 (.int s1) L)) 1 = some (.ref 0) := gt_ne g1 (by decide) rfl
  have g2 : mjGet (mjSt 4 (.int (i + Int32.ofInt 6)) (mjSt 6 (.int s1) L)) 2 = some (.ref 78) := gt_ne g2 (by decide) rfl
  have g3 : mjGet (mjSt 4 (.int (i + Int32.ofInt 6)) (mjSt 6 (.int s1) L)) 3 = some (.ref 578) := gt_ne g3 (by decide) rfl
  have g6 : mjGet (mjSt 4 (.int (i + Int32.ofInt 6)) (mjSt 6 (.int s1) L)) 6 = some (.int s1) := gt_ne g6 (by decide) rfl
  have g4 : mjGet (mjSt 4 (.int (i + Int32.ofInt 6)) (mjSt 6 (.int s1) L)) 4 = some (.int (i + Int32.ofInt 6)) := gt_eq
  have h : Pn (some xs) m 373 23 (mjSt 4 (.int (i + Int32.ofInt 6)) (mjSt 6 (.int s1) L)) [] H r H' := pnA h at_373_2110 rfl rfl
  exact ⟨_, ⟨g0, g1, g2, g3, g4, trivial⟩, h⟩
theorem at_373_1832 : mjAtI 373 1832 = some (.aload_n 1, 1, 0, 0, 0) := by decide +kernel
theorem at_373_1833 : mjAtI 373 1833 = some (.aload_n 0, 1, 0, 0, 0) := by decide +kernel
theorem at_373_1834 : mjAtI 373 1834 = some (.iload 4, 2, 0, 0, 0) := by decide +kernel
theorem at_373_1836 : mjAtI 373 1836 = some (.iconst 1, 1, 0, 0, 0) := by decide +kernel
theorem at_373_1837 : mjAtI 373 1837 = some (.iadd, 1, 0, 0, 0) := by decide +kernel
theorem at_373_1838 : mjAtI 373 1838 = some (.iaload, 1, 0, 0, 0) := by decide +kernel
theorem at_373_1839 : mjAtI 373 1839 = some (.aload_n 3, 1, 0, 0, 0) := by decide +kernel
theorem at_373_1840 : mjAtI 373 1840 = some (.invokestatic 319, 3, 369, 1, 1519) := by decide +kernel
theorem kc_373_1840 : kCall (.invokestatic 319) 369 373 = true ∧ kArg 369 = 3 := by decide +kernel
theorem la_47 {m : Nat} {L : mjL} {H H' : mjH} {r : Option Value ⊕ Nat} {xs : List Int32} {i : Int32} (hT : HT H) (hL : LG L [(0, .ref 3000000), (1, .ref 0), (2, .ref 78), (3, .ref 578), (4, .int i)]) (h : Pn (some xs) m 373 1832 L [] H r H') : ∃ y0, (¬ (i + (Int32.ofInt 1)) < 0 ∧ xs[(i + (Int32.ofInt 1)).toNatClampNeg]? = some y0) ∧ ∃ L', LG L' [(0, .ref 3000000), (1, .ref 0), (2, .ref 78), (3, .ref 578), (4, .int i)] ∧ ∃ r2 H2, Pn none m 369 0 [(0, .ref 0), (1, .int y0), (2, .ref 578)] [] H r2 H2 ∧ ((∃ cv, r2 = .inl cv ∧ Pn (some xs) m 373 1843 L' (cv.toList ++ []) H2 r H') ∨ (∃ E, r2 = .inr E ∧ r = .inr E ∧ H' = H2)) := by
  obtain ⟨g0, g1, g2, g3, g4, -⟩ := hL
  have h : Pn (some xs) m 373 1833 L [.ref 0] H r H' := pnLrn g1 h at_373_1832
  have h : Pn (some xs) m 373 1834 L [.ref 3000000, .ref 0] H r H' := pnLrn g0 h at_373_1833
  have h : Pn (some xs) m 373 1836 L [.int i, .ref 3000000, .ref 0] H r H' := pnLi g4 h at_373_1834
  have h : Pn (some xs) m 373 1837 L [.int (Int32.ofInt 1), .int i, .ref 3000000, .ref 0] H r H' := pnA h at_373_1836 rfl rfl
  have h : Pn (some xs) m 373 1838 L [.int (i + (Int32.ofInt 1)), .ref 3000000, .ref 0] H r H' := pnA h at_373_1837 rfl rfl
  obtain ⟨y0, zy0, h⟩ := pnSa h at_373_1838
  have h : Pn (some xs) m 373 1839 L [.int y0, .ref 0] H r H' := h
  refine ⟨y0, zy0, ?_⟩
  have h : Pn (some xs) m 373 1840 L [.ref 578, .int y0, .ref 0] H r H' := pnLrn g3 h at_373_1839
  obtain ⟨r2, H2, q, h⟩ := pnC h at_373_1840 kc_373_1840.1 kc_373_1840.2 (as := [.ref 0, .int y0, .ref 578]) (rest := []) rfl
  have q : Pn none m 369 0 [(0, .ref 0), (1, .int y0), (2, .ref 578)] [] H r2 H2 := q
  exact ⟨_, ⟨g0, g1, g2, g3, g4, trivial⟩, r2, H2, q, h⟩
theorem at_373_1843 : mjAtI 373 1843 = some (.istore 5, 2, 0, 0, 0) := by decide +kernel
theorem at_373_1845 : mjAtI 373 1845 = some (.aload_n 2, 1, 0, 0, 0) := by decide +kernel
theorem at_373_1846 : mjAtI 373 1846 = some (.aload_n 0, 1, 0, 0, 0) := by decide +kernel
theorem at_373_1847 : mjAtI 373 1847 = some (.iload 4, 2, 0, 0, 0) := by decide +kernel
theorem at_373_1849 : mjAtI 373 1849 = some (.iconst 1, 1, 0, 0, 0) := by decide +kernel
theorem at_373_1850 : mjAtI 373 1850 = some (.iadd, 1, 0, 0, 0) := by decide +kernel
theorem at_373_1851 : mjAtI 373 1851 = some (.iaload, 1, 0, 0, 0) := by decide +kernel
theorem at_373_1852 : mjAtI 373 1852 = some (.invokevirtual 321, 3, 307, 0, 2240) := by decide +kernel
theorem kc_373_1852 : kCall (.invokevirtual 321) 307 373 = true ∧ kArg 307 = 2 := by decide +kernel
theorem lb_47 {m : Nat} {L : mjL} {H H' : mjH} {r : Option Value ⊕ Nat} {xs : List Int32} {i : Int32} {s0 : Int32} (hT : HT H) (hL : LG L [(0, .ref 3000000), (1, .ref 0), (2, .ref 78), (3, .ref 578), (4, .int i)]) (h : Pn (some xs) m 373 1843 L [.int s0] H r H') : ∃ y0, (¬ (i + (Int32.ofInt 1)) < 0 ∧ xs[(i + (Int32.ofInt 1)).toNatClampNeg]? = some y0) ∧ ∃ L', LG L' [(0, .ref 3000000), (1, .ref 0), (2, .ref 78), (3, .ref 578), (4, .int i)] ∧ ∃ r2 H2, Pn none m 307 0 [(0, .ref 78), (1, .int y0)] [] H r2 H2 ∧ ((∃ cv, r2 = .inl cv ∧ Pn (some xs) m 373 1855 L' (cv.toList ++ []) H2 r H') ∨ (∃ E, r2 = .inr E ∧ r = .inr E ∧ H' = H2)) := by
  obtain ⟨g0, g1, g2, g3, g4, -⟩ := hL
  have h : Pn (some xs) m 373 1845 (mjSt 5 (.int s0) L) [] H r H' := pnA h at_373_1843 rfl rfl
  have g0 : mjGet (mjSt 5 (.int s0) L) 0 = some (.ref 3000000) := gt_ne g0 (by decide) rfl
  have g1 : mjGet (mjSt 5 (.int s0) L) 1 = some (.ref 0) := gt_ne g1 (by decide) rfl
  have g2 : mjGet (mjSt 5 (.int s0) L) 2 = some (.ref 78) := gt_ne g2 (by decide) rfl
  have g3 : mjGet (mjSt 5 (.int s0) L) 3 = some (.ref 578) := gt_ne g3 (by decide) rfl
  have g4 : mjGet (mjSt 5 (.int s0) L) 4 = some (.int i) := gt_ne g4 (by decide) rfl
  have g5 : mjGet (mjSt 5 (.int s0) L) 5 = some (.int s0) := gt_eq
  have h : Pn (some xs) m 373 1846 (mjSt 5 (.int s0) L) [.ref 78] H r H' := pnLrn g2 h at_373_1845
  have h : Pn (some xs) m 373 1847 (mjSt 5 (.int s0) L) [.ref 3000000, .ref 78] H r H' := pnLrn g0 h at_373_1846
  have h : Pn (some xs) m 373 1849 (mjSt 5 (.int s0) L) [.int i, .ref 3000000, .ref 78] H r H' := pnLi g4 h at_373_1847
  have h : Pn (some xs) m 373 1850 (mjSt 5 (.int s0) L) [.int (Int32.ofInt 1), .int i, .ref 3000000, .ref 78] H r H' := pnA h at_373_1849 rfl rfl
  have h : Pn (some xs) m 373 1851 (mjSt 5 (.int s0) L) [.int (i + (Int32.ofInt 1)), .ref 3000000, .ref 78] H r H' := pnA h at_373_1850 rfl rfl
  obtain ⟨y0, zy0, h⟩ := pnSa h at_373_1851
  have h : Pn (some xs) m 373 1852 (mjSt 5 (.int s0) L) [.int y0, .ref 78] H r H' := h
  refine ⟨y0, zy0, ?_⟩
  obtain ⟨r2, H2, q, h⟩ := pnC h at_373_1852 kc_373_1852.1 kc_373_1852.2 (as := [.ref 78, .int y0]) (rest := []) rfl
  have q : Pn none m 307 0 [(0, .ref 78), (1, .int y0)] [] H r2 H2 := q
  exact ⟨_, ⟨g0, g1, g2, g3, g4, trivial⟩, r2, H2, q, h⟩
theorem at_373_1855 : mjAtI 373 1855 = some (.istore 6, 2, 0, 0, 0) := by decide +kernel
theorem at_373_1857 : mjAtI 373 1857 = some (.goto 250, 3, 0, 2107, 0) := by decide +kernel
theorem lc_47 {m : Nat} {L : mjL} {H H' : mjH} {r : Option Value ⊕ Nat} {xs : List Int32} {i : Int32} {s1 : Int32} (hT : HT H) (hL : LG L [(0, .ref 3000000), (1, .ref 0), (2, .ref 78), (3, .ref 578), (4, .int i)]) (h : Pn (some xs) m 373 1855 L [.int s1] H r H') : ∃ L', LG L' [(0, .ref 3000000), (1, .ref 0), (2, .ref 78), (3, .ref 578), (4, .int (i + Int32.ofInt 6))] ∧ Pn (some xs) m 373 23 L' [] H r H' := by
  obtain ⟨g0, g1, g2, g3, g4, -⟩ := hL
  have h : Pn (some xs) m 373 1857 (mjSt 6 (.int s1) L) [] H r H' := pnA h at_373_1855 rfl rfl
  have g0 : mjGet (mjSt 6 (.int s1) L) 0 = some (.ref 3000000) := gt_ne g0 (by decide) rfl
  have g1 : mjGet (mjSt 6 (.int s1) L) 1 = some (.ref 0) := gt_ne g1 (by decide) rfl
  have g2 : mjGet (mjSt 6 (.int s1) L) 2 = some (.ref 78) := gt_ne g2 (by decide) rfl
  have g3 : mjGet (mjSt 6 (.int s1) L) 3 = some (.ref 578) := gt_ne g3 (by decide) rfl
  have g4 : mjGet (mjSt 6 (.int s1) L) 4 = some (.int i) := gt_ne g4 (by decide) rfl
  have g6 : mjGet (mjSt 6 (.int s1) L) 6 = some (.int s1) := gt_eq
  have h : Pn (some xs) m 373 2107 (mjSt 6 (.int s1) L) [] H r H' := pnA h at_373_1857 rfl rfl
  have h : Pn (some xs) m 373 2110 (mjSt 4 (.int (i + Int32.ofInt 6)) (mjSt 6 (.int s1) L)) [] H r H' := pnInc g4 h at_373_2107
  have g0 : mjGet (mjSt 4 (.int (i + Int32.ofInt 6)) (mjSt 6 (.int s1) L)) 0 = some (.ref 3000000) := gt_ne g0 (by decide) rfl
  have g1 : mjGet (mjSt 4 (.int (i + Int32.ofInt 6)) (mjSt 6 (.int s1) L)) 1 = some (.ref 0) := gt_ne g1 (by decide) rfl
  have g2 : mjGet (mjSt 4 (.int (i + Int32.ofInt 6)) (mjSt 6 (.int s1) L)) 2 = some (.ref 78) := gt_ne g2 (by decide) rfl
  have g3 : mjGet (mjSt 4 (.int (i + Int32.ofInt 6)) (mjSt 6 (.int s1) L)) 3 = some (.ref 578) := gt_ne g3 (by decide) rfl
  have g6 : mjGet (mjSt 4 (.int (i + Int32.ofInt 6)) (mjSt 6 (.int s1) L)) 6 = some (.int s1) := gt_ne g6 (by decide) rfl
  have g4 : mjGet (mjSt 4 (.int (i + Int32.ofInt 6)) (mjSt 6 (.int s1) L)) 4 = some (.int (i + Int32.ofInt 6)) := gt_eq
  have h : Pn (some xs) m 373 23 (mjSt 4 (.int (i + Int32.ofInt 6)) (mjSt 6 (.int s1) L)) [] H r H' := pnA h at_373_2110 rfl rfl
  exact ⟨_, ⟨g0, g1, g2, g3, g4, trivial⟩, h⟩
theorem at_373_1860 : mjAtI 373 1860 = some (.aload_n 1, 1, 0, 0, 0) := by decide +kernel
theorem at_373_1861 : mjAtI 373 1861 = some (.aload_n 0, 1, 0, 0, 0) := by decide +kernel
theorem at_373_1862 : mjAtI 373 1862 = some (.iload 4, 2, 0, 0, 0) := by decide +kernel
theorem at_373_1864 : mjAtI 373 1864 = some (.iconst 1, 1, 0, 0, 0) := by decide +kernel
theorem at_373_1865 : mjAtI 373 1865 = some (.iadd, 1, 0, 0, 0) := by decide +kernel
theorem at_373_1866 : mjAtI 373 1866 = some (.iaload, 1, 0, 0, 0) := by decide +kernel
theorem at_373_1867 : mjAtI 373 1867 = some (.aload_n 3, 1, 0, 0, 0) := by decide +kernel
theorem at_373_1868 : mjAtI 373 1868 = some (.invokestatic 322, 3, 370, 1, 1546) := by decide +kernel
theorem kc_373_1868 : kCall (.invokestatic 322) 370 373 = true ∧ kArg 370 = 3 := by decide +kernel
theorem la_48 {m : Nat} {L : mjL} {H H' : mjH} {r : Option Value ⊕ Nat} {xs : List Int32} {i : Int32} (hT : HT H) (hL : LG L [(0, .ref 3000000), (1, .ref 0), (2, .ref 78), (3, .ref 578), (4, .int i)]) (h : Pn (some xs) m 373 1860 L [] H r H') : ∃ y0, (¬ (i + (Int32.ofInt 1)) < 0 ∧ xs[(i + (Int32.ofInt 1)).toNatClampNeg]? = some y0) ∧ ∃ L', LG L' [(0, .ref 3000000), (1, .ref 0), (2, .ref 78), (3, .ref 578), (4, .int i)] ∧ ∃ r2 H2, Pn none m 370 0 [(0, .ref 0), (1, .int y0), (2, .ref 578)] [] H r2 H2 ∧ ((∃ cv, r2 = .inl cv ∧ Pn (some xs) m 373 1871 L' (cv.toList ++ []) H2 r H') ∨ (∃ E, r2 = .inr E ∧ r = .inr E ∧ H' = H2)) := by
  obtain ⟨g0, g1, g2, g3, g4, -⟩ := hL
  have h : Pn (some xs) m 373 1861 L [.ref 0] H r H' := pnLrn g1 h at_373_1860
  have h : Pn (some xs) m 373 1862 L [.ref 3000000, .ref 0] H r H' := pnLrn g0 h at_373_1861
  have h : Pn (some xs) m 373 1864 L [.int i, .ref 3000000, .ref 0] H r H' := pnLi g4 h at_373_1862
  have h : Pn (some xs) m 373 1865 L [.int (Int32.ofInt 1), .int i, .ref 3000000, .ref 0] H r H' := pnA h at_373_1864 rfl rfl
  have h : Pn (some xs) m 373 1866 L [.int (i + (Int32.ofInt 1)), .ref 3000000, .ref 0] H r H' := pnA h at_373_1865 rfl rfl
  obtain ⟨y0, zy0, h⟩ := pnSa h at_373_1866
  have h : Pn (some xs) m 373 1867 L [.int y0, .ref 0] H r H' := h
  refine ⟨y0, zy0, ?_⟩
  have h : Pn (some xs) m 373 1868 L [.ref 578, .int y0, .ref 0] H r H' := pnLrn g3 h at_373_1867
  obtain ⟨r2, H2, q, h⟩ := pnC h at_373_1868 kc_373_1868.1 kc_373_1868.2 (as := [.ref 0, .int y0, .ref 578]) (rest := []) rfl
  have q : Pn none m 370 0 [(0, .ref 0), (1, .int y0), (2, .ref 578)] [] H r2 H2 := q
  exact ⟨_, ⟨g0, g1, g2, g3, g4, trivial⟩, r2, H2, q, h⟩
theorem at_373_1871 : mjAtI 373 1871 = some (.istore 5, 2, 0, 0, 0) := by decide +kernel
theorem at_373_1873 : mjAtI 373 1873 = some (.aload_n 2, 1, 0, 0, 0) := by decide +kernel
theorem at_373_1874 : mjAtI 373 1874 = some (.aload_n 0, 1, 0, 0, 0) := by decide +kernel
theorem at_373_1875 : mjAtI 373 1875 = some (.iload 4, 2, 0, 0, 0) := by decide +kernel
theorem at_373_1877 : mjAtI 373 1877 = some (.iconst 1, 1, 0, 0, 0) := by decide +kernel
theorem at_373_1878 : mjAtI 373 1878 = some (.iadd, 1, 0, 0, 0) := by decide +kernel
theorem at_373_1879 : mjAtI 373 1879 = some (.iaload, 1, 0, 0, 0) := by decide +kernel
theorem at_373_1880 : mjAtI 373 1880 = some (.invokevirtual 324, 3, 317, 0, 2279) := by decide +kernel
theorem kc_373_1880 : kCall (.invokevirtual 324) 317 373 = true ∧ kArg 317 = 2 := by decide +kernel
theorem lb_48 {m : Nat} {L : mjL} {H H' : mjH} {r : Option Value ⊕ Nat} {xs : List Int32} {i : Int32} {s0 : Int32} (hT : HT H) (hL : LG L [(0, .ref 3000000), (1, .ref 0), (2, .ref 78), (3, .ref 578), (4, .int i)]) (h : Pn (some xs) m 373 1871 L [.int s0] H r H') : ∃ y0, (¬ (i + (Int32.ofInt 1)) < 0 ∧ xs[(i + (Int32.ofInt 1)).toNatClampNeg]? = some y0) ∧ ∃ L', LG L' [(0, .ref 3000000), (1, .ref 0), (2, .ref 78), (3, .ref 578), (4, .int i)] ∧ ∃ r2 H2, Pn none m 317 0 [(0, .ref 78), (1, .int y0)] [] H r2 H2 ∧ ((∃ cv, r2 = .inl cv ∧ Pn (some xs) m 373 1883 L' (cv.toList ++ []) H2 r H') ∨ (∃ E, r2 = .inr E ∧ r = .inr E ∧ H' = H2)) := by
  obtain ⟨g0, g1, g2, g3, g4, -⟩ := hL
  have h : Pn (some xs) m 373 1873 (mjSt 5 (.int s0) L) [] H r H' := pnA h at_373_1871 rfl rfl
  have g0 : mjGet (mjSt 5 (.int s0) L) 0 = some (.ref 3000000) := gt_ne g0 (by decide) rfl
  have g1 : mjGet (mjSt 5 (.int s0) L) 1 = some (.ref 0) := gt_ne g1 (by decide) rfl
  have g2 : mjGet (mjSt 5 (.int s0) L) 2 = some (.ref 78) := gt_ne g2 (by decide) rfl
  have g3 : mjGet (mjSt 5 (.int s0) L) 3 = some (.ref 578) := gt_ne g3 (by decide) rfl
  have g4 : mjGet (mjSt 5 (.int s0) L) 4 = some (.int i) := gt_ne g4 (by decide) rfl
  have g5 : mjGet (mjSt 5 (.int s0) L) 5 = some (.int s0) := gt_eq
  have h : Pn (some xs) m 373 1874 (mjSt 5 (.int s0) L) [.ref 78] H r H' := pnLrn g2 h at_373_1873
  have h : Pn (some xs) m 373 1875 (mjSt 5 (.int s0) L) [.ref 3000000, .ref 78] H r H' := pnLrn g0 h at_373_1874
  have h : Pn (some xs) m 373 1877 (mjSt 5 (.int s0) L) [.int i, .ref 3000000, .ref 78] H r H' := pnLi g4 h at_373_1875
  have h : Pn (some xs) m 373 1878 (mjSt 5 (.int s0) L) [.int (Int32.ofInt 1), .int i, .ref 3000000, .ref 78] H r H' := pnA h at_373_1877 rfl rfl
  have h : Pn (some xs) m 373 1879 (mjSt 5 (.int s0) L) [.int (i + (Int32.ofInt 1)), .ref 3000000, .ref 78] H r H' := pnA h at_373_1878 rfl rfl
  obtain ⟨y0, zy0, h⟩ := pnSa h at_373_1879
  have h : Pn (some xs) m 373 1880 (mjSt 5 (.int s0) L) [.int y0, .ref 78] H r H' := h
  refine ⟨y0, zy0, ?_⟩
  obtain ⟨r2, H2, q, h⟩ := pnC h at_373_1880 kc_373_1880.1 kc_373_1880.2 (as := [.ref 78, .int y0]) (rest := []) rfl
  have q : Pn none m 317 0 [(0, .ref 78), (1, .int y0)] [] H r2 H2 := q
  exact ⟨_, ⟨g0, g1, g2, g3, g4, trivial⟩, r2, H2, q, h⟩
theorem at_373_1883 : mjAtI 373 1883 = some (.istore 6, 2, 0, 0, 0) := by decide +kernel
theorem at_373_1885 : mjAtI 373 1885 = some (.goto 222, 3, 0, 2107, 0) := by decide +kernel
theorem lc_48 {m : Nat} {L : mjL} {H H' : mjH} {r : Option Value ⊕ Nat} {xs : List Int32} {i : Int32} {s1 : Int32} (hT : HT H) (hL : LG L [(0, .ref 3000000), (1, .ref 0), (2, .ref 78), (3, .ref 578), (4, .int i)]) (h : Pn (some xs) m 373 1883 L [.int s1] H r H') : ∃ L', LG L' [(0, .ref 3000000), (1, .ref 0), (2, .ref 78), (3, .ref 578), (4, .int (i + Int32.ofInt 6))] ∧ Pn (some xs) m 373 23 L' [] H r H' := by
  obtain ⟨g0, g1, g2, g3, g4, -⟩ := hL
  have h : Pn (some xs) m 373 1885 (mjSt 6 (.int s1) L) [] H r H' := pnA h at_373_1883 rfl rfl
  have g0 : mjGet (mjSt 6 (.int s1) L) 0 = some (.ref 3000000) := gt_ne g0 (by decide) rfl
  have g1 : mjGet (mjSt 6 (.int s1) L) 1 = some (.ref 0) := gt_ne g1 (by decide) rfl
  have g2 : mjGet (mjSt 6 (.int s1) L) 2 = some (.ref 78) := gt_ne g2 (by decide) rfl
  have g3 : mjGet (mjSt 6 (.int s1) L) 3 = some (.ref 578) := gt_ne g3 (by decide) rfl
  have g4 : mjGet (mjSt 6 (.int s1) L) 4 = some (.int i) := gt_ne g4 (by decide) rfl
  have g6 : mjGet (mjSt 6 (.int s1) L) 6 = some (.int s1) := gt_eq
  have h : Pn (some xs) m 373 2107 (mjSt 6 (.int s1) L) [] H r H' := pnA h at_373_1885 rfl rfl
  have h : Pn (some xs) m 373 2110 (mjSt 4 (.int (i + Int32.ofInt 6)) (mjSt 6 (.int s1) L)) [] H r H' := pnInc g4 h at_373_2107
  have g0 : mjGet (mjSt 4 (.int (i + Int32.ofInt 6)) (mjSt 6 (.int s1) L)) 0 = some (.ref 3000000) := gt_ne g0 (by decide) rfl
  have g1 : mjGet (mjSt 4 (.int (i + Int32.ofInt 6)) (mjSt 6 (.int s1) L)) 1 = some (.ref 0) := gt_ne g1 (by decide) rfl
  have g2 : mjGet (mjSt 4 (.int (i + Int32.ofInt 6)) (mjSt 6 (.int s1) L)) 2 = some (.ref 78) := gt_ne g2 (by decide) rfl
  have g3 : mjGet (mjSt 4 (.int (i + Int32.ofInt 6)) (mjSt 6 (.int s1) L)) 3 = some (.ref 578) := gt_ne g3 (by decide) rfl
  have g6 : mjGet (mjSt 4 (.int (i + Int32.ofInt 6)) (mjSt 6 (.int s1) L)) 6 = some (.int s1) := gt_ne g6 (by decide) rfl
  have g4 : mjGet (mjSt 4 (.int (i + Int32.ofInt 6)) (mjSt 6 (.int s1) L)) 4 = some (.int (i + Int32.ofInt 6)) := gt_eq
  have h : Pn (some xs) m 373 23 (mjSt 4 (.int (i + Int32.ofInt 6)) (mjSt 6 (.int s1) L)) [] H r H' := pnA h at_373_2110 rfl rfl
  exact ⟨_, ⟨g0, g1, g2, g3, g4, trivial⟩, h⟩
theorem at_373_1888 : mjAtI 373 1888 = some (.aload_n 1, 1, 0, 0, 0) := by decide +kernel
theorem at_373_1889 : mjAtI 373 1889 = some (.aload_n 0, 1, 0, 0, 0) := by decide +kernel
theorem at_373_1890 : mjAtI 373 1890 = some (.iload 4, 2, 0, 0, 0) := by decide +kernel
theorem at_373_1892 : mjAtI 373 1892 = some (.iconst 1, 1, 0, 0, 0) := by decide +kernel
theorem at_373_1893 : mjAtI 373 1893 = some (.iadd, 1, 0, 0, 0) := by decide +kernel
theorem at_373_1894 : mjAtI 373 1894 = some (.iaload, 1, 0, 0, 0) := by decide +kernel
theorem at_373_1895 : mjAtI 373 1895 = some (.invokevirtual 325, 3, 162, 0, 583) := by decide +kernel
theorem kc_373_1895 : kCall (.invokevirtual 325) 162 373 = true ∧ kArg 162 = 2 := by decide +kernel
theorem la_49 {m : Nat} {L : mjL} {H H' : mjH} {r : Option Value ⊕ Nat} {xs : List Int32} {i : Int32} (hT : HT H) (hL : LG L [(0, .ref 3000000), (1, .ref 0), (2, .ref 78), (3, .ref 578), (4, .int i)]) (h : Pn (some xs) m 373 1888 L [] H r H') : ∃ y0, (¬ (i + (Int32.ofInt 1)) < 0 ∧ xs[(i + (Int32.ofInt 1)).toNatClampNeg]? = some y0) ∧ ∃ L', LG L' [(0, .ref 3000000), (1, .ref 0), (2, .ref 78), (3, .ref 578), (4, .int i)] ∧ ∃ r2 H2, Pn none m 162 0 [(0, .ref 0), (1, .int y0)] [] H r2 H2 ∧ ((∃ cv, r2 = .inl cv ∧ Pn (some xs) m 373 1898 L' (cv.toList ++ []) H2 r H') ∨ (∃ E, r2 = .inr E ∧ r = .inr E ∧ H' = H2)) := by
  obtain ⟨g0, g1, g2, g3, g4, -⟩ := hL
  have h : Pn (some xs) m 373 1889 L [.ref 0] H r H' := pnLrn g1 h at_373_1888
  have h : Pn (some xs) m 373 1890 L [.ref 3000000, .ref 0] H r H' := pnLrn g0 h at_373_1889
  have h : Pn (some xs) m 373 1892 L [.int i, .ref 3000000, .ref 0] H r H' := pnLi g4 h at_373_1890
  have h : Pn (some xs) m 373 1893 L [.int (Int32.ofInt 1), .int i, .ref 3000000, .ref 0] H r H' := pnA h at_373_1892 rfl rfl
  have h : Pn (some xs) m 373 1894 L [.int (i + (Int32.ofInt 1)), .ref 3000000, .ref 0] H r H' := pnA h at_373_1893 rfl rfl
  obtain ⟨y0, zy0, h⟩ := pnSa h at_373_1894
  have h : Pn (some xs) m 373 1895 L [.int y0, .ref 0] H r H' := h
  refine ⟨y0, zy0, ?_⟩
  obtain ⟨r2, H2, q, h⟩ := pnC h at_373_1895 kc_373_1895.1 kc_373_1895.2 (as := [.ref 0, .int y0]) (rest := []) rfl
  have q : Pn none m 162 0 [(0, .ref 0), (1, .int y0)] [] H r2 H2 := q
  exact ⟨_, ⟨g0, g1, g2, g3, g4, trivial⟩, r2, H2, q, h⟩
theorem at_373_1898 : mjAtI 373 1898 = some (.pop, 1, 0, 0, 0) := by decide +kernel
theorem at_373_1899 : mjAtI 373 1899 = some (.aload_n 2, 1, 0, 0, 0) := by decide +kernel
theorem at_373_1900 : mjAtI 373 1900 = some (.aload_n 0, 1, 0, 0, 0) := by decide +kernel
theorem at_373_1901 : mjAtI 373 1901 = some (.iload 4, 2, 0, 0, 0) := by decide +kernel
theorem at_373_1903 : mjAtI 373 1903 = some (.iconst 1, 1, 0, 0, 0) := by decide +kernel
theorem at_373_1904 : mjAtI 373 1904 = some (.iadd, 1, 0, 0, 0) := by decide +kernel
theorem at_373_1905 : mjAtI 373 1905 = some (.iaload, 1, 0, 0, 0) := by decide +kernel
theorem at_373_1906 : mjAtI 373 1906 = some (.invokevirtual 328, 3, 282, 0, 2134) := by decide +kernel
theorem kc_373_1906 : kCall (.invokevirtual 328) 282 373 = true ∧ kArg 282 = 2 := by decide +kernel
theorem lb_49 {m : Nat} {L : mjL} {H H' : mjH} {r : Option Value ⊕ Nat} {xs : List Int32} {i : Int32} {s0 : Int32} (hT : HT H) (hL : LG L [(0, .ref 3000000), (1, .ref 0), (2, .ref 78), (3, .ref 578), (4, .int i)]) (h : Pn (some xs) m 373 1898 L [.int s0] H r H') : ∃ y0, (¬ (i + (Int32.ofInt 1)) < 0 ∧ xs[(i + (Int32.ofInt 1)).toNatClampNeg]? = some y0) ∧ ∃ L', LG L' [(0, .ref 3000000), (1, .ref 0), (2, .ref 78), (3, .ref 578), (4, .int i)] ∧ ∃ r2 H2, Pn none m 282 0 [(0, .ref 78), (1, .int y0)] [] H r2 H2 ∧ ((∃ cv, r2 = .inl cv ∧ Pn (some xs) m 373 1909 L' (cv.toList ++ []) H2 r H') ∨ (∃ E, r2 = .inr E ∧ r = .inr E ∧ H' = H2)) := by
  obtain ⟨g0, g1, g2, g3, g4, -⟩ := hL
  have h : Pn (some xs) m 373 1899 L [] H r H' := pnA h at_373_1898 rfl rfl
  have h : Pn (some xs) m 373 1900 L [.ref 78] H r H' := pnLrn g2 h at_373_1899
  have h : Pn (some xs) m 373 1901 L [.ref 3000000, .ref 78] H r H' := pnLrn g0 h at_373_1900
  have h : Pn (some xs) m 373 1903 L [.int i, .ref 3000000, .ref 78] H r H' := pnLi g4 h at_373_1901
  have h : Pn (some xs) m 373 1904 L [.int (Int32.ofInt 1), .int i, .ref 3000000, .ref 78] H r H' := pnA h at_373_1903 rfl rfl
  have h : Pn (some xs) m 373 1905 L [.int (i + (Int32.ofInt 1)), .ref 3000000, .ref 78] H r H' := pnA h at_373_1904 rfl rfl
  obtain ⟨y0, zy0, h⟩ := pnSa h at_373_1905
  have h : Pn (some xs) m 373 1906 L [.int y0, .ref 78] H r H' := h
  refine ⟨y0, zy0, ?_⟩
  obtain ⟨r2, H2, q, h⟩ := pnC h at_373_1906 kc_373_1906.1 kc_373_1906.2 (as := [.ref 78, .int y0]) (rest := []) rfl
  have q : Pn none m 282 0 [(0, .ref 78), (1, .int y0)] [] H r2 H2 := q
  exact ⟨_, ⟨g0, g1, g2, g3, g4, trivial⟩, r2, H2, q, h⟩
theorem at_373_1909 : mjAtI 373 1909 = some (.pop, 1, 0, 0, 0) := by decide +kernel
theorem at_373_1910 : mjAtI 373 1910 = some (.goto 197, 3, 0, 2107, 0) := by decide +kernel
theorem lc_49 {m : Nat} {L : mjL} {H H' : mjH} {r : Option Value ⊕ Nat} {xs : List Int32} {i : Int32} {s1 : Int32} (hT : HT H) (hL : LG L [(0, .ref 3000000), (1, .ref 0), (2, .ref 78), (3, .ref 578), (4, .int i)]) (h : Pn (some xs) m 373 1909 L [.int s1] H r H') : ∃ L', LG L' [(0, .ref 3000000), (1, .ref 0), (2, .ref 78), (3, .ref 578), (4, .int (i + Int32.ofInt 6))] ∧ Pn (some xs) m 373 23 L' [] H r H' := by
  obtain ⟨g0, g1, g2, g3, g4, -⟩ := hL
  have h : Pn (some xs) m 373 1910 L [] H r H' := pnA h at_373_1909 rfl rfl
  have h : Pn (some xs) m 373 2107 L [] H r H' := pnA h at_373_1910 rfl rfl
  have h : Pn (some xs) m 373 2110 (mjSt 4 (.int (i + Int32.ofInt 6)) L) [] H r H' := pnInc g4 h at_373_2107
  have g0 : mjGet (mjSt 4 (.int (i + Int32.ofInt 6)) L) 0 = some (.ref 3000000) := gt_ne g0 (by decide) rfl
  have g1 : mjGet (mjSt 4 (.int (i + Int32.ofInt 6)) L) 1 = some (.ref 0) := gt_ne g1 (by decide) rfl
  have g2 : mjGet (mjSt 4 (.int (i + Int32.ofInt 6)) L) 2 = some (.ref 78) := gt_ne g2 (by decide) rfl
  have g3 : mjGet (mjSt 4 (.int (i + Int32.ofInt 6)) L) 3 = some (.ref 578) := gt_ne g3 (by decide) rfl
  have g4 : mjGet (mjSt 4 (.int (i + Int32.ofInt 6)) L) 4 = some (.int (i + Int32.ofInt 6)) := gt_eq
  have h : Pn (some xs) m 373 23 (mjSt 4 (.int (i + Int32.ofInt 6)) L) [] H r H' := pnA h at_373_2110 rfl rfl
  exact ⟨_, ⟨g0, g1, g2, g3, g4, trivial⟩, h⟩
theorem at_373_1913 : mjAtI 373 1913 = some (.aload_n 1, 1, 0, 0, 0) := by decide +kernel
theorem at_373_1914 : mjAtI 373 1914 = some (.aload_n 0, 1, 0, 0, 0) := by decide +kernel
theorem at_373_1915 : mjAtI 373 1915 = some (.iload 4, 2, 0, 0, 0) := by decide +kernel
theorem at_373_1917 : mjAtI 373 1917 = some (.iconst 1, 1, 0, 0, 0) := by decide +kernel
theorem at_373_1918 : mjAtI 373 1918 = some (.iadd, 1, 0, 0, 0) := by decide +kernel
theorem at_373_1919 : mjAtI 373 1919 = some (.iaload, 1, 0, 0, 0) := by decide +kernel
theorem at_373_1920 : mjAtI 373 1920 = some (.aload_n 3, 1, 0, 0, 0) := by decide +kernel
theorem at_373_1921 : mjAtI 373 1921 = some (.invokestatic 329, 3, 371, 1, 1553) := by decide +kernel
theorem kc_373_1921 : kCall (.invokestatic 329) 371 373 = true ∧ kArg 371 = 3 := by decide +kernel
theorem la_50 {m : Nat} {L : mjL} {H H' : mjH} {r : Option Value ⊕ Nat} {xs : List Int32} {i : Int32} (hT : HT H) (hL : LG L [(0, .ref 3000000), (1, .ref 0), (2, .ref 78), (3, .ref 578), (4, .int i)]) (h : Pn (some xs) m 373 1913 L [] H r H') : ∃ y0, (¬ (i + (Int32.ofInt 1)) < 0 ∧ xs[(i + (Int32.ofInt 1)).toNatClampNeg]? = some y0) ∧ ∃ L', LG L' [(0, .ref 3000000), (1, .ref 0), (2, .ref 78), (3, .ref 578), (4, .int i)] ∧ ∃ r2 H2, Pn none m 371 0 [(0, .ref 0), (1, .int y0), (2, .ref 578)] [] H r2 H2 ∧ ((∃ cv, r2 = .inl cv ∧ Pn (some xs) m 373 1924 L' (cv.toList ++ []) H2 r H') ∨ (∃ E, r2 = .inr E ∧ r = .inr E ∧ H' = H2)) := by
  obtain ⟨g0, g1, g2, g3, g4, -⟩ := hL
  have h : Pn (some xs) m 373 1914 L [.ref 0] H r H' := pnLrn g1 h at_373_1913
  have h : Pn (some xs) m 373 1915 L [.ref 3000000, .ref 0] H r H' := pnLrn g0 h at_373_1914
  have h : Pn (some xs) m 373 1917 L [.int i, .ref 3000000, .ref 0] H r H' := pnLi g4 h at_373_1915
  have h : Pn (some xs) m 373 1918 L [.int (Int32.ofInt 1), .int i, .ref 3000000, .ref 0] H r H' := pnA h at_373_1917 rfl rfl
  have h : Pn (some xs) m 373 1919 L [.int (i + (Int32.ofInt 1)), .ref 3000000, .ref 0] H r H' := pnA h at_373_1918 rfl rfl
  obtain ⟨y0, zy0, h⟩ := pnSa h at_373_1919
  have h : Pn (some xs) m 373 1920 L [.int y0, .ref 0] H r H' := h
  refine ⟨y0, zy0, ?_⟩
  have h : Pn (some xs) m 373 1921 L [.ref 578, .int y0, .ref 0] H r H' := pnLrn g3 h at_373_1920
  obtain ⟨r2, H2, q, h⟩ := pnC h at_373_1921 kc_373_1921.1 kc_373_1921.2 (as := [.ref 0, .int y0, .ref 578]) (rest := []) rfl
  have q : Pn none m 371 0 [(0, .ref 0), (1, .int y0), (2, .ref 578)] [] H r2 H2 := q
  exact ⟨_, ⟨g0, g1, g2, g3, g4, trivial⟩, r2, H2, q, h⟩
theorem at_373_1924 : mjAtI 373 1924 = some (.istore 5, 2, 0, 0, 0) := by decide +kernel
theorem at_373_1926 : mjAtI 373 1926 = some (.aload_n 2, 1, 0, 0, 0) := by decide +kernel
theorem at_373_1927 : mjAtI 373 1927 = some (.aload_n 0, 1, 0, 0, 0) := by decide +kernel
theorem at_373_1928 : mjAtI 373 1928 = some (.iload 4, 2, 0, 0, 0) := by decide +kernel
theorem at_373_1930 : mjAtI 373 1930 = some (.iconst 1, 1, 0, 0, 0) := by decide +kernel
theorem at_373_1931 : mjAtI 373 1931 = some (.iadd, 1, 0, 0, 0) := by decide +kernel
theorem at_373_1932 : mjAtI 373 1932 = some (.iaload, 1, 0, 0, 0) := by decide +kernel
theorem at_373_1933 : mjAtI 373 1933 = some (.invokevirtual 331, 3, 283, 0, 2138) := by decide +kernel
theorem kc_373_1933 : kCall (.invokevirtual 331) 283 373 = true ∧ kArg 283 = 2 := by decide +kernel
theorem lb_50 {m : Nat} {L : mjL} {H H' : mjH} {r : Option Value ⊕ Nat} {xs : List Int32} {i : Int32} {s0 : Int32} (hT : HT H) (hL : LG L [(0, .ref 3000000), (1, .ref 0), (2, .ref 78), (3, .ref 578), (4, .int i)]) (h : Pn (some xs) m 373 1924 L [.int s0] H r H') : ∃ y0, (¬ (i + (Int32.ofInt 1)) < 0 ∧ xs[(i + (Int32.ofInt 1)).toNatClampNeg]? = some y0) ∧ ∃ L', LG L' [(0, .ref 3000000), (1, .ref 0), (2, .ref 78), (3, .ref 578), (4, .int i)] ∧ ∃ r2 H2, Pn none m 283 0 [(0, .ref 78), (1, .int y0)] [] H r2 H2 ∧ ((∃ cv, r2 = .inl cv ∧ Pn (some xs) m 373 1936 L' (cv.toList ++ []) H2 r H') ∨ (∃ E, r2 = .inr E ∧ r = .inr E ∧ H' = H2)) := by
  obtain ⟨g0, g1, g2, g3, g4, -⟩ := hL
  have h : Pn (some xs) m 373 1926 (mjSt 5 (.int s0) L) [] H r H' := pnA h at_373_1924 rfl rfl
  have g0 : mjGet (mjSt 5 (.int s0) L) 0 = some (.ref 3000000) := gt_ne g0 (by decide) rfl
  have g1 : mjGet (mjSt 5 (.int s0) L) 1 = some (.ref 0) := gt_ne g1 (by decide) rfl
  have g2 : mjGet (mjSt 5 (.int s0) L) 2 = some (.ref 78) := gt_ne g2 (by decide) rfl
  have g3 : mjGet (mjSt 5 (.int s0) L) 3 = some (.ref 578) := gt_ne g3 (by decide) rfl
  have g4 : mjGet (mjSt 5 (.int s0) L) 4 = some (.int i) := gt_ne g4 (by decide) rfl
  have g5 : mjGet (mjSt 5 (.int s0) L) 5 = some (.int s0) := gt_eq
  have h : Pn (some xs) m 373 1927 (mjSt 5 (.int s0) L) [.ref 78] H r H' := pnLrn g2 h at_373_1926
  have h : Pn (some xs) m 373 1928 (mjSt 5 (.int s0) L) [.ref 3000000, .ref 78] H r H' := pnLrn g0 h at_373_1927
  have h : Pn (some xs) m 373 1930 (mjSt 5 (.int s0) L) [.int i, .ref 3000000, .ref 78] H r H' := pnLi g4 h at_373_1928
  have h : Pn (some xs) m 373 1931 (mjSt 5 (.int s0) L) [.int (Int32.ofInt 1), .int i, .ref 3000000, .ref 78] H r H' := pnA h at_373_1930 rfl rfl
  have h : Pn (some xs) m 373 1932 (mjSt 5 (.int s0) L) [.int (i + (Int32.ofInt 1)), .ref 3000000, .ref 78] H r H' := pnA h at_373_1931 rfl rfl
  obtain ⟨y0, zy0, h⟩ := pnSa h at_373_1932
  have h : Pn (some xs) m 373 1933 (mjSt 5 (.int s0) L) [.int y0, .ref 78] H r H' := h
  refine ⟨y0, zy0, ?_⟩
  obtain ⟨r2, H2, q, h⟩ := pnC h at_373_1933 kc_373_1933.1 kc_373_1933.2 (as := [.ref 78, .int y0]) (rest := []) rfl
  have q : Pn none m 283 0 [(0, .ref 78), (1, .int y0)] [] H r2 H2 := q
  exact ⟨_, ⟨g0, g1, g2, g3, g4, trivial⟩, r2, H2, q, h⟩
theorem at_373_1936 : mjAtI 373 1936 = some (.istore 6, 2, 0, 0, 0) := by decide +kernel
theorem at_373_1938 : mjAtI 373 1938 = some (.goto 169, 3, 0, 2107, 0) := by decide +kernel
theorem lc_50 {m : Nat} {L : mjL} {H H' : mjH} {r : Option Value ⊕ Nat} {xs : List Int32} {i : Int32} {s1 : Int32} (hT : HT H) (hL : LG L [(0, .ref 3000000), (1, .ref 0), (2, .ref 78), (3, .ref 578), (4, .int i)]) (h : Pn (some xs) m 373 1936 L [.int s1] H r H') : ∃ L', LG L' [(0, .ref 3000000), (1, .ref 0), (2, .ref 78), (3, .ref 578), (4, .int (i + Int32.ofInt 6))] ∧ Pn (some xs) m 373 23 L' [] H r H' := by
  obtain ⟨g0, g1, g2, g3, g4, -⟩ := hL
  have h : Pn (some xs) m 373 1938 (mjSt 6 (.int s1) L) [] H r H' := pnA h at_373_1936 rfl rfl
  have g0 : mjGet (mjSt 6 (.int s1) L) 0 = some (.ref 3000000) := gt_ne g0 (by decide) rfl
  have g1 : mjGet (mjSt 6 (.int s1) L) 1 = some (.ref 0) := gt_ne g1 (by decide) rfl
  have g2 : mjGet (mjSt 6 (.int s1) L) 2 = some (.ref 78) := gt_ne g2 (by decide) rfl
  have g3 : mjGet (mjSt 6 (.int s1) L) 3 = some (.ref 578) := gt_ne g3 (by decide) rfl
  have g4 : mjGet (mjSt 6 (.int s1) L) 4 = some (.int i) := gt_ne g4 (by decide) rfl
  have g6 : mjGet (mjSt 6 (.int s1) L) 6 = some (.int s1) := gt_eq
  have h : Pn (some xs) m 373 2107 (mjSt 6 (.int s1) L) [] H r H' := pnA h at_373_1938 rfl rfl
  have h : Pn (some xs) m 373 2110 (mjSt 4 (.int (i + Int32.ofInt 6)) (mjSt 6 (.int s1) L)) [] H r H' := pnInc g4 h at_373_2107
  have g0 : mjGet (mjSt 4 (.int (i + Int32.ofInt 6)) (mjSt 6 (.int s1) L)) 0 = some (.ref 3000000) := gt_ne g0 (by decide) rfl
  have g1 : mjGet (mjSt 4 (.int (i + Int32.ofInt 6)) (mjSt 6 (.int s1) L)) 1 = some (.ref 0) := gt_ne g1 (by decide) rfl
  have g2 : mjGet (mjSt 4 (.int (i + Int32.ofInt 6)) (mjSt 6 (.int s1) L)) 2 = some (.ref 78) := gt_ne g2 (by decide) rfl
  have g3 : mjGet (mjSt 4 (.int (i + Int32.ofInt 6)) (mjSt 6 (.int s1) L)) 3 = some (.ref 578) := gt_ne g3 (by decide) rfl
  have g6 : mjGet (mjSt 4 (.int (i + Int32.ofInt 6)) (mjSt 6 (.int s1) L)) 6 = some (.int s1) := gt_ne g6 (by decide) rfl
  have g4 : mjGet (mjSt 4 (.int (i + Int32.ofInt 6)) (mjSt 6 (.int s1) L)) 4 = some (.int (i + Int32.ofInt 6)) := gt_eq
  have h : Pn (some xs) m 373 23 (mjSt 4 (.int (i + Int32.ofInt 6)) (mjSt 6 (.int s1) L)) [] H r H' := pnA h at_373_2110 rfl rfl
  exact ⟨_, ⟨g0, g1, g2, g3, g4, trivial⟩, h⟩
theorem at_373_1941 : mjAtI 373 1941 = some (.aload_n 1, 1, 0, 0, 0) := by decide +kernel
theorem at_373_1942 : mjAtI 373 1942 = some (.invokevirtual 332, 3, 164, 0, 595) := by decide +kernel
theorem kc_373_1942 : kCall (.invokevirtual 332) 164 373 = true ∧ kArg 164 = 1 := by decide +kernel
theorem la_51 {m : Nat} {L : mjL} {H H' : mjH} {r : Option Value ⊕ Nat} {xs : List Int32} {i : Int32} (hT : HT H) (hL : LG L [(0, .ref 3000000), (1, .ref 0), (2, .ref 78), (3, .ref 578), (4, .int i)]) (h : Pn (some xs) m 373 1941 L [] H r H') : ∃ L', LG L' [(0, .ref 3000000), (1, .ref 0), (2, .ref 78), (3, .ref 578), (4, .int i)] ∧ ∃ r2 H2, Pn none m 164 0 [(0, .ref 0)] [] H r2 H2 ∧ ((∃ cv, r2 = .inl cv ∧ Pn (some xs) m 373 1945 L' (cv.toList ++ []) H2 r H') ∨ (∃ E, r2 = .inr E ∧ r = .inr E ∧ H' = H2)) := by
  obtain ⟨g0, g1, g2, g3, g4, -⟩ := hL
  have h : Pn (some xs) m 373 1942 L [.ref 0] H r H' := pnLrn g1 h at_373_1941
  obtain ⟨r2, H2, q, h⟩ := pnC h at_373_1942 kc_373_1942.1 kc_373_1942.2 (as := [.ref 0]) (rest := []) rfl
  have q : Pn none m 164 0 [(0, .ref 0)] [] H r2 H2 := q
  exact ⟨_, ⟨g0, g1, g2, g3, g4, trivial⟩, r2, H2, q, h⟩
theorem at_373_1945 : mjAtI 373 1945 = some (.pop, 1, 0, 0, 0) := by decide +kernel
theorem at_373_1946 : mjAtI 373 1946 = some (.aload_n 2, 1, 0, 0, 0) := by decide +kernel
theorem at_373_1947 : mjAtI 373 1947 = some (.invokevirtual 335, 3, 279, 0, 2122) := by decide +kernel
theorem kc_373_1947 : kCall (.invokevirtual 335) 279 373 = true ∧ kArg 279 = 1 := by decide +kernel
theorem lb_51 {m : Nat} {L : mjL} {H H' : mjH} {r : Option Value ⊕ Nat} {xs : List Int32} {i : Int32} {s0 : Int32} (hT : HT H) (hL : LG L [(0, .ref 3000000), (1, .ref 0), (2, .ref 78), (3, .ref 578), (4, .int i)]) (h : Pn (some xs) m 373 1945 L [.int s0] H r H') : ∃ L', LG L' [(0, .ref 3000000), (1, .ref 0), (2, .ref 78), (3, .ref 578), (4, .int i)] ∧ ∃ r2 H2, Pn none m 279 0 [(0, .ref 78)] [] H r2 H2 ∧ ((∃ cv, r2 = .inl cv ∧ Pn (some xs) m 373 1950 L' (cv.toList ++ []) H2 r H') ∨ (∃ E, r2 = .inr E ∧ r = .inr E ∧ H' = H2)) := by
  obtain ⟨g0, g1, g2, g3, g4, -⟩ := hL
  have h : Pn (some xs) m 373 1946 L [] H r H' := pnA h at_373_1945 rfl rfl
  have h : Pn (some xs) m 373 1947 L [.ref 78] H r H' := pnLrn g2 h at_373_1946
  obtain ⟨r2, H2, q, h⟩ := pnC h at_373_1947 kc_373_1947.1 kc_373_1947.2 (as := [.ref 78]) (rest := []) rfl
  have q : Pn none m 279 0 [(0, .ref 78)] [] H r2 H2 := q
  exact ⟨_, ⟨g0, g1, g2, g3, g4, trivial⟩, r2, H2, q, h⟩
theorem at_373_1950 : mjAtI 373 1950 = some (.pop, 1, 0, 0, 0) := by decide +kernel
theorem at_373_1951 : mjAtI 373 1951 = some (.goto 156, 3, 0, 2107, 0) := by decide +kernel
theorem lc_51 {m : Nat} {L : mjL} {H H' : mjH} {r : Option Value ⊕ Nat} {xs : List Int32} {i : Int32} {s1 : Int32} (hT : HT H) (hL : LG L [(0, .ref 3000000), (1, .ref 0), (2, .ref 78), (3, .ref 578), (4, .int i)]) (h : Pn (some xs) m 373 1950 L [.int s1] H r H') : ∃ L', LG L' [(0, .ref 3000000), (1, .ref 0), (2, .ref 78), (3, .ref 578), (4, .int (i + Int32.ofInt 6))] ∧ Pn (some xs) m 373 23 L' [] H r H' := by
  obtain ⟨g0, g1, g2, g3, g4, -⟩ := hL
  have h : Pn (some xs) m 373 1951 L [] H r H' := pnA h at_373_1950 rfl rfl
  have h : Pn (some xs) m 373 2107 L [] H r H' := pnA h at_373_1951 rfl rfl
  have h : Pn (some xs) m 373 2110 (mjSt 4 (.int (i + Int32.ofInt 6)) L) [] H r H' := pnInc g4 h at_373_2107
  have g0 : mjGet (mjSt 4 (.int (i + Int32.ofInt 6)) L) 0 = some (.ref 3000000) := gt_ne g0 (by decide) rfl
  have g1 : mjGet (mjSt 4 (.int (i + Int32.ofInt 6)) L) 1 = some (.ref 0) := gt_ne g1 (by decide) rfl
  have g2 : mjGet (mjSt 4 (.int (i + Int32.ofInt 6)) L) 2 = some (.ref 78) := gt_ne g2 (by decide) rfl
  have g3 : mjGet (mjSt 4 (.int (i + Int32.ofInt 6)) L) 3 = some (.ref 578) := gt_ne g3 (by decide) rfl
  have g4 : mjGet (mjSt 4 (.int (i + Int32.ofInt 6)) L) 4 = some (.int (i + Int32.ofInt 6)) := gt_eq
  have h : Pn (some xs) m 373 23 (mjSt 4 (.int (i + Int32.ofInt 6)) L) [] H r H' := pnA h at_373_2110 rfl rfl
  exact ⟨_, ⟨g0, g1, g2, g3, g4, trivial⟩, h⟩
theorem at_373_1954 : mjAtI 373 1954 = some (.aload_n 1, 1, 0, 0, 0) := by decide +kernel
theorem at_373_1955 : mjAtI 373 1955 = some (.invokevirtual 336, 3, 165, 0, 605) := by decide +kernel
theorem kc_373_1955 : kCall (.invokevirtual 336) 165 373 = true ∧ kArg 165 = 1 := by decide +kernel
theorem la_52 {m : Nat} {L : mjL} {H H' : mjH} {r : Option Value ⊕ Nat} {xs : List Int32} {i : Int32} (hT : HT H) (hL : LG L [(0, .ref 3000000), (1, .ref 0), (2, .ref 78), (3, .ref 578), (4, .int i)]) (h : Pn (some xs) m 373 1954 L [] H r H') : ∃ L', LG L' [(0, .ref 3000000), (1, .ref 0), (2, .ref 78), (3, .ref 578), (4, .int i)] ∧ ∃ r2 H2, Pn none m 165 0 [(0, .ref 0)] [] H r2 H2 ∧ ((∃ cv, r2 = .inl cv ∧ Pn (some xs) m 373 1958 L' (cv.toList ++ []) H2 r H') ∨ (∃ E, r2 = .inr E ∧ r = .inr E ∧ H' = H2)) := by
  obtain ⟨g0, g1, g2, g3, g4, -⟩ := hL
  have h : Pn (some xs) m 373 1955 L [.ref 0] H r H' := pnLrn g1 h at_373_1954
  obtain ⟨r2, H2, q, h⟩ := pnC h at_373_1955 kc_373_1955.1 kc_373_1955.2 (as := [.ref 0]) (rest := []) rfl
  have q : Pn none m 165 0 [(0, .ref 0)] [] H r2 H2 := q
  exact ⟨_, ⟨g0, g1, g2, g3, g4, trivial⟩, r2, H2, q, h⟩
theorem at_373_1958 : mjAtI 373 1958 = some (.pop, 1, 0, 0, 0) := by decide +kernel
theorem at_373_1959 : mjAtI 373 1959 = some (.aload_n 2, 1, 0, 0, 0) := by decide +kernel
theorem at_373_1960 : mjAtI 373 1960 = some (.invokevirtual 339, 3, 280, 0, 2126) := by decide +kernel
theorem kc_373_1960 : kCall (.invokevirtual 339) 280 373 = true ∧ kArg 280 = 1 := by decide +kernel
theorem lb_52 {m : Nat} {L : mjL} {H H' : mjH} {r : Option Value ⊕ Nat} {xs : List Int32} {i : Int32} {s0 : Int32} (hT : HT H) (hL : LG L [(0, .ref 3000000), (1, .ref 0), (2, .ref 78), (3, .ref 578), (4, .int i)]) (h : Pn (some xs) m 373 1958 L [.int s0] H r H') : ∃ L', LG L' [(0, .ref 3000000), (1, .ref 0), (2, .ref 78), (3, .ref 578), (4, .int i)] ∧ ∃ r2 H2, Pn none m 280 0 [(0, .ref 78)] [] H r2 H2 ∧ ((∃ cv, r2 = .inl cv ∧ Pn (some xs) m 373 1963 L' (cv.toList ++ []) H2 r H') ∨ (∃ E, r2 = .inr E ∧ r = .inr E ∧ H' = H2)) := by
  obtain ⟨g0, g1, g2, g3, g4, -⟩ := hL
  have h : Pn (some xs) m 373 1959 L [] H r H' := pnA h at_373_1958 rfl rfl
  have h : Pn (some xs) m 373 1960 L [.ref 78] H r H' := pnLrn g2 h at_373_1959
  obtain ⟨r2, H2, q, h⟩ := pnC h at_373_1960 kc_373_1960.1 kc_373_1960.2 (as := [.ref 78]) (rest := []) rfl
  have q : Pn none m 280 0 [(0, .ref 78)] [] H r2 H2 := q
  exact ⟨_, ⟨g0, g1, g2, g3, g4, trivial⟩, r2, H2, q, h⟩
theorem at_373_1963 : mjAtI 373 1963 = some (.pop, 1, 0, 0, 0) := by decide +kernel
theorem at_373_1964 : mjAtI 373 1964 = some (.goto 143, 3, 0, 2107, 0) := by decide +kernel
theorem lc_52 {m : Nat} {L : mjL} {H H' : mjH} {r : Option Value ⊕ Nat} {xs : List Int32} {i : Int32} {s1 : Int32} (hT : HT H) (hL : LG L [(0, .ref 3000000), (1, .ref 0), (2, .ref 78), (3, .ref 578), (4, .int i)]) (h : Pn (some xs) m 373 1963 L [.int s1] H r H') : ∃ L', LG L' [(0, .ref 3000000), (1, .ref 0), (2, .ref 78), (3, .ref 578), (4, .int (i + Int32.ofInt 6))] ∧ Pn (some xs) m 373 23 L' [] H r H' := by
  obtain ⟨g0, g1, g2, g3, g4, -⟩ := hL
  have h : Pn (some xs) m 373 1964 L [] H r H' := pnA h at_373_1963 rfl rfl
  have h : Pn (some xs) m 373 2107 L [] H r H' := pnA h at_373_1964 rfl rfl
  have h : Pn (some xs) m 373 2110 (mjSt 4 (.int (i + Int32.ofInt 6)) L) [] H r H' := pnInc g4 h at_373_2107
  have g0 : mjGet (mjSt 4 (.int (i + Int32.ofInt 6)) L) 0 = some (.ref 3000000) := gt_ne g0 (by decide) rfl
  have g1 : mjGet (mjSt 4 (.int (i + Int32.ofInt 6)) L) 1 = some (.ref 0) := gt_ne g1 (by decide) rfl
  have g2 : mjGet (mjSt 4 (.int (i + Int32.ofInt 6)) L) 2 = some (.ref 78) := gt_ne g2 (by decide) rfl
  have g3 : mjGet (mjSt 4 (.int (i + Int32.ofInt 6)) L) 3 = some (.ref 578) := gt_ne g3 (by decide) rfl
  have g4 : mjGet (mjSt 4 (.int (i + Int32.ofInt 6)) L) 4 = some (.int (i + Int32.ofInt 6)) := gt_eq
  have h : Pn (some xs) m 373 23 (mjSt 4 (.int (i + Int32.ofInt 6)) L) [] H r H' := pnA h at_373_2110 rfl rfl
  exact ⟨_, ⟨g0, g1, g2, g3, g4, trivial⟩, h⟩
theorem at_373_1967 : mjAtI 373 1967 = some (.aload_n 1, 1, 0, 0, 0) := by decide +kernel
theorem at_373_1968 : mjAtI 373 1968 = some (.aload_n 0, 1, 0, 0, 0) := by decide +kernel
theorem at_373_1969 : mjAtI 373 1969 = some (.iload 4, 2, 0, 0, 0) := by decide +kernel
theorem at_373_1971 : mjAtI 373 1971 = some (.iconst 1, 1, 0, 0, 0) := by decide +kernel
theorem at_373_1972 : mjAtI 373 1972 = some (.iadd, 1, 0, 0, 0) := by decide +kernel
theorem at_373_1973 : mjAtI 373 1973 = some (.iaload, 1, 0, 0, 0) := by decide +kernel
theorem at_373_1974 : mjAtI 373 1974 = some (.aload_n 0, 1, 0, 0, 0) := by decide +kernel
theorem at_373_1975 : mjAtI 373 1975 = some (.iload 4, 2, 0, 0, 0) := by decide +kernel
theorem at_373_1977 : mjAtI 373 1977 = some (.iconst 2, 1, 0, 0, 0) := by decide +kernel
theorem at_373_1978 : mjAtI 373 1978 = some (.iadd, 1, 0, 0, 0) := by decide +kernel
theorem at_373_1979 : mjAtI 373 1979 = some (.iaload, 1, 0, 0, 0) := by decide +kernel
theorem at_373_1980 : mjAtI 373 1980 = some (.aload_n 0, 1, 0, 0, 0) := by decide +kernel
theorem at_373_1981 : mjAtI 373 1981 = some (.iload 4, 2, 0, 0, 0) := by decide +kernel
theorem at_373_1983 : mjAtI 373 1983 = some (.iconst 3, 1, 0, 0, 0) := by decide +kernel
theorem at_373_1984 : mjAtI 373 1984 = some (.iadd, 1, 0, 0, 0) := by decide +kernel
theorem at_373_1985 : mjAtI 373 1985 = some (.iaload, 1, 0, 0, 0) := by decide +kernel
theorem at_373_1986 : mjAtI 373 1986 = some (.aload_n 0, 1, 0, 0, 0) := by decide +kernel
theorem at_373_1987 : mjAtI 373 1987 = some (.iload 4, 2, 0, 0, 0) := by decide +kernel
theorem at_373_1989 : mjAtI 373 1989 = some (.iconst 4, 1, 0, 0, 0) := by decide +kernel
theorem at_373_1990 : mjAtI 373 1990 = some (.iadd, 1, 0, 0, 0) := by decide +kernel
theorem at_373_1991 : mjAtI 373 1991 = some (.iaload, 1, 0, 0, 0) := by decide +kernel
theorem at_373_1992 : mjAtI 373 1992 = some (.aload_n 3, 1, 0, 0, 0) := by decide +kernel
theorem at_373_1993 : mjAtI 373 1993 = some (.invokestatic 340, 3, 372, 1, 1560) := by decide +kernel
theorem kc_373_1993 : kCall (.invokestatic 340) 372 373 = true ∧ kArg 372 = 6 := by decide +kernel
theorem la_53 {m : Nat} {L : mjL} {H H' : mjH} {r : Option Value ⊕ Nat} {xs : List Int32} {i : Int32} (hT : HT H) (hL : LG L [(0, .ref 3000000), (1, .ref 0), (2, .ref 78), (3, .ref 578), (4, .int i)]) (h : Pn (some xs) m 373 1967 L [] H r H') : ∃ y0, (¬ (i + (Int32.ofInt 1)) < 0 ∧ xs[(i + (Int32.ofInt 1)).toNatClampNeg]? = some y0) ∧ ∃ y1, (¬ (i + (Int32.ofInt 2)) < 0 ∧ xs[(i + (Int32.ofInt 2)).toNatClampNeg]? = some y1) ∧ ∃ y2, (¬ (i + (Int32.ofInt 3)) < 0 ∧ xs[(i + (Int32.ofInt 3)).toNatClampNeg]? = some y2) ∧ ∃ y3, (¬ (i + (Int32.ofInt 4)) < 0 ∧ xs[(i + (Int32.ofInt 4)).toNatClampNeg]? = some y3) ∧ ∃ L', LG L' [(0, .ref 3000000), (1, .ref 0), (2, .ref 78), (3, .ref 578), (4, .int i)] ∧ ∃ r2 H2, Pn none m 372 0 [(0, .ref 0), (1, .int y0), (2, .int y1), (3, .int y2), (4, .int y3), (5, .ref 578)] [] H r2 H2 ∧ ((∃ cv, r2 = .inl cv ∧ Pn (some xs) m 373 1996 L' (cv.toList ++ []) H2 r H') ∨ (∃ E, r2 = .inr E ∧ r = .inr E ∧ H' = H2)) := by
  obtain ⟨g0, g1, g2, g3, g4, -⟩ := hL
  have h : Pn (some xs) m 373 1968 L [.ref 0] H r H' := pnLrn g1 h at_373_1967
  have h : Pn (some xs) m 373 1969 L [.ref 3000000, .ref 0] H r H' := pnLrn g0 h at_373_1968
  have h : Pn (some xs) m 373 1971 L [.int i, .ref 3000000, .ref 0] H r H' := pnLi g4 h at_373_1969
  have h : Pn (some xs) m 373 1972 L [.int (Int32.ofInt 1), .int i, .ref 3000000, .ref 0] H r H' := pnA h at_373_1971 rfl rfl
  have h : Pn (some xs) m 373 1973 L [.int (i + (Int32.ofInt 1)), .ref 3000000, .ref 0] H r H' := pnA h at_373_1972 rfl rfl
  obtain ⟨y0, zy0, h⟩ := pnSa h at_373_1973
  have h : Pn (some xs) m 373 1974 L [.int y0, .ref 0] H r H' := h
  refine ⟨y0, zy0, ?_⟩
  have h : Pn (some xs) m 373 1975 L [.ref 3000000, .int y0, .ref 0] H r H' := pnLrn g0 h at_373_1974
  have h : Pn (some xs) m 373 1977 L [.int i, .ref 3000000, .int y0, .ref 0] H r H' := pnLi g4 h at_373_1975
  have h : Pn (some xs) m 373 1978 L [.int (Int32.ofInt 2), .int i, .ref 3000000, .int y0, .ref 0] H r H' := pnA h at_373_1977 rfl rfl
  have h : Pn (some xs) m 373 1979 L [.int (i + (Int32.ofInt 2)), .ref 3000000, .int y0, .ref 0] H r H' := pnA h at_373_1978 rfl rfl
  obtain ⟨y1, zy1, h⟩ := pnSa h at_373_1979
  have h : Pn (some xs) m 373 1980 L [.int y1, .int y0, .ref 0] H r H' := h
  refine ⟨y1, zy1, ?_⟩
  have h : Pn (some xs) m 373 1981 L [.ref 3000000, .int y1, .int y0, .ref 0] H r H' := pnLrn g0 h at_373_1980
  have h : Pn (some xs) m 373 1983 L [.int i, .ref 3000000, .int y1, .int y0, .ref 0] H r H' := pnLi g4 h at_373_1981
  have h : Pn (some xs) m 373 1984 L [.int (Int32.ofInt 3), .int i, .ref 3000000, .int y1, .int y0, .ref 0] H r H' := pnA h at_373_1983 rfl rfl
  have h : Pn (some xs) m 373 1985 L [.int (i + (Int32.ofInt 3)), .ref 3000000, .int y1, .int y0, .ref 0] H r H' := pnA h at_373_1984 rfl rfl
  obtain ⟨y2, zy2, h⟩ := pnSa h at_373_1985
  have h : Pn (some xs) m 373 1986 L [.int y2, .int y1, .int y0, .ref 0] H r H' := h
  refine ⟨y2, zy2, ?_⟩
  have h : Pn (some xs) m 373 1987 L [.ref 3000000, .int y2, .int y1, .int y0, .ref 0] H r H' := pnLrn g0 h at_373_1986
  have h : Pn (some xs) m 373 1989 L [.int i, .ref 3000000, .int y2, .int y1, .int y0, .ref 0] H r H' := pnLi g4 h at_373_1987
  have h : Pn (some xs) m 373 1990 L [.int (Int32.ofInt 4), .int i, .ref 3000000, .int y2, .int y1, .int y0, .ref 0] H r H' := pnA h at_373_1989 rfl rfl
  have h : Pn (some xs) m 373 1991 L [.int (i + (Int32.ofInt 4)), .ref 3000000, .int y2, .int y1, .int y0, .ref 0] H r H' := pnA h at_373_1990 rfl rfl
  obtain ⟨y3, zy3, h⟩ := pnSa h at_373_1991
  have h : Pn (some xs) m 373 1992 L [.int y3, .int y2, .int y1, .int y0, .ref 0] H r H' := h
  refine ⟨y3, zy3, ?_⟩
  have h : Pn (some xs) m 373 1993 L [.ref 578, .int y3, .int y2, .int y1, .int y0, .ref 0] H r H' := pnLrn g3 h at_373_1992
  obtain ⟨r2, H2, q, h⟩ := pnC h at_373_1993 kc_373_1993.1 kc_373_1993.2 (as := [.ref 0, .int y0, .int y1, .int y2, .int y3, .ref 578]) (rest := []) rfl
  have q : Pn none m 372 0 [(0, .ref 0), (1, .int y0), (2, .int y1), (3, .int y2), (4, .int y3), (5, .ref 578)] [] H r2 H2 := q
  exact ⟨_, ⟨g0, g1, g2, g3, g4, trivial⟩, r2, H2, q, h⟩
theorem at_373_1996 : mjAtI 373 1996 = some (.istore 5, 2, 0, 0, 0) := by decide +kernel
theorem at_373_1998 : mjAtI 373 1998 = some (.aload_n 2, 1, 0, 0, 0) := by decide +kernel
theorem at_373_1999 : mjAtI 373 1999 = some (.aload_n 0, 1, 0, 0, 0) := by decide +kernel
theorem at_373_2000 : mjAtI 373 2000 = some (.iload 4, 2, 0, 0, 0) := by decide +kernel
theorem at_373_2002 : mjAtI 373 2002 = some (.iconst 1, 1, 0, 0, 0) := by decide +kernel
theorem at_373_2003 : mjAtI 373 2003 = some (.iadd, 1, 0, 0, 0) := by decide +kernel
theorem at_373_2004 : mjAtI 373 2004 = some (.iaload, 1, 0, 0, 0) := by decide +kernel
theorem at_373_2005 : mjAtI 373 2005 = some (.aload_n 0, 1, 0, 0, 0) := by decide +kernel
theorem at_373_2006 : mjAtI 373 2006 = some (.iload 4, 2, 0, 0, 0) := by decide +kernel
theorem at_373_2008 : mjAtI 373 2008 = some (.iconst 2, 1, 0, 0, 0) := by decide +kernel
theorem at_373_2009 : mjAtI 373 2009 = some (.iadd, 1, 0, 0, 0) := by decide +kernel
theorem at_373_2010 : mjAtI 373 2010 = some (.iaload, 1, 0, 0, 0) := by decide +kernel
theorem at_373_2011 : mjAtI 373 2011 = some (.aload_n 0, 1, 0, 0, 0) := by decide +kernel
theorem at_373_2012 : mjAtI 373 2012 = some (.iload 4, 2, 0, 0, 0) := by decide +kernel
theorem at_373_2014 : mjAtI 373 2014 = some (.iconst 3, 1, 0, 0, 0) := by decide +kernel
theorem at_373_2015 : mjAtI 373 2015 = some (.iadd, 1, 0, 0, 0) := by decide +kernel
theorem at_373_2016 : mjAtI 373 2016 = some (.iaload, 1, 0, 0, 0) := by decide +kernel
theorem at_373_2017 : mjAtI 373 2017 = some (.aload_n 0, 1, 0, 0, 0) := by decide +kernel
theorem at_373_2018 : mjAtI 373 2018 = some (.iload 4, 2, 0, 0, 0) := by decide +kernel
theorem at_373_2020 : mjAtI 373 2020 = some (.iconst 4, 1, 0, 0, 0) := by decide +kernel
theorem at_373_2021 : mjAtI 373 2021 = some (.iadd, 1, 0, 0, 0) := by decide +kernel
theorem at_373_2022 : mjAtI 373 2022 = some (.iaload, 1, 0, 0, 0) := by decide +kernel
theorem at_373_2023 : mjAtI 373 2023 = some (.invokevirtual 343, 3, 321, 0, 2311) := by decide +kernel
theorem kc_373_2023 : kCall (.invokevirtual 343) 321 373 = true ∧ kArg 321 = 5 := by decide +kernel
theorem lb_53 {m : Nat} {L : mjL} {H H' : mjH} {r : Option Value ⊕ Nat} {xs : List Int32} {i : Int32} {s0 : Int32} (hT : HT H) (hL : LG L [(0, .ref 3000000), (1, .ref 0), (2, .ref 78), (3, .ref 578), (4, .int i)]) (h : Pn (some xs) m 373 1996 L [.int s0] H r H') : ∃ y0, (¬ (i + (Int32.ofInt 1)) < 0 ∧ xs[(i + (Int32.ofInt 1)).toNatClampNeg]? = some y0) ∧ ∃ y1, (¬ (i + (Int32.ofInt 2)) < 0 ∧ xs[(i + (Int32.ofInt 2)).toNatClampNeg]? = some y1) ∧ ∃ y2, (¬ (i + (Int32.ofInt 3)) < 0 ∧ xs[(i + (Int32.ofInt 3)).toNatClampNeg]? = some y2) ∧ ∃ y3, (¬ (i + (Int32.ofInt 4)) < 0 ∧ xs[(i + (Int32.ofInt 4)).toNatClampNeg]? = some y3) ∧ ∃ L', LG L' [(0, .ref 3000000), (1, .ref 0), (2, .ref 78), (3, .ref 578), (4, .int i)] ∧ ∃ r2 H2, Pn none m 321 0 [(0, .ref 78), (1, .int y0), (2, .int y1), (3, .int y2), (4, .int y3)] [] H r2 H2 ∧ ((∃ cv, r2 = .inl cv ∧ Pn (some xs) m 373 2026 L' (cv.toList ++ []) H2 r H') ∨ (∃ E, r2 = .inr E ∧ r = .inr E ∧ H' = H2)) := by
  obtain ⟨g0, g1, g2, g3, g4, -⟩ := hL
  have h : Pn (some xs) m 373 1998 (mjSt 5 (.int s0) L) [] H r H' := pnA h at_373_1996 rfl rfl
  have g0 : mjGet (mjSt 5 (.int s0) L) 0 = some (.ref 3000000) := gt_ne g0 (by decide) rfl
  have g1 : mjGet (mjSt 5 (.int s0) L) 1 = some (.ref 0) := gt_ne g1 (by decide) rfl
  have g2 : mjGet (mjSt 5 (.int s0) L) 2 = some (.ref 78) := gt_ne g2 (by decide) rfl
  have g3 : mjGet (mjSt 5 (.int s0) L) 3 = some (.ref 578) := gt_ne g3 (by decide) rfl
  have g4 : mjGet (mjSt 5 (.int s0) L) 4 = some (.int i) := gt_ne g4 (by decide) rfl
  have g5 : mjGet (mjSt 5 (.int s0) L) 5 = some (.int s0) := gt_eq
  have h : Pn (some xs) m 373 1999 (mjSt 5 (.int s0) L) [.ref 78] H r H' := pnLrn g2 h at_373_1998
  have h : Pn (some xs) m 373 2000 (mjSt 5 (.int s0) L) [.ref 3000000, .ref 78] H r H' := pnLrn g0 h at_373_1999
  have h : Pn (some xs) m 373 2002 (mjSt 5 (.int s0) L) [.int i, .ref 3000000, .ref 78] H r H' := pnLi g4 h at_373_2000
  have h : Pn (some xs) m 373 2003 (mjSt 5 (.int s0) L) [.int (Int32.ofInt 1), .int i, .ref 3000000, .ref 78] H r H' := pnA h at_373_2002 rfl rfl
  have h : Pn (some xs) m 373 2004 (mjSt 5 (.int s0) L) [.int (i + (Int32.ofInt 1)), .ref 3000000, .ref 78] H r H' := pnA h at_373_2003 rfl rfl
  obtain ⟨y0, zy0, h⟩ := pnSa h at_373_2004
  have h : Pn (some xs) m 373 2005 (mjSt 5 (.int s0) L) [.int y0, .ref 78] H r H' := h
  refine ⟨y0, zy0, ?_⟩
  have h : Pn (some xs) m 373 2006 (mjSt 5 (.int s0) L) [.ref 3000000, .int y0, .ref 78] H r H' := pnLrn g0 h at_373_2005
  have h : Pn (some xs) m 373 2008 (mjSt 5 (.int s0) L) [.int i, .ref 3000000, .int y0, .ref 78] H r H' := pnLi g4 h at_373_2006
  have h : Pn (some xs) m 373 2009 (mjSt 5 (.int s0) L) [.int (Int32.ofInt 2), .int i, .ref 3000000, .int y0, .ref 78] H r H' := pnA h at_373_2008 rfl rfl
  have h : Pn (some xs) m 373 2010 (mjSt 5 (.int s0) L) [.int (i + (Int32.ofInt 2)), .ref 3000000, .int y0, .ref 78] H r H' := pnA h at_373_2009 rfl rfl
  obtain ⟨y1, zy1, h⟩ := pnSa h at_373_2010
  have h : Pn (some xs) m 373 2011 (mjSt 5 (.int s0) L) [.int y1, .int y0, .ref 78] H r H' := h
  refine ⟨y1, zy1, ?_⟩
  have h : Pn (some xs) m 373 2012 (mjSt 5 (.int s0) L) [.ref 3000000, .int y1, .int y0, .ref 78] H r H' := pnLrn g0 h at_373_2011
  have h : Pn (some xs) m 373 2014 (mjSt 5 (.int s0) L) [.int i, .ref 3000000, .int y1, .int y0, .ref 78] H r H' := pnLi g4 h at_373_2012
  have h : Pn (some xs) m 373 2015 (mjSt 5 (.int s0) L) [.int (Int32.ofInt 3), .int i, .ref 3000000, .int y1, .int y0, .ref 78] H r H' := pnA h at_373_2014 rfl rfl
  have h : Pn (some xs) m 373 2016 (mjSt 5 (.int s0) L) [.int (i + (Int32.ofInt 3)), .ref 3000000, .int y1, .int y0, .ref 78] H r H' := pnA h at_373_2015 rfl rfl
  obtain ⟨y2, zy2, h⟩ := pnSa h at_373_2016
  have h : Pn (some xs) m 373 2017 (mjSt 5 (.int s0) L) [.int y2, .int y1, .int y0, .ref 78] H r H' := h
  refine ⟨y2, zy2, ?_⟩
  have h : Pn (some xs) m 373 2018 (mjSt 5 (.int s0) L) [.ref 3000000, .int y2, .int y1, .int y0, .ref 78] H r H' := pnLrn g0 h at_373_2017
  have h : Pn (some xs) m 373 2020 (mjSt 5 (.int s0) L) [.int i, .ref 3000000, .int y2, .int y1, .int y0, .ref 78] H r H' := pnLi g4 h at_373_2018
  have h : Pn (some xs) m 373 2021 (mjSt 5 (.int s0) L) [.int (Int32.ofInt 4), .int i, .ref 3000000, .int y2, .int y1, .int y0, .ref 78] H r H' := pnA h at_373_2020 rfl rfl
  have h : Pn (some xs) m 373 2022 (mjSt 5 (.int s0) L) [.int (i + (Int32.ofInt 4)), .ref 3000000, .int y2, .int y1, .int y0, .ref 78] H r H' := pnA h at_373_2021 rfl rfl
  obtain ⟨y3, zy3, h⟩ := pnSa h at_373_2022
  have h : Pn (some xs) m 373 2023 (mjSt 5 (.int s0) L) [.int y3, .int y2, .int y1, .int y0, .ref 78] H r H' := h
  refine ⟨y3, zy3, ?_⟩
  obtain ⟨r2, H2, q, h⟩ := pnC h at_373_2023 kc_373_2023.1 kc_373_2023.2 (as := [.ref 78, .int y0, .int y1, .int y2, .int y3]) (rest := []) rfl
  have q : Pn none m 321 0 [(0, .ref 78), (1, .int y0), (2, .int y1), (3, .int y2), (4, .int y3)] [] H r2 H2 := q
  exact ⟨_, ⟨g0, g1, g2, g3, g4, trivial⟩, r2, H2, q, h⟩
theorem at_373_2026 : mjAtI 373 2026 = some (.istore 6, 2, 0, 0, 0) := by decide +kernel
theorem at_373_2028 : mjAtI 373 2028 = some (.goto 79, 3, 0, 2107, 0) := by decide +kernel
theorem lc_53 {m : Nat} {L : mjL} {H H' : mjH} {r : Option Value ⊕ Nat} {xs : List Int32} {i : Int32} {s1 : Int32} (hT : HT H) (hL : LG L [(0, .ref 3000000), (1, .ref 0), (2, .ref 78), (3, .ref 578), (4, .int i)]) (h : Pn (some xs) m 373 2026 L [.int s1] H r H') : ∃ L', LG L' [(0, .ref 3000000), (1, .ref 0), (2, .ref 78), (3, .ref 578), (4, .int (i + Int32.ofInt 6))] ∧ Pn (some xs) m 373 23 L' [] H r H' := by
  obtain ⟨g0, g1, g2, g3, g4, -⟩ := hL
  have h : Pn (some xs) m 373 2028 (mjSt 6 (.int s1) L) [] H r H' := pnA h at_373_2026 rfl rfl
  have g0 : mjGet (mjSt 6 (.int s1) L) 0 = some (.ref 3000000) := gt_ne g0 (by decide) rfl
  have g1 : mjGet (mjSt 6 (.int s1) L) 1 = some (.ref 0) := gt_ne g1 (by decide) rfl
  have g2 : mjGet (mjSt 6 (.int s1) L) 2 = some (.ref 78) := gt_ne g2 (by decide) rfl
  have g3 : mjGet (mjSt 6 (.int s1) L) 3 = some (.ref 578) := gt_ne g3 (by decide) rfl
  have g4 : mjGet (mjSt 6 (.int s1) L) 4 = some (.int i) := gt_ne g4 (by decide) rfl
  have g6 : mjGet (mjSt 6 (.int s1) L) 6 = some (.int s1) := gt_eq
  have h : Pn (some xs) m 373 2107 (mjSt 6 (.int s1) L) [] H r H' := pnA h at_373_2028 rfl rfl
  have h : Pn (some xs) m 373 2110 (mjSt 4 (.int (i + Int32.ofInt 6)) (mjSt 6 (.int s1) L)) [] H r H' := pnInc g4 h at_373_2107
  have g0 : mjGet (mjSt 4 (.int (i + Int32.ofInt 6)) (mjSt 6 (.int s1) L)) 0 = some (.ref 3000000) := gt_ne g0 (by decide) rfl
  have g1 : mjGet (mjSt 4 (.int (i + Int32.ofInt 6)) (mjSt 6 (.int s1) L)) 1 = some (.ref 0) := gt_ne g1 (by decide) rfl
  have g2 : mjGet (mjSt 4 (.int (i + Int32.ofInt 6)) (mjSt 6 (.int s1) L)) 2 = some (.ref 78) := gt_ne g2 (by decide) rfl
  have g3 : mjGet (mjSt 4 (.int (i + Int32.ofInt 6)) (mjSt 6 (.int s1) L)) 3 = some (.ref 578) := gt_ne g3 (by decide) rfl
  have g6 : mjGet (mjSt 4 (.int (i + Int32.ofInt 6)) (mjSt 6 (.int s1) L)) 6 = some (.int s1) := gt_ne g6 (by decide) rfl
  have g4 : mjGet (mjSt 4 (.int (i + Int32.ofInt 6)) (mjSt 6 (.int s1) L)) 4 = some (.int (i + Int32.ofInt 6)) := gt_eq
  have h : Pn (some xs) m 373 23 (mjSt 4 (.int (i + Int32.ofInt 6)) (mjSt 6 (.int s1) L)) [] H r H' := pnA h at_373_2110 rfl rfl
  exact ⟨_, ⟨g0, g1, g2, g3, g4, trivial⟩, h⟩
theorem at_373_2031 : mjAtI 373 2031 = some (.aload_n 1, 1, 0, 0, 0) := by decide +kernel
theorem at_373_2032 : mjAtI 373 2032 = some (.invokevirtual 344, 3, 167, 0, 614) := by decide +kernel
theorem kc_373_2032 : kCall (.invokevirtual 344) 167 373 = true ∧ kArg 167 = 1 := by decide +kernel
theorem la_54 {m : Nat} {L : mjL} {H H' : mjH} {r : Option Value ⊕ Nat} {xs : List Int32} {i : Int32} (hT : HT H) (hL : LG L [(0, .ref 3000000), (1, .ref 0), (2, .ref 78), (3, .ref 578), (4, .int i)]) (h : Pn (some xs) m 373 2031 L [] H r H') : ∃ L', LG L' [(0, .ref 3000000), (1, .ref 0), (2, .ref 78), (3, .ref 578), (4, .int i)] ∧ ∃ r2 H2, Pn none m 167 0 [(0, .ref 0)] [] H r2 H2 ∧ ((∃ cv, r2 = .inl cv ∧ Pn (some xs) m 373 2035 L' (cv.toList ++ []) H2 r H') ∨ (∃ E, r2 = .inr E ∧ r = .inr E ∧ H' = H2)) := by
  obtain ⟨g0, g1, g2, g3, g4, -⟩ := hL
  have h : Pn (some xs) m 373 2032 L [.ref 0] H r H' := pnLrn g1 h at_373_2031
  obtain ⟨r2, H2, q, h⟩ := pnC h at_373_2032 kc_373_2032.1 kc_373_2032.2 (as := [.ref 0]) (rest := []) rfl
  have q : Pn none m 167 0 [(0, .ref 0)] [] H r2 H2 := q
  exact ⟨_, ⟨g0, g1, g2, g3, g4, trivial⟩, r2, H2, q, h⟩
theorem at_373_2035 : mjAtI 373 2035 = some (.pop, 1, 0, 0, 0) := by decide +kernel
theorem at_373_2036 : mjAtI 373 2036 = some (.aload_n 2, 1, 0, 0, 0) := by decide +kernel
theorem at_373_2037 : mjAtI 373 2037 = some (.invokevirtual 347, 3, 324, 0, 2315) := by decide +kernel
theorem kc_373_2037 : kCall (.invokevirtual 347) 324 373 = true ∧ kArg 324 = 1 := by decide +kernel
theorem lb_54 {m : Nat} {L : mjL} {H H' : mjH} {r : Option Value ⊕ Nat} {xs : List Int32} {i : Int32} {s0 : Int32} (hT : HT H) (hL : LG L [(0, .ref 3000000), (1, .ref 0), (2, .ref 78), (3, .ref 578), (4, .int i)]) (h : Pn (some xs) m 373 2035 L [.int s0] H r H') : ∃ L', LG L' [(0, .ref 3000000), (1, .ref 0), (2, .ref 78), (3, .ref 578), (4, .int i)] ∧ ∃ r2 H2, Pn none m 324 0 [(0, .ref 78)] [] H r2 H2 ∧ ((∃ cv, r2 = .inl cv ∧ Pn (some xs) m 373 2040 L' (cv.toList ++ []) H2 r H') ∨ (∃ E, r2 = .inr E ∧ r = .inr E ∧ H' = H2)) := by
  obtain ⟨g0, g1, g2, g3, g4, -⟩ := hL
  have h : Pn (some xs) m 373 2036 L [] H r H' := pnA h at_373_2035 rfl rfl
  have h : Pn (some xs) m 373 2037 L [.ref 78] H r H' := pnLrn g2 h at_373_2036
  obtain ⟨r2, H2, q, h⟩ := pnC h at_373_2037 kc_373_2037.1 kc_373_2037.2 (as := [.ref 78]) (rest := []) rfl
  have q : Pn none m 324 0 [(0, .ref 78)] [] H r2 H2 := q
  exact ⟨_, ⟨g0, g1, g2, g3, g4, trivial⟩, r2, H2, q, h⟩
theorem at_373_2040 : mjAtI 373 2040 = some (.pop, 1, 0, 0, 0) := by decide +kernel
theorem at_373_2041 : mjAtI 373 2041 = some (.goto 66, 3, 0, 2107, 0) := by decide +kernel
theorem lc_54 {m : Nat} {L : mjL} {H H' : mjH} {r : Option Value ⊕ Nat} {xs : List Int32} {i : Int32} {s1 : Int32} (hT : HT H) (hL : LG L [(0, .ref 3000000), (1, .ref 0), (2, .ref 78), (3, .ref 578), (4, .int i)]) (h : Pn (some xs) m 373 2040 L [.int s1] H r H') : ∃ L', LG L' [(0, .ref 3000000), (1, .ref 0), (2, .ref 78), (3, .ref 578), (4, .int (i + Int32.ofInt 6))] ∧ Pn (some xs) m 373 23 L' [] H r H' := by
  obtain ⟨g0, g1, g2, g3, g4, -⟩ := hL
  have h : Pn (some xs) m 373 2041 L [] H r H' := pnA h at_373_2040 rfl rfl
  have h : Pn (some xs) m 373 2107 L [] H r H' := pnA h at_373_2041 rfl rfl
  have h : Pn (some xs) m 373 2110 (mjSt 4 (.int (i + Int32.ofInt 6)) L) [] H r H' := pnInc g4 h at_373_2107
  have g0 : mjGet (mjSt 4 (.int (i + Int32.ofInt 6)) L) 0 = some (.ref 3000000) := gt_ne g0 (by decide) rfl
  have g1 : mjGet (mjSt 4 (.int (i + Int32.ofInt 6)) L) 1 = some (.ref 0) := gt_ne g1 (by decide) rfl
  have g2 : mjGet (mjSt 4 (.int (i + Int32.ofInt 6)) L) 2 = some (.ref 78) := gt_ne g2 (by decide) rfl
  have g3 : mjGet (mjSt 4 (.int (i + Int32.ofInt 6)) L) 3 = some (.ref 578) := gt_ne g3 (by decide) rfl
  have g4 : mjGet (mjSt 4 (.int (i + Int32.ofInt 6)) L) 4 = some (.int (i + Int32.ofInt 6)) := gt_eq
  have h : Pn (some xs) m 373 23 (mjSt 4 (.int (i + Int32.ofInt 6)) L) [] H r H' := pnA h at_373_2110 rfl rfl
  exact ⟨_, ⟨g0, g1, g2, g3, g4, trivial⟩, h⟩
theorem at_373_2044 : mjAtI 373 2044 = some (.aload_n 1, 1, 0, 0, 0) := by decide +kernel
theorem at_373_2045 : mjAtI 373 2045 = some (.invokevirtual 348, 3, 168, 0, 622) := by decide +kernel
theorem kc_373_2045 : kCall (.invokevirtual 348) 168 373 = true ∧ kArg 168 = 1 := by decide +kernel
theorem la_55 {m : Nat} {L : mjL} {H H' : mjH} {r : Option Value ⊕ Nat} {xs : List Int32} {i : Int32} (hT : HT H) (hL : LG L [(0, .ref 3000000), (1, .ref 0), (2, .ref 78), (3, .ref 578), (4, .int i)]) (h : Pn (some xs) m 373 2044 L [] H r H') : ∃ L', LG L' [(0, .ref 3000000), (1, .ref 0), (2, .ref 78), (3, .ref 578), (4, .int i)] ∧ ∃ r2 H2, Pn none m 168 0 [(0, .ref 0)] [] H r2 H2 ∧ ((∃ cv, r2 = .inl cv ∧ Pn (some xs) m 373 2048 L' (cv.toList ++ []) H2 r H') ∨ (∃ E, r2 = .inr E ∧ r = .inr E ∧ H' = H2)) := by
  obtain ⟨g0, g1, g2, g3, g4, -⟩ := hL
  have h : Pn (some xs) m 373 2045 L [.ref 0] H r H' := pnLrn g1 h at_373_2044
  obtain ⟨r2, H2, q, h⟩ := pnC h at_373_2045 kc_373_2045.1 kc_373_2045.2 (as := [.ref 0]) (rest := []) rfl
  have q : Pn none m 168 0 [(0, .ref 0)] [] H r2 H2 := q
  exact ⟨_, ⟨g0, g1, g2, g3, g4, trivial⟩, r2, H2, q, h⟩
theorem at_373_2048 : mjAtI 373 2048 = some (.pop, 1, 0, 0, 0) := by decide +kernel
theorem at_373_2049 : mjAtI 373 2049 = some (.aload_n 2, 1, 0, 0, 0) := by decide +kernel
theorem at_373_2050 : mjAtI 373 2050 = some (.invokevirtual 351, 3, 325, 0, 2327) := by decide +kernel
theorem kc_373_2050 : kCall (.invokevirtual 351) 325 373 = true ∧ kArg 325 = 1 := by decide +kernel
theorem lb_55 {m : Nat} {L : mjL} {H H' : mjH} {r : Option Value ⊕ Nat} {xs : List Int32} {i : Int32} {s0 : Int32} (hT : HT H) (hL : LG L [(0, .ref 3000000), (1, .ref 0), (2, .ref 78), (3, .ref 578), (4, .int i)]) (h : Pn (some xs) m 373 2048 L [.int s0] H r H') : ∃ L', LG L' [(0, .ref 3000000), (1, .ref 0), (2, .ref 78), (3, .ref 578), (4, .int i)] ∧ ∃ r2 H2, Pn none m 325 0 [(0, .ref 78)] [] H r2 H2 ∧ ((∃ cv, r2 = .inl cv ∧ Pn (some xs) m 373 2053 L' (cv.toList ++ []) H2 r H') ∨ (∃ E, r2 = .inr E ∧ r = .inr E ∧ H' = H2)) := by
  obtain ⟨g0, g1, g2, g3, g4, -⟩ := hL
  have h : Pn (some xs) m 373 2049 L [] H r H' := pnA h at_373_2048 rfl rfl
  have h : Pn (some xs) m 373 2050 L [.ref 78] H r H' := pnLrn g2 h at_373_2049
  obtain ⟨r2, H2, q, h⟩ := pnC h at_373_2050 kc_373_2050.1 kc_373_2050.2 (as := [.ref 78]) (rest := []) rfl
  have q : Pn none m 325 0 [(0, .ref 78)] [] H r2 H2 := q
  exact ⟨_, ⟨g0, g1, g2, g3, g4, trivial⟩, r2, H2, q, h⟩
theorem at_373_2053 : mjAtI 373 2053 = some (.pop, 1, 0, 0, 0) := by decide +kernel
theorem at_373_2054 : mjAtI 373 2054 = some (.goto 53, 3, 0, 2107, 0) := by decide +kernel
theorem lc_55 {m : Nat} {L : mjL} {H H' : mjH} {r : Option Value ⊕ Nat} {xs : List Int32} {i : Int32} {s1 : Int32} (hT : HT H) (hL : LG L [(0, .ref 3000000), (1, .ref 0), (2, .ref 78), (3, .ref 578), (4, .int i)]) (h : Pn (some xs) m 373 2053 L [.int s1] H r H') : ∃ L', LG L' [(0, .ref 3000000), (1, .ref 0), (2, .ref 78), (3, .ref 578), (4, .int (i + Int32.ofInt 6))] ∧ Pn (some xs) m 373 23 L' [] H r H' := by
  obtain ⟨g0, g1, g2, g3, g4, -⟩ := hL
  have h : Pn (some xs) m 373 2054 L [] H r H' := pnA h at_373_2053 rfl rfl
  have h : Pn (some xs) m 373 2107 L [] H r H' := pnA h at_373_2054 rfl rfl
  have h : Pn (some xs) m 373 2110 (mjSt 4 (.int (i + Int32.ofInt 6)) L) [] H r H' := pnInc g4 h at_373_2107
  have g0 : mjGet (mjSt 4 (.int (i + Int32.ofInt 6)) L) 0 = some (.ref 3000000) := gt_ne g0 (by decide) rfl
  have g1 : mjGet (mjSt 4 (.int (i + Int32.ofInt 6)) L) 1 = some (.ref 0) := gt_ne g1 (by decide) rfl
  have g2 : mjGet (mjSt 4 (.int (i + Int32.ofInt 6)) L) 2 = some (.ref 78) := gt_ne g2 (by decide) rfl
  have g3 : mjGet (mjSt 4 (.int (i + Int32.ofInt 6)) L) 3 = some (.ref 578) := gt_ne g3 (by decide) rfl
  have g4 : mjGet (mjSt 4 (.int (i + Int32.ofInt 6)) L) 4 = some (.int (i + Int32.ofInt 6)) := gt_eq
  have h : Pn (some xs) m 373 23 (mjSt 4 (.int (i + Int32.ofInt 6)) L) [] H r H' := pnA h at_373_2110 rfl rfl
  exact ⟨_, ⟨g0, g1, g2, g3, g4, trivial⟩, h⟩
theorem at_373_2057 : mjAtI 373 2057 = some (.aload_n 1, 1, 0, 0, 0) := by decide +kernel
theorem at_373_2058 : mjAtI 373 2058 = some (.aload_n 0, 1, 0, 0, 0) := by decide +kernel
theorem at_373_2059 : mjAtI 373 2059 = some (.iload 4, 2, 0, 0, 0) := by decide +kernel
theorem at_373_2061 : mjAtI 373 2061 = some (.iconst 1, 1, 0, 0, 0) := by decide +kernel
theorem at_373_2062 : mjAtI 373 2062 = some (.iadd, 1, 0, 0, 0) := by decide +kernel
theorem at_373_2063 : mjAtI 373 2063 = some (.iaload, 1, 0, 0, 0) := by decide +kernel
theorem at_373_2064 : mjAtI 373 2064 = some (.invokevirtual 352, 3, 169, 0, 626) := by decide +kernel
theorem kc_373_2064 : kCall (.invokevirtual 352) 169 373 = true ∧ kArg 169 = 2 := by decide +kernel
theorem la_56 {m : Nat} {L : mjL} {H H' : mjH} {r : Option Value ⊕ Nat} {xs : List Int32} {i : Int32} (hT : HT H) (hL : LG L [(0, .ref 3000000), (1, .ref 0), (2, .ref 78), (3, .ref 578), (4, .int i)]) (h : Pn (some xs) m 373 2057 L [] H r H') : ∃ y0, (¬ (i + (Int32.ofInt 1)) < 0 ∧ xs[(i + (Int32.ofInt 1)).toNatClampNeg]? = some y0) ∧ ∃ L', LG L' [(0, .ref 3000000), (1, .ref 0), (2, .ref 78), (3, .ref 578), (4, .int i)] ∧ ∃ r2 H2, Pn none m 169 0 [(0, .ref 0), (1, .int y0)] [] H r2 H2 ∧ ((∃ cv, r2 = .inl cv ∧ Pn (some xs) m 373 2067 L' (cv.toList ++ []) H2 r H') ∨ (∃ E, r2 = .inr E ∧ r = .inr E ∧ H' = H2)) := by
  obtain ⟨g0, g1, g2, g3, g4, -⟩ := hL
  have h : Pn (some xs) m 373 2058 L [.ref 0] H r H' := pnLrn g1 h at_373_2057
  have h : Pn (some xs) m 373 2059 L [.ref 3000000, .ref 0] H r H' := pnLrn g0 h at_373_2058
  have h : Pn (some xs) m 373 2061 L [.int i, .ref 3000000, .ref 0] H r H' := pnLi g4 h at_373_2059
  have h : Pn (some xs) m 373 2062 L [.int (Int32.ofInt 1), .int i, .ref 3000000, .ref 0] H r H' := pnA h at_373_2061 rfl rfl
  have h : Pn (some xs) m 373 2063 L [.int (i + (Int32.ofInt 1)), .ref 3000000, .ref 0] H r H' := pnA h at_373_2062 rfl rfl
  obtain ⟨y0, zy0, h⟩ := pnSa h at_373_2063
  have h : Pn (some xs) m 373 2064 L [.int y0, .ref 0] H r H' := h
  refine ⟨y0, zy0, ?_⟩
  obtain ⟨r2, H2, q, h⟩ := pnC h at_373_2064 kc_373_2064.1 kc_373_2064.2 (as := [.ref 0, .int y0]) (rest := []) rfl
  have q : Pn none m 169 0 [(0, .ref 0), (1, .int y0)] [] H r2 H2 := q
  exact ⟨_, ⟨g0, g1, g2, g3, g4, trivial⟩, r2, H2, q, h⟩
theorem at_373_2067 : mjAtI 373 2067 = some (.pop, 1, 0, 0, 0) := by decide +kernel
theorem at_373_2068 : mjAtI 373 2068 = some (.aload_n 2, 1, 0, 0, 0) := by decide +kernel
theorem at_373_2069 : mjAtI 373 2069 = some (.aload_n 0, 1, 0, 0, 0) := by decide +kernel
theorem at_373_2070 : mjAtI 373 2070 = some (.iload 4, 2, 0, 0, 0) := by decide +kernel
theorem at_373_2072 : mjAtI 373 2072 = some (.iconst 1, 1, 0, 0, 0) := by decide +kernel
theorem at_373_2073 : mjAtI 373 2073 = some (.iadd, 1, 0, 0, 0) := by decide +kernel
theorem at_373_2074 : mjAtI 373 2074 = some (.iaload, 1, 0, 0, 0) := by decide +kernel
theorem at_373_2075 : mjAtI 373 2075 = some (.invokevirtual 355, 3, 326, 0, 2331) := by decide +kernel
theorem kc_373_2075 : kCall (.invokevirtual 355) 326 373 = true ∧ kArg 326 = 2 := by decide +kernel
theorem lb_56 {m : Nat} {L : mjL} {H H' : mjH} {r : Option Value ⊕ Nat} {xs : List Int32} {i : Int32} {s0 : Int32} (hT : HT H) (hL : LG L [(0, .ref 3000000), (1, .ref 0), (2, .ref 78), (3, .ref 578), (4, .int i)]) (h : Pn (some xs) m 373 2067 L [.int s0] H r H') : ∃ y0, (¬ (i + (Int32.ofInt 1)) < 0 ∧ xs[(i + (Int32.ofInt 1)).toNatClampNeg]? = some y0) ∧ ∃ L', LG L' [(0, .ref 3000000), (1, .ref 0), (2, .ref 78), (3, .ref 578), (4, .int i)] ∧ ∃ r2 H2, Pn none m 326 0 [(0, .ref 78), (1, .int y0)] [] H r2 H2 ∧ ((∃ cv, r2 = .inl cv ∧ Pn (some xs) m 373 2078 L' (cv.toList ++ []) H2 r H') ∨ (∃ E, r2 = .inr E ∧ r = .inr E ∧ H' = H2)) := by
  obtain ⟨g0, g1, g2, g3, g4, -⟩ := hL
  have h : Pn (some xs) m 373 2068 L [] H r H' := pnA h at_373_2067 rfl rfl
  have h : Pn (some xs) m 373 2069 L [.ref 78] H r H' := pnLrn g2 h at_373_2068
  have h : Pn (some xs) m 373 2070 L [.ref 3000000, .ref 78] H r H' := pnLrn g0 h at_373_2069
  have h : Pn (some xs) m 373 2072 L [.int i, .ref 3000000, .ref 78] H r H' := pnLi g4 h at_373_2070
  have h : Pn (some xs) m 373 2073 L [.int (Int32.ofInt 1), .int i, .ref 3000000, .ref 78] H r H' := pnA h at_373_2072 rfl rfl
  have h : Pn (some xs) m 373 2074 L [.int (i + (Int32.ofInt 1)), .ref 3000000, .ref 78] H r H' := pnA h at_373_2073 rfl rfl
  obtain ⟨y0, zy0, h⟩ := pnSa h at_373_2074
  have h : Pn (some xs) m 373 2075 L [.int y0, .ref 78] H r H' := h
  refine ⟨y0, zy0, ?_⟩
  obtain ⟨r2, H2, q, h⟩ := pnC h at_373_2075 kc_373_2075.1 kc_373_2075.2 (as := [.ref 78, .int y0]) (rest := []) rfl
  have q : Pn none m 326 0 [(0, .ref 78), (1, .int y0)] [] H r2 H2 := q
  exact ⟨_, ⟨g0, g1, g2, g3, g4, trivial⟩, r2, H2, q, h⟩
theorem at_373_2078 : mjAtI 373 2078 = some (.pop, 1, 0, 0, 0) := by decide +kernel
theorem at_373_2079 : mjAtI 373 2079 = some (.goto 28, 3, 0, 2107, 0) := by decide +kernel
theorem lc_56 {m : Nat} {L : mjL} {H H' : mjH} {r : Option Value ⊕ Nat} {xs : List Int32} {i : Int32} {s1 : Int32} (hT : HT H) (hL : LG L [(0, .ref 3000000), (1, .ref 0), (2, .ref 78), (3, .ref 578), (4, .int i)]) (h : Pn (some xs) m 373 2078 L [.int s1] H r H') : ∃ L', LG L' [(0, .ref 3000000), (1, .ref 0), (2, .ref 78), (3, .ref 578), (4, .int (i + Int32.ofInt 6))] ∧ Pn (some xs) m 373 23 L' [] H r H' := by
  obtain ⟨g0, g1, g2, g3, g4, -⟩ := hL
  have h : Pn (some xs) m 373 2079 L [] H r H' := pnA h at_373_2078 rfl rfl
  have h : Pn (some xs) m 373 2107 L [] H r H' := pnA h at_373_2079 rfl rfl
  have h : Pn (some xs) m 373 2110 (mjSt 4 (.int (i + Int32.ofInt 6)) L) [] H r H' := pnInc g4 h at_373_2107
  have g0 : mjGet (mjSt 4 (.int (i + Int32.ofInt 6)) L) 0 = some (.ref 3000000) := gt_ne g0 (by decide) rfl
  have g1 : mjGet (mjSt 4 (.int (i + Int32.ofInt 6)) L) 1 = some (.ref 0) := gt_ne g1 (by decide) rfl
  have g2 : mjGet (mjSt 4 (.int (i + Int32.ofInt 6)) L) 2 = some (.ref 78) := gt_ne g2 (by decide) rfl
  have g3 : mjGet (mjSt 4 (.int (i + Int32.ofInt 6)) L) 3 = some (.ref 578) := gt_ne g3 (by decide) rfl
  have g4 : mjGet (mjSt 4 (.int (i + Int32.ofInt 6)) L) 4 = some (.int (i + Int32.ofInt 6)) := gt_eq
  have h : Pn (some xs) m 373 23 (mjSt 4 (.int (i + Int32.ofInt 6)) L) [] H r H' := pnA h at_373_2110 rfl rfl
  exact ⟨_, ⟨g0, g1, g2, g3, g4, trivial⟩, h⟩
theorem at_373_2082 : mjAtI 373 2082 = some (.aload_n 1, 1, 0, 0, 0) := by decide +kernel
theorem at_373_2083 : mjAtI 373 2083 = some (.aload_n 0, 1, 0, 0, 0) := by decide +kernel
theorem at_373_2084 : mjAtI 373 2084 = some (.iload 4, 2, 0, 0, 0) := by decide +kernel
theorem at_373_2086 : mjAtI 373 2086 = some (.iconst 1, 1, 0, 0, 0) := by decide +kernel
theorem at_373_2087 : mjAtI 373 2087 = some (.iadd, 1, 0, 0, 0) := by decide +kernel
theorem at_373_2088 : mjAtI 373 2088 = some (.iaload, 1, 0, 0, 0) := by decide +kernel
theorem at_373_2089 : mjAtI 373 2089 = some (.invokevirtual 356, 3, 170, 0, 630) := by decide +kernel
theorem kc_373_2089 : kCall (.invokevirtual 356) 170 373 = true ∧ kArg 170 = 2 := by decide +kernel
theorem la_57 {m : Nat} {L : mjL} {H H' : mjH} {r : Option Value ⊕ Nat} {xs : List Int32} {i : Int32} (hT : HT H) (hL : LG L [(0, .ref 3000000), (1, .ref 0), (2, .ref 78), (3, .ref 578), (4, .int i)]) (h : Pn (some xs) m 373 2082 L [] H r H') : ∃ y0, (¬ (i + (Int32.ofInt 1)) < 0 ∧ xs[(i + (Int32.ofInt 1)).toNatClampNeg]? = some y0) ∧ ∃ L', LG L' [(0, .ref 3000000), (1, .ref 0), (2, .ref 78), (3, .ref 578), (4, .int i)] ∧ ∃ r2 H2, Pn none m 170 0 [(0, .ref 0), (1, .int y0)] [] H r2 H2 ∧ ((∃ cv, r2 = .inl cv ∧ Pn (some xs) m 373 2092 L' (cv.toList ++ []) H2 r H') ∨ (∃ E, r2 = .inr E ∧ r = .inr E ∧ H' = H2)) := by
  obtain ⟨g0, g1, g2, g3, g4, -⟩ := hL
  have h : Pn (some xs) m 373 2083 L [.ref 0] H r H' := pnLrn g1 h at_373_2082
  have h : Pn (some xs) m 373 2084 L [.ref 3000000, .ref 0] H r H' := pnLrn g0 h at_373_2083
  have h : Pn (some xs) m 373 2086 L [.int i, .ref 3000000, .ref 0] H r H' := pnLi g4 h at_373_2084
  have h : Pn (some xs) m 373 2087 L [.int (Int32.ofInt 1), .int i, .ref 3000000, .ref 0] H r H' := pnA h at_373_2086 rfl rfl
  have h : Pn (some xs) m 373 2088 L [.int (i + (Int32.ofInt 1)), .ref 3000000, .ref 0] H r H' := pnA h at_373_2087 rfl rfl
  obtain ⟨y0, zy0, h⟩ := pnSa h at_373_2088
  have h : Pn (some xs) m 373 2089 L [.int y0, .ref 0] H r H' := h
  refine ⟨y0, zy0, ?_⟩
  obtain ⟨r2, H2, q, h⟩ := pnC h at_373_2089 kc_373_2089.1 kc_373_2089.2 (as := [.ref 0, .int y0]) (rest := []) rfl
  have q : Pn none m 170 0 [(0, .ref 0), (1, .int y0)] [] H r2 H2 := q
  exact ⟨_, ⟨g0, g1, g2, g3, g4, trivial⟩, r2, H2, q, h⟩
theorem at_373_2092 : mjAtI 373 2092 = some (.pop, 1, 0, 0, 0) := by decide +kernel
theorem at_373_2093 : mjAtI 373 2093 = some (.aload_n 2, 1, 0, 0, 0) := by decide +kernel
theorem at_373_2094 : mjAtI 373 2094 = some (.aload_n 0, 1, 0, 0, 0) := by decide +kernel
theorem at_373_2095 : mjAtI 373 2095 = some (.iload 4, 2, 0, 0, 0) := by decide +kernel
theorem at_373_2097 : mjAtI 373 2097 = some (.iconst 1, 1, 0, 0, 0) := by decide +kernel
theorem at_373_2098 : mjAtI 373 2098 = some (.iadd, 1, 0, 0, 0) := by decide +kernel
theorem at_373_2099 : mjAtI 373 2099 = some (.iaload, 1, 0, 0, 0) := by decide +kernel
theorem at_373_2100 : mjAtI 373 2100 = some (.invokevirtual 359, 3, 327, 0, 2335) := by decide +kernel
theorem kc_373_2100 : kCall (.invokevirtual 359) 327 373 = true ∧ kArg 327 = 2 := by decide +kernel
theorem lb_57 {m : Nat} {L : mjL} {H H' : mjH} {r : Option Value ⊕ Nat} {xs : List Int32} {i : Int32} {s0 : Int32} (hT : HT H) (hL : LG L [(0, .ref 3000000), (1, .ref 0), (2, .ref 78), (3, .ref 578), (4, .int i)]) (h : Pn (some xs) m 373 2092 L [.int s0] H r H') : ∃ y0, (¬ (i + (Int32.ofInt 1)) < 0 ∧ xs[(i + (Int32.ofInt 1)).toNatClampNeg]? = some y0) ∧ ∃ L', LG L' [(0, .ref 3000000), (1, .ref 0), (2, .ref 78), (3, .ref 578), (4, .int i)] ∧ ∃ r2 H2, Pn none m 327 0 [(0, .ref 78), (1, .int y0)] [] H r2 H2 ∧ ((∃ cv, r2 = .inl cv ∧ Pn (some xs) m 373 2103 L' (cv.toList ++ []) H2 r H') ∨ (∃ E, r2 = .inr E ∧ r = .inr E ∧ H' = H2)) := by
  obtain ⟨g0, g1, g2, g3, g4, -⟩ := hL
  have h : Pn (some xs) m 373 2093 L [] H r H' := pnA h at_373_2092 rfl rfl
  have h : Pn (some xs) m 373 2094 L [.ref 78] H r H' := pnLrn g2 h at_373_2093
  have h : Pn (some xs) m 373 2095 L [.ref 3000000, .ref 78] H r H' := pnLrn g0 h at_373_2094
  have h : Pn (some xs) m 373 2097 L [.int i, .ref 3000000, .ref 78] H r H' := pnLi g4 h at_373_2095
  have h : Pn (some xs) m 373 2098 L [.int (Int32.ofInt 1), .int i, .ref 3000000, .ref 78] H r H' := pnA h at_373_2097 rfl rfl
  have h : Pn (some xs) m 373 2099 L [.int (i + (Int32.ofInt 1)), .ref 3000000, .ref 78] H r H' := pnA h at_373_2098 rfl rfl
  obtain ⟨y0, zy0, h⟩ := pnSa h at_373_2099
  have h : Pn (some xs) m 373 2100 L [.int y0, .ref 78] H r H' := h
  refine ⟨y0, zy0, ?_⟩
  obtain ⟨r2, H2, q, h⟩ := pnC h at_373_2100 kc_373_2100.1 kc_373_2100.2 (as := [.ref 78, .int y0]) (rest := []) rfl
  have q : Pn none m 327 0 [(0, .ref 78), (1, .int y0)] [] H r2 H2 := q
  exact ⟨_, ⟨g0, g1, g2, g3, g4, trivial⟩, r2, H2, q, h⟩
theorem at_373_2103 : mjAtI 373 2103 = some (.pop, 1, 0, 0, 0) := by decide +kernel
theorem at_373_2104 : mjAtI 373 2104 = some (.goto 3, 3, 0, 2107, 0) := by decide +kernel
theorem lc_57 {m : Nat} {L : mjL} {H H' : mjH} {r : Option Value ⊕ Nat} {xs : List Int32} {i : Int32} {s1 : Int32} (hT : HT H) (hL : LG L [(0, .ref 3000000), (1, .ref 0), (2, .ref 78), (3, .ref 578), (4, .int i)]) (h : Pn (some xs) m 373 2103 L [.int s1] H r H') : ∃ L', LG L' [(0, .ref 3000000), (1, .ref 0), (2, .ref 78), (3, .ref 578), (4, .int (i + Int32.ofInt 6))] ∧ Pn (some xs) m 373 23 L' [] H r H' := by
  obtain ⟨g0, g1, g2, g3, g4, -⟩ := hL
  have h : Pn (some xs) m 373 2104 L [] H r H' := pnA h at_373_2103 rfl rfl
  have h : Pn (some xs) m 373 2107 L [] H r H' := pnA h at_373_2104 rfl rfl
  have h : Pn (some xs) m 373 2110 (mjSt 4 (.int (i + Int32.ofInt 6)) L) [] H r H' := pnInc g4 h at_373_2107
  have g0 : mjGet (mjSt 4 (.int (i + Int32.ofInt 6)) L) 0 = some (.ref 3000000) := gt_ne g0 (by decide) rfl
  have g1 : mjGet (mjSt 4 (.int (i + Int32.ofInt 6)) L) 1 = some (.ref 0) := gt_ne g1 (by decide) rfl
  have g2 : mjGet (mjSt 4 (.int (i + Int32.ofInt 6)) L) 2 = some (.ref 78) := gt_ne g2 (by decide) rfl
  have g3 : mjGet (mjSt 4 (.int (i + Int32.ofInt 6)) L) 3 = some (.ref 578) := gt_ne g3 (by decide) rfl
  have g4 : mjGet (mjSt 4 (.int (i + Int32.ofInt 6)) L) 4 = some (.int (i + Int32.ofInt 6)) := gt_eq
  have h : Pn (some xs) m 373 23 (mjSt 4 (.int (i + Int32.ofInt 6)) L) [] H r H' := pnA h at_373_2110 rfl rfl
  exact ⟨_, ⟨g0, g1, g2, g3, g4, trivial⟩, h⟩
theorem at_373_23 : mjAtI 373 23 = some (.iload 4, 2, 0, 0, 0) := by decide +kernel
theorem at_373_25 : mjAtI 373 25 = some (.aload_n 0, 1, 0, 0, 0) := by decide +kernel
theorem la_p0 {m : Nat} {L : mjL} {H H' : mjH} {r : Option Value ⊕ Nat} {xs : List Int32} {i : Int32} (hT : HT H) (hL : LG L [(0, .ref 3000000), (1, .ref 0), (2, .ref 78), (3, .ref 578), (4, .int i)]) (h : Pn (some xs) (m + 1) 373 23 L [] H r H') : ∃ L', LG L' [(0, .ref 3000000), (1, .ref 0), (2, .ref 78), (3, .ref 578), (4, .int i)] ∧ Pn (some xs) m 373 26 L' [.ref 3000000, .int i] H r H' := by
  obtain ⟨g0, g1, g2, g3, g4, -⟩ := hL
  have h := h
  have h : Pn (some xs) m 373 25 L [.int i] H r H' := pnSi_ g4 h at_373_23
  have h : Pn (some xs) m 373 26 L [.ref 3000000, .int i] H r H' := pnLrn g0 h at_373_25
  exact ⟨_, ⟨g0, g1, g2, g3, g4, trivial⟩, h⟩
theorem at_373_26 : mjAtI 373 26 = some (.arraylength, 1, 0, 0, 0) := by decide +kernel
theorem at_373_27 : mjAtI 373 27 = some (.bipush 6, 2, 0, 0, 0) := by decide +kernel
theorem at_373_29 : mjAtI 373 29 = some (.isub, 1, 0, 0, 0) := by decide +kernel
theorem at_373_30 : mjAtI 373 30 = some (.if_icmp .gt 2083, 3, 0, 2113, 0) := by decide +kernel
theorem at_373_2113 : mjAtI 373 2113 = some (.iconst 1, 1, 0, 0, 0) := by decide +kernel
theorem at_373_2114 : mjAtI 373 2114 = some (.ireturn, 1, 0, 0, 0) := by decide +kernel
theorem at_373_33 : mjAtI 373 33 = some (.aload_n 0, 1, 0, 0, 0) := by decide +kernel
theorem at_373_34 : mjAtI 373 34 = some (.iload 4, 2, 0, 0, 0) := by decide +kernel
theorem at_373_36 : mjAtI 373 36 = some (.iaload, 1, 0, 0, 0) := by decide +kernel
theorem at_373_37 : mjAtI 373 37 = some (.bipush 63, 2, 0, 0, 0) := by decide +kernel
theorem at_373_39 : mjAtI 373 39 = some (.iand, 1, 0, 0, 0) := by decide +kernel
theorem la_hd {m : Nat} {L : mjL} {H H' : mjH} {r : Option Value ⊕ Nat} {xs : List Int32} {i : Int32} (hT : HT H) (hL : LG L [(0, .ref 3000000), (1, .ref 0), (2, .ref 78), (3, .ref 578), (4, .int i)]) (h : Pn (some xs) m 373 26 L [.ref 3000000, .int i] H r H') : ((((Int32.ofNat xs.length) - (Int32.ofInt 6)) < i) ∧ (r = .inl (some (.int (Int32.ofInt 1))) ∧ H' = H)) ∨ (¬ (((Int32.ofNat xs.length) - (Int32.ofInt 6)) < i) ∧ ∃ y0, (¬ i < 0 ∧ xs[i.toNatClampNeg]? = some y0) ∧ ∃ L', LG L' [(0, .ref 3000000), (1, .ref 0), (2, .ref 78), (3, .ref 578), (4, .int i)] ∧ Pn (some xs) m 373 40 L' [.int (y0 &&& (Int32.ofInt 63))] H r H') := by
  obtain ⟨g0, g1, g2, g3, g4, -⟩ := hL
  have h : Pn (some xs) m 373 27 L [.int (Int32.ofNat xs.length), .int i] H r H' := pnSl h at_373_26
  have h : Pn (some xs) m 373 29 L [.int (Int32.ofInt 6), .int (Int32.ofNat xs.length), .int i] H r H' := pnBi h at_373_27 (by decide)
  have h : Pn (some xs) m 373 30 L [.int ((Int32.ofNat xs.length) - (Int32.ofInt 6)), .int i] H r H' := pnA h at_373_29 rfl rfl
  rcases pnIf2 h at_373_30 with ⟨c, h⟩ | ⟨c, h⟩
  · refine Or.inl ⟨c, ?_⟩
    have h : Pn (some xs) m 373 2114 L [.int (Int32.ofInt 1)] H r H' := pnA h at_373_2113 rfl rfl
    exact pnRi h at_373_2114
  · refine Or.inr ⟨c, ?_⟩
    have h : Pn (some xs) m 373 34 L [.ref 3000000] H r H' := pnLrn g0 h at_373_33
    have h : Pn (some xs) m 373 36 L [.int i, .ref 3000000] H r H' := pnLi g4 h at_373_34
    obtain ⟨y0, zy0, h⟩ := pnSa h at_373_36
    have h : Pn (some xs) m 373 37 L [.int y0] H r H' := h
    refine ⟨y0, zy0, ?_⟩
    have h : Pn (some xs) m 373 39 L [.int (Int32.ofInt 63), .int y0] H r H' := pnBi h at_373_37 (by decide)
    have h : Pn (some xs) m 373 40 L [.int (y0 &&& (Int32.ofInt 63))] H r H' := pnA h at_373_39 rfl rfl
    exact ⟨_, ⟨g0, g1, g2, g3, g4, trivial⟩, h⟩
theorem at_373_40 : mjAtI 373 40 = some (.tableswitch 2067 0 57 #[248, 321, 349, 377, 405, 418, 446, 474, 502, 530, 570, 622, 635, 648, 705, 730, 758, 786, 814, 854, 882, 895, 923, 951, 967, 1007, 1047, 1087, 1115, 1155, 1211, 1239, 1267, 1295, 1347, 1384, 1424, 1452, 1480, 1520, 1560, 1588, 1616, 1644, 1672, 1724, 1764, 1792, 1820, 1848, 1873, 1901, 1914, 1927, 1991, 2004, 2017, 2042], 248, 0, 0, 0) := by decide +kernel
theorem la_sw {m : Nat} {L : mjL} {H H' : mjH} {r : Option Value ⊕ Nat} {xs : List Int32} {i : Int32} {w : Int32} (hT : HT H) (hL : LG L [(0, .ref 3000000), (1, .ref 0), (2, .ref 78), (3, .ref 578), (4, .int i)]) (h : Pn (some xs) m 373 40 L [.int w] H r H') : ((w.toInt < 0 ∨ 57 < w.toInt) ∧ ∃ L', LG L' [(0, .ref 3000000), (1, .ref 0), (2, .ref 78), (3, .ref 578), (4, .int (i + Int32.ofInt 6))] ∧ Pn (some xs) m 373 23 L' [] H r H') ∨ ((w.toInt = 0 ∧ ∃ L', LG L' [(0, .ref 3000000), (1, .ref 0), (2, .ref 78), (3, .ref 578), (4, .int i)] ∧ Pn (some xs) m 373 288 L' [] H r H') ∨ ((w.toInt = 1 ∧ ∃ L', LG L' [(0, .ref 3000000), (1, .ref 0), (2, .ref 78), (3, .ref 578), (4, .int i)] ∧ Pn (some xs) m 373 361 L' [] H r H') ∨ ((w.toInt = 2 ∧ ∃ L', LG L' [(0, .ref 3000000), (1, .ref 0), (2, .ref 78), (3, .ref 578), (4, .int i)] ∧ Pn (some xs) m 373 389 L' [] H r H') ∨ ((w.toInt = 3 ∧ ∃ L', LG L' [(0, .ref 3000000), (1, .ref 0), (2, .ref 78), (3, .ref 578), (4, .int i)] ∧ Pn (some xs) m 373 417 L' [] H r H') ∨ ((w.toInt = 4 ∧ ∃ L', LG L' [(0, .ref 3000000), (1, .ref 0), (2, .ref 78), (3, .ref 578), (4, .int i)] ∧ Pn (some xs) m 373 445 L' [] H r H') ∨ ((w.toInt = 5 ∧ ∃ L', LG L' [(0, .ref 3000000), (1, .ref 0), (2, .ref 78), (3, .ref 578), (4, .int i)] ∧ Pn (some xs) m 373 458 L' [] H r H') ∨ ((w.toInt = 6 ∧ ∃ L', LG L' [(0, .ref 3000000), (1, .ref 0), (2, .ref 78), (3, .ref 578), (4, .int i)] ∧ Pn (some xs) m 373 486 L' [] H r H') ∨ ((w.toInt = 7 ∧ ∃ L', LG L' [(0, .ref 3000000), (1, .ref 0), (2, .ref 78), (3, .ref 578), (4, .int i)] ∧ Pn (some xs) m 373 514 L' [] H r H') ∨ ((w.toInt = 8 ∧ ∃ L', LG L' [(0, .ref 3000000), (1, .ref 0), (2, .ref 78), (3, .ref 578), (4, .int i)] ∧ Pn (some xs) m 373 542 L' [] H r H') ∨ ((w.toInt = 9 ∧ ∃ L', LG L' [(0, .ref 3000000), (1, .ref 0), (2, .ref 78), (3, .ref 578), (4, .int i)] ∧ Pn (some xs) m 373 570 L' [] H r H') ∨ ((w.toInt = 10 ∧ ∃ L', LG L' [(0, .ref 3000000), (1, .ref 0), (2, .ref 78), (3, .ref 578), (4, .int i)] ∧ Pn (some xs) m 373 610 L' [] H r H') ∨ ((w.toInt = 11 ∧ ∃ L', LG L' [(0, .ref 3000000), (1, .ref 0), (2, .ref 78), (3, .ref 578), (4, .int i)] ∧ Pn (some xs) m 373 662 L' [] H r H') ∨ ((w.toInt = 12 ∧ ∃ L', LG L' [(0, .ref 3000000), (1, .ref 0), (2, .ref 78), (3, .ref 578), (4, .int i)] ∧ Pn (some xs) m 373 675 L' [] H r H') ∨ ((w.toInt = 13 ∧ ∃ L', LG L' [(0, .ref 3000000), (1, .ref 0), (2, .ref 78), (3, .ref 578), (4, .int i)] ∧ Pn (some xs) m 373 688 L' [] H r H') ∨ ((w.toInt = 14 ∧ ∃ L', LG L' [(0, .ref 3000000), (1, .ref 0), (2, .ref 78), (3, .ref 578), (4, .int i)] ∧ Pn (some xs) m 373 745 L' [] H r H') ∨ ((w.toInt = 15 ∧ ∃ L', LG L' [(0, .ref 3000000), (1, .ref 0), (2, .ref 78), (3, .ref 578), (4, .int i)] ∧ Pn (some xs) m 373 770 L' [] H r H') ∨ ((w.toInt = 16 ∧ ∃ L', LG L' [(0, .ref 3000000), (1, .ref 0), (2, .ref 78), (3, .ref 578), (4, .int i)] ∧ Pn (some xs) m 373 798 L' [] H r H') ∨ ((w.toInt = 17 ∧ ∃ L', LG L' [(0, .ref 3000000), (1, .ref 0), (2, .ref 78), (3, .ref 578), (4, .int i)] ∧ Pn (some xs) m 373 826 L' [] H r H') ∨ ((w.toInt = 18 ∧ ∃ L', LG L' [(0, .ref 3000000), (1, .ref 0), (2, .ref 78), (3, .ref 578), (4, .int i)] ∧ Pn (some xs) m 373 854 L' [] H r H') ∨ ((w.toInt = 19 ∧ ∃ L', LG L' [(0, .ref 3000000), (1, .ref 0), (2, .ref 78), (3, .ref 578), (4, .int i)] ∧ Pn (some xs) m 373 894 L' [] H r H') ∨ ((w.toInt = 20 ∧ ∃ L', LG L' [(0, .ref 3000000), (1, .ref 0), (2, .ref 78), (3, .ref 578), (4, .int i)] ∧ Pn (some xs) m 373 922 L' [] H r H') ∨ ((w.toInt = 21 ∧ ∃ L', LG L' [(0, .ref 3000000), (1, .ref 0), (2, .ref 78), (3, .ref 578), (4, .int i)] ∧ Pn (some xs) m 373 935 L' [] H r H') ∨ ((w.toInt = 22 ∧ ∃ L', LG L' [(0, .ref 3000000), (1, .ref 0), (2, .ref 78), (3, .ref 578), (4, .int i)] ∧ Pn (some xs) m 373 963 L' [] H r H') ∨ ((w.toInt = 23 ∧ ∃ L', LG L' [(0, .ref 3000000), (1, .ref 0), (2, .ref 78), (3, .ref 578), (4, .int i)] ∧ Pn (some xs) m 373 991 L' [] H r H') ∨ ((w.toInt = 24 ∧ ∃ L', LG L' [(0, .ref 3000000), (1, .ref 0), (2, .ref 78), (3, .ref 578), (4, .int i)] ∧ Pn (some xs) m 373 1007 L' [] H r H') ∨ ((w.toInt = 25 ∧ ∃ L', LG L' [(0, .ref 3000000), (1, .ref 0), (2, .ref 78), (3, .ref 578), (4, .int i)] ∧ Pn (some xs) m 373 1047 L' [] H r H') ∨ ((w.toInt = 26 ∧ ∃ L', LG L' [(0, .ref 3000000), (1, .ref 0), (2, .ref 78), (3, .ref 578), (4, .int i)] ∧ Pn (some xs) m 373 1087 L' [] H r H') ∨ ((w.toInt = 27 ∧ ∃ L', LG L' [(0, .ref 3000000), (1, .ref 0), (2, .ref 78), (3, .ref 578), (4, .int i)] ∧ Pn (some xs) m 373 1127 L' [] H r H') ∨ ((w.toInt = 28 ∧ ∃ L', LG L' [(0, .ref 3000000), (1, .ref 0), (2, .ref 78), (3, .ref 578), (4, .int i)] ∧ Pn (some xs) m 373 1155 L' [] H r H') ∨ ((w.toInt = 29 ∧ ∃ L', LG L' [(0, .ref 3000000), (1, .ref 0), (2, .ref 78), (3, .ref 578), (4, .int i)] ∧ Pn (some xs) m 373 1195 L' [] H r H') ∨ ((w.toInt = 30 ∧ ∃ L', LG L' [(0, .ref 3000000), (1, .ref 0), (2, .ref 78), (3, .ref 578), (4, .int i)] ∧ Pn (some xs) m 373 1251 L' [] H r H') ∨ ((w.toInt = 31 ∧ ∃ L', LG L' [(0, .ref 3000000), (1, .ref 0), (2, .ref 78), (3, .ref 578), (4, .int i)] ∧ Pn (some xs) m 373 1279 L' [] H r H') ∨ ((w.toInt = 32 ∧ ∃ L', LG L' [(0, .ref 3000000), (1, .ref 0), (2, .ref 78), (3, .ref 578), (4, .int i)] ∧ Pn (some xs) m 373 1307 L' [] H r H') ∨ ((w.toInt = 33 ∧ ∃ L', LG L' [(0, .ref 3000000), (1, .ref 0), (2, .ref 78), (3, .ref 578), (4, .int i)] ∧ Pn (some xs) m 373 1335 L' [] H r H') ∨ ((w.toInt = 34 ∧ ∃ L', LG L' [(0, .ref 3000000), (1, .ref 0), (2, .ref 78), (3, .ref 578), (4, .int i)] ∧ Pn (some xs) m 373 1387 L' [] H r H') ∨ ((w.toInt = 35 ∧ ∃ L', LG L' [(0, .ref 3000000), (1, .ref 0), (2, .ref 78), (3, .ref 578), (4, .int i)] ∧ Pn (some xs) m 373 1424 L' [] H r H') ∨ ((w.toInt = 36 ∧ ∃ L', LG L' [(0, .ref 3000000), (1, .ref 0), (2, .ref 78), (3, .ref 578), (4, .int i)] ∧ Pn (some xs) m 373 1464 L' [] H r H') ∨ ((w.toInt = 37 ∧ ∃ L', LG L' [(0, .ref 3000000), (1, .ref 0), (2, .ref 78), (3, .ref 578), (4, .int i)] ∧ Pn (some xs) m 373 1492 L' [] H r H') ∨ ((w.toInt = 38 ∧ ∃ L', LG L' [(0, .ref 3000000), (1, .ref 0), (2, .ref 78), (3, .ref 578), (4, .int i)] ∧ Pn (some xs) m 373 1520 L' [] H r H') ∨ ((w.toInt = 39 ∧ ∃ L', LG L' [(0, .ref 3000000), (1, .ref 0), (2, .ref 78), (3, .ref 578), (4, .int i)] ∧ Pn (some xs) m 373 1560 L' [] H r H') ∨ ((w.toInt = 40 ∧ ∃ L', LG L' [(0, .ref 3000000), (1, .ref 0), (2, .ref 78), (3, .ref 578), (4, .int i)] ∧ Pn (some xs) m 373 1600 L' [] H r H') ∨ ((w.toInt = 41 ∧ ∃ L', LG L' [(0, .ref 3000000), (1, .ref 0), (2, .ref 78), (3, .ref 578), (4, .int i)] ∧ Pn (some xs) m 373 1628 L' [] H r H') ∨ ((w.toInt = 42 ∧ ∃ L', LG L' [(0, .ref 3000000), (1, .ref 0), (2, .ref 78), (3, .ref 578), (4, .int i)] ∧ Pn (some xs) m 373 1656 L' [] H r H') ∨ ((w.toInt = 43 ∧ ∃ L', LG L' [(0, .ref 3000000), (1, .ref 0), (2, .ref 78), (3, .ref 578), (4, .int i)] ∧ Pn (some xs) m 373 1684 L' [] H r H') ∨ ((w.toInt = 44 ∧ ∃ L', LG L' [(0, .ref 3000000), (1, .ref 0), (2, .ref 78), (3, .ref 578), (4, .int i)] ∧ Pn (some xs) m 373 1712 L' [] H r H') ∨ ((w.toInt = 45 ∧ ∃ L', LG L' [(0, .ref 3000000), (1, .ref 0), (2, .ref 78), (3, .ref 578), (4, .int i)] ∧ Pn (some xs) m 373 1764 L' [] H r H') ∨ ((w.toInt = 46 ∧ ∃ L', LG L' [(0, .ref 3000000), (1, .ref 0), (2, .ref 78), (3, .ref 578), (4, .int i)] ∧ Pn (some xs) m 373 1804 L' [] H r H') ∨ ((w.toInt = 47 ∧ ∃ L', LG L' [(0, .ref 3000000), (1, .ref 0), (2, .ref 78), (3, .ref 578), (4, .int i)] ∧ Pn (some xs) m 373 1832 L' [] H r H') ∨ ((w.toInt = 48 ∧ ∃ L', LG L' [(0, .ref 3000000), (1, .ref 0), (2, .ref 78), (3, .ref 578), (4, .int i)] ∧ Pn (some xs) m 373 1860 L' [] H r H') ∨ ((w.toInt = 49 ∧ ∃ L', LG L' [(0, .ref 3000000), (1, .ref 0), (2, .ref 78), (3, .ref 578), (4, .int i)] ∧ Pn (some xs) m 373 1888 L' [] H r H') ∨ ((w.toInt = 50 ∧ ∃ L', LG L' [(0, .ref 3000000), (1, .ref 0), (2, .ref 78), (3, .ref 578), (4, .int i)] ∧ Pn (some xs) m 373 1913 L' [] H r H') ∨ ((w.toInt = 51 ∧ ∃ L', LG L' [(0, .ref 3000000), (1, .ref 0), (2, .ref 78), (3, .ref 578), (4, .int i)] ∧ Pn (some xs) m 373 1941 L' [] H r H') ∨ ((w.toInt = 52 ∧ ∃ L', LG L' [(0, .ref 3000000), (1, .ref 0), (2, .ref 78), (3, .ref 578), (4, .int i)] ∧ Pn (some xs) m 373 1954 L' [] H r H') ∨ ((w.toInt = 53 ∧ ∃ L', LG L' [(0, .ref 3000000), (1, .ref 0), (2, .ref 78), (3, .ref 578), (4, .int i)] ∧ Pn (some xs) m 373 1967 L' [] H r H') ∨ ((w.toInt = 54 ∧ ∃ L', LG L' [(0, .ref 3000000), (1, .ref 0), (2, .ref 78), (3, .ref 578), (4, .int i)] ∧ Pn (some xs) m 373 2031 L' [] H r H') ∨ ((w.toInt = 55 ∧ ∃ L', LG L' [(0, .ref 3000000), (1, .ref 0), (2, .ref 78), (3, .ref 578), (4, .int i)] ∧ Pn (some xs) m 373 2044 L' [] H r H') ∨ ((w.toInt = 56 ∧ ∃ L', LG L' [(0, .ref 3000000), (1, .ref 0), (2, .ref 78), (3, .ref 578), (4, .int i)] ∧ Pn (some xs) m 373 2057 L' [] H r H') ∨ (w.toInt = 57 ∧ ∃ L', LG L' [(0, .ref 3000000), (1, .ref 0), (2, .ref 78), (3, .ref 578), (4, .int i)] ∧ Pn (some xs) m 373 2082 L' [] H r H')))))))))))))))))))))))))))))))))))))))))))))))))))))))))) := by
  obtain ⟨g0, g1, g2, g3, g4, -⟩ := hL
  rcases pnTs h at_373_40 with ⟨c, h⟩ | ⟨o, c, e, h⟩
  · refine Or.inl ⟨c, ?_⟩
    have h : Pn (some xs) m 373 2110 (mjSt 4 (.int (i + Int32.ofInt 6)) L) [] H r H' := pnInc g4 h at_373_2107
    have g0 : mjGet (mjSt 4 (.int (i + Int32.ofInt 6)) L) 0 = some (.ref 3000000) := gt_ne g0 (by decide) rfl
    have g1 : mjGet (mjSt 4 (.int (i + Int32.ofInt 6)) L) 1 = some (.ref 0) := gt_ne g1 (by decide) rfl
    have g2 : mjGet (mjSt 4 (.int (i + Int32.ofInt 6)) L) 2 = some (.ref 78) := gt_ne g2 (by decide) rfl
    have g3 : mjGet (mjSt 4 (.int (i + Int32.ofInt 6)) L) 3 = some (.ref 578) := gt_ne g3 (by decide) rfl
    have g4 : mjGet (mjSt 4 (.int (i + Int32.ofInt 6)) L) 4 = some (.int (i + Int32.ofInt 6)) := gt_eq
    have h : Pn (some xs) m 373 23 (mjSt 4 (.int (i + Int32.ofInt 6)) L) [] H r H' := pnA h at_373_2110 rfl rfl
    exact ⟨_, ⟨g0, g1, g2, g3, g4, trivial⟩, h⟩
  · refine Or.inr ?_
    have cc : w.toInt = 0 ∨ w.toInt = 1 ∨ w.toInt = 2 ∨ w.toInt = 3 ∨ w.toInt = 4 ∨ w.toInt = 5 ∨ w.toInt = 6 ∨ w.toInt = 7 ∨ w.toInt = 8 ∨ w.toInt = 9 ∨ w.toInt = 10 ∨ w.toInt = 11 ∨ w.toInt = 12 ∨ w.toInt = 13 ∨ w.toInt = 14 ∨ w.toInt = 15 ∨ w.toInt = 16 ∨ w.toInt = 17 ∨ w.toInt = 18 ∨ w.toInt = 19 ∨ w.toInt = 20 ∨ w.toInt = 21 ∨ w.toInt = 22 ∨ w.toInt = 23 ∨ w.toInt = 24 ∨ w.toInt = 25 ∨ w.toInt = 26 ∨ w.toInt = 27 ∨ w.toInt = 28 ∨ w.toInt = 29 ∨ w.toInt = 30 ∨ w.toInt = 31 ∨ w.toInt = 32 ∨ w.toInt = 33 ∨ w.toInt = 34 ∨ w.toInt = 35 ∨ w.toInt = 36 ∨ w.toInt = 37 ∨ w.toInt = 38 ∨ w.toInt = 39 ∨ w.toInt = 40 ∨ w.toInt = 41 ∨ w.toInt = 42 ∨ w.toInt = 43 ∨ w.toInt = 44 ∨ w.toInt = 45 ∨ w.toInt = 46 ∨ w.toInt = 47 ∨ w.toInt = 48 ∨ w.toInt = 49 ∨ w.toInt = 50 ∨ w.toInt = 51 ∨ w.toInt = 52 ∨ w.toInt = 53 ∨ w.toInt = 54 ∨ w.toInt = 55 ∨ w.toInt = 56 ∨ w.toInt = 57 := by omega
    rcases cc with cc | cc | cc | cc | cc | cc | cc | cc | cc | cc | cc | cc | cc | cc | cc | cc | cc | cc | cc | cc | cc | cc | cc | cc | cc | cc | cc | cc | cc | cc | cc | cc | cc | cc | cc | cc | cc | cc | cc | cc | cc | cc | cc | cc | cc | cc | cc | cc | cc | cc | cc | cc | cc | cc | cc | cc | cc | cc
    · rw [cc] at e
      cases e
      refine Or.inl ⟨cc, ?_⟩
      exact ⟨_, ⟨g0, g1, g2, g3, g4, trivial⟩, h⟩
    · rw [cc] at e
      cases e
      refine Or.inr (Or.inl ⟨cc, ?_⟩)
      exact ⟨_, ⟨g0, g1, g2, g3, g4, trivial⟩, h⟩
    · rw [cc] at e
      cases e
      refine Or.inr (Or.inr (Or.inl ⟨cc, ?_⟩))
      exact ⟨_, ⟨g0, g1, g2, g3, g4, trivial⟩, h⟩
    · rw [cc] at e
      cases e
      refine Or.inr (Or.inr (Or.inr (Or.inl ⟨cc, ?_⟩)))
      exact ⟨_, ⟨g0, g1, g2, g3, g4, trivial⟩, h⟩
    · rw [cc] at e
      cases e
      refine Or.inr (Or.inr (Or.inr (Or.inr (Or.inl ⟨cc, ?_⟩))))
      exact ⟨_, ⟨g0, g1, g2, g3, g4, trivial⟩, h⟩
    · rw [cc] at e
      cases e
      refine Or.inr (Or.inr (Or.inr (Or.inr (Or.inr (Or.inl ⟨cc, ?_⟩)))))
      exact ⟨_, ⟨g0, g1, g2, g3, g4, trivial⟩, h⟩
    · rw [cc] at e
      cases e
      refine Or.inr (Or.inr (Or.inr (Or.inr (Or.inr (Or.inr (Or.inl ⟨cc, ?_⟩))))))
      exact ⟨_, ⟨g0, g1, g2, g3, g4, trivial⟩, h⟩
    · rw [cc] at e
      cases e
      refine Or.inr (Or.inr (Or.inr (Or.inr (Or.inr (Or.inr (Or.inr (Or.inl ⟨cc, ?_⟩)))))))
      exact ⟨_, ⟨g0, g1, g2, g3, g4, trivial⟩, h⟩
    · rw [cc] at e
      cases e
      refine Or.inr (Or.inr (Or.inr (Or.inr (Or.inr (Or.inr (Or.inr (Or.inr (Or.inl ⟨cc, ?_⟩))))))))
      exact ⟨_, ⟨g0, g1, g2, g3, g4, trivial⟩, h⟩
    · rw [cc] at e
      cases e
      refine Or.inr (Or.inr (Or.inr (Or.inr (Or.inr (Or.inr (Or.inr (Or.inr (Or.inr (Or.inl ⟨cc, ?_⟩)))))))))
      exact ⟨_, ⟨g0, g1, g2, g3, g4, trivial⟩, h⟩
    · rw [cc] at e
      cases e
      refine Or.inr (Or.inr (Or.inr (Or.inr (Or.inr (Or.inr (Or.inr (Or.inr (Or.inr (Or.inr (Or.inl ⟨cc, ?_⟩))))))))))
      exact ⟨_, ⟨g0, g1, g2, g3, g4, trivial⟩, h⟩
    · rw [cc] at e
      cases e
      refine Or.inr (Or.inr (Or.inr (Or.inr (Or.inr (Or.inr (Or.inr (Or.inr (Or.inr (Or.inr (Or.inr (Or.inl ⟨cc, ?_⟩)))))))))))
      exact ⟨_, ⟨g0, g1, g2, g3, g4, trivial⟩, h⟩
    · rw [cc] at e
      cases e
      refine Or.inr (Or.inr (Or.inr (Or.inr (Or.inr (Or.inr (Or.inr (Or.inr (Or.inr (Or.inr (Or.inr (Or.inr (Or.inl ⟨cc, ?_⟩))))))))))))
      exact ⟨_, ⟨g0, g1, g2, g3, g4, trivial⟩, h⟩
    · rw [cc] at e
      cases e
      refine Or.inr (Or.inr (Or.inr (Or.inr (Or.inr (Or.inr (Or.inr (Or.inr (Or.inr (Or.inr (Or.inr (Or.inr (Or.inr (Or.inl ⟨cc, ?_⟩)))))))))))))
      exact ⟨_, ⟨g0, g1, g2, g3, g4, trivial⟩, h⟩
    · rw [cc] at e
      cases e
      refine Or.inr (Or.inr (Or.inr (Or.inr (Or.inr (Or.inr (Or.inr (Or.inr (Or.inr (Or.inr (Or.inr (Or.inr (Or.inr (Or.inr (Or.inl ⟨cc, ?_⟩))))))))))))))
      exact ⟨_, ⟨g0, g1, g2, g3, g4, trivial⟩, h⟩
    · rw [cc] at e
      cases e
      refine Or.inr (Or.inr (Or.inr (Or.inr (Or.inr (Or.inr (Or.inr (Or.inr (Or.inr (Or.inr (Or.inr (Or.inr (Or.inr (Or.inr (Or.inr (Or.inl ⟨cc, ?_⟩)))))))))))))))
      exact ⟨_, ⟨g0, g1, g2, g3, g4, trivial⟩, h⟩
    · rw [cc] at e
      cases e
      refine Or.inr (Or.inr (Or.inr (Or.inr (Or.inr (Or.inr (Or.inr (Or.inr (Or.inr (Or.inr (Or.inr (Or.inr (Or.inr (Or.inr (Or.inr (Or.inr (Or.inl ⟨cc, ?_⟩))))))))))))))))
      exact ⟨_, ⟨g0, g1, g2, g3, g4, trivial⟩, h⟩
    · rw [cc] at e
      cases e
      refine Or.inr (Or.inr (Or.inr (Or.inr (Or.inr (Or.inr (Or.inr (Or.inr (Or.inr (Or.inr (Or.inr (Or.inr (Or.inr (Or.inr (Or.inr (Or.inr (Or.inr (Or.inl ⟨cc, ?_⟩)))))))))))))))))
      exact ⟨_, ⟨g0, g1, g2, g3, g4, trivial⟩, h⟩
    · rw [cc] at e
      cases e
      refine Or.inr (Or.inr (Or.inr (Or.inr (Or.inr (Or.inr (Or.inr (Or.inr (Or.inr (Or.inr (Or.inr (Or.inr (Or.inr (Or.inr (Or.inr (Or.inr (Or.inr (Or.inr (Or.inl ⟨cc, ?_⟩))))))))))))))))))
      exact ⟨_, ⟨g0, g1, g2, g3, g4, trivial⟩, h⟩
    · rw [cc] at e
      cases e
      refine Or.inr (Or.inr (Or.inr (Or.inr (Or.inr (Or.inr (Or.inr (Or.inr (Or.inr (Or.inr (Or.inr (Or.inr (Or.inr (Or.inr (Or.inr (Or.inr (Or.inr (Or.inr (Or.inr (Or.inl ⟨cc, ?_⟩)))))))))))))))))))
      exact ⟨_, ⟨g0, g1, g2, g3, g4, trivial⟩, h⟩
    · rw [cc] at e
      cases e
      refine Or.inr (Or.inr (Or.inr (Or.inr (Or.inr (Or.inr (Or.inr (Or.inr (Or.inr (Or.inr (Or.inr (Or.inr (Or.inr (Or.inr (Or.inr (Or.inr (Or.inr (Or.inr (Or.inr (Or.inr (Or.inl ⟨cc, ?_⟩))))))))))))))))))))
      exact ⟨_, ⟨g0, g1, g2, g3, g4, trivial⟩, h⟩
    · rw [cc] at e
      cases e
      refine Or.inr (Or.inr (Or.inr (Or.inr (Or.inr (Or.inr (Or.inr (Or.inr (Or.inr (Or.inr (Or.inr (Or.inr (Or.inr (Or.inr (Or.inr (Or.inr (Or.inr (Or.inr (Or.inr (Or.inr (Or.inr (Or.inl ⟨cc, ?_⟩)))))))))))))))))))))
      exact ⟨_, ⟨g0, g1, g2, g3, g4, trivial⟩, h⟩
    · rw [cc] at e
      cases e
      refine Or.inr (Or.inr (Or.inr (Or.inr (Or.inr (Or.inr (Or.inr (Or.inr (Or.inr (Or.inr (Or.inr (Or.inr (Or.inr (Or.inr (Or.inr (Or.inr (Or.inr (Or.inr (Or.inr (Or.inr (Or.inr (Or.inr (Or.inl ⟨cc, ?_⟩))))))))))))))))))))))
      exact ⟨_, ⟨g0, g1, g2, g3, g4, trivial⟩, h⟩
    · rw [cc] at e
      cases e
      refine Or.inr (Or.inr (Or.inr (Or.inr (Or.inr (Or.inr (Or.inr (Or.inr (Or.inr (Or.inr (Or.inr (Or.inr (Or.inr (Or.inr (Or.inr (Or.inr (Or.inr (Or.inr (Or.inr (Or.inr (Or.inr (Or.inr (Or.inr (Or.inl ⟨cc, ?_⟩)))))))))))))))))))))))
      exact ⟨_, ⟨g0, g1, g2, g3, g4, trivial⟩, h⟩
    · rw [cc] at e
      cases e
      refine Or.inr (Or.inr (Or.inr (Or.inr (Or.inr (Or.inr (Or.inr (Or.inr (Or.inr (Or.inr (Or.inr (Or.inr (Or.inr (Or.inr (Or.inr (Or.inr (Or.inr (Or.inr (Or.inr (Or.inr (Or.inr (Or.inr (Or.inr (Or.inr (Or.inl ⟨cc, ?_⟩))))))))))))))))))))))))
      exact ⟨_, ⟨g0, g1, g2, g3, g4, trivial⟩, h⟩
    · rw [cc] at e
      cases e
      refine Or.inr (Or.inr (Or.inr (Or.inr (Or.inr (Or.inr (Or.inr (Or.inr (Or.inr (Or.inr (Or.inr (Or.inr (Or.inr (Or.inr (Or.inr (Or.inr (Or.inr (Or.inr (Or.inr (Or.inr (Or.inr (Or.inr (Or.inr (Or.inr (Or.inr (Or.inl ⟨cc, ?_⟩)))))))))))))))))))))))))
      exact ⟨_, ⟨g0, g1, g2, g3, g4, trivial⟩, h⟩
    · rw [cc] at e
      cases e
      refine Or.inr (Or.inr (Or.inr (Or.inr (Or.inr (Or.inr (Or.inr (Or.inr (Or.inr (Or.inr (Or.inr (Or.inr (Or.inr (Or.inr (Or.inr (Or.inr (Or.inr (Or.inr (Or.inr (Or.inr (Or.inr (Or.inr (Or.inr (Or.inr (Or.inr (Or.inr (Or.inl ⟨cc, ?_⟩))))))))))))))))))))))))))
      exact ⟨_, ⟨g0, g1, g2, g3, g4, trivial⟩, h⟩
    · rw [cc] at e
      cases e
      refine Or.inr (Or.inr (Or.inr (Or.inr (Or.inr (Or.inr (Or.inr (Or.inr (Or.inr (Or.inr (Or.inr (Or.inr (Or.inr (Or.inr (Or.inr (Or.inr (Or.inr (Or.inr (Or.inr (Or.inr (Or.inr (Or.inr (Or.inr (Or.inr (Or.inr (Or.inr (Or.inr (Or.inl ⟨cc, ?_⟩)))))))))))))))))))))))))))
      exact ⟨_, ⟨g0, g1, g2, g3, g4, trivial⟩, h⟩
    · rw [cc] at e
      cases e
      refine Or.inr (Or.inr (Or.inr (Or.inr (Or.inr (Or.inr (Or.inr (Or.inr (Or.inr (Or.inr (Or.inr (Or.inr (Or.inr (Or.inr (Or.inr (Or.inr (Or.inr (Or.inr (Or.inr (Or.inr (Or.inr (Or.inr (Or.inr (Or.inr (Or.inr (Or.inr (Or.inr (Or.inr (Or.inl ⟨cc, ?_⟩))))))))))))))))))))))))))))
      exact ⟨_, ⟨g0, g1, g2, g3, g4, trivial⟩, h⟩
    · rw [cc] at e
      cases e
      refine Or.inr (Or.inr (Or.inr (Or.inr (Or.inr (Or.inr (Or.inr (Or.inr (Or.inr (Or.inr (Or.inr (Or.inr (Or.inr (Or.inr (Or.inr (Or.inr (Or.inr (Or.inr (Or.inr (Or.inr (Or.inr (Or.inr (Or.inr (Or.inr (Or.inr (Or.inr (Or.inr (Or.inr (Or.inr (Or.inl ⟨cc, ?_⟩)))))))))))))))))))))))))))))
      exact ⟨_, ⟨g0, g1, g2, g3, g4, trivial⟩, h⟩
    · rw [cc] at e
      cases e
      refine Or.inr (Or.inr (Or.inr (Or.inr (Or.inr (Or.inr (Or.inr (Or.inr (Or.inr (Or.inr (Or.inr (Or.inr (Or.inr (Or.inr (Or.inr (Or.inr (Or.inr (Or.inr (Or.inr (Or.inr (Or.inr (Or.inr (Or.inr (Or.inr (Or.inr (Or.inr (Or.inr (Or.inr (Or.inr (Or.inr (Or.inl ⟨cc, ?_⟩))))))))))))))))))))))))))))))
      exact ⟨_, ⟨g0, g1, g2, g3, g4, trivial⟩, h⟩
    · rw [cc] at e
      cases e
      refine Or.inr (Or.inr (Or.inr (Or.inr (Or.inr (Or.inr (Or.inr (Or.inr (Or.inr (Or.inr (Or.inr (Or.inr (Or.inr (Or.inr (Or.inr (Or.inr (Or.inr (Or.inr (Or.inr (Or.inr (Or.inr (Or.inr (Or.inr (Or.inr (Or.inr (Or.inr (Or.inr (Or.inr (Or.inr (Or.inr (Or.inr (Or.inl ⟨cc, ?_⟩)))))))))))))))))))))))))))))))
      exact ⟨_, ⟨g0, g1, g2, g3, g4, trivial⟩, h⟩
    · rw [cc] at e
      cases e
      refine Or.inr (Or.inr (Or.inr (Or.inr (Or.inr (Or.inr (Or.inr (Or.inr (Or.inr (Or.inr (Or.inr (Or.inr (Or.inr (Or.inr (Or.inr (Or.inr (Or.inr (Or.inr (Or.inr (Or.inr (Or.inr (Or.inr (Or.inr (Or.inr (Or.inr (Or.inr (Or.inr (Or.inr (Or.inr (Or.inr (Or.inr (Or.inr (Or.inl ⟨cc, ?_⟩))))))))))))))))))))))))))))))))
      exact ⟨_, ⟨g0, g1, g2, g3, g4, trivial⟩, h⟩
    · rw [cc] at e
      cases e
      refine Or.inr (Or.inr (Or.inr (Or.inr (Or.inr (Or.inr (Or.inr (Or.inr (Or.inr (Or.inr (Or.inr (Or.inr (Or.inr (Or.inr (Or.inr (Or.inr (Or.inr (Or.inr (Or.inr (Or.inr (Or.inr (Or.inr (Or.inr (Or.inr (Or.inr (Or.inr (Or.inr (Or.inr (Or.inr (Or.inr (Or.inr (Or.inr (Or.inr (Or.inl ⟨cc, ?_⟩)))))))))))))))))))))))))))))))))
      exact ⟨_, ⟨g0, g1, g2, g3, g4, trivial⟩, h⟩
    · rw [cc] at e
      cases e
      refine Or.inr (Or.inr (Or.inr (Or.inr (Or.inr (Or.inr (Or.inr (Or.inr (Or.inr (Or.inr (Or.inr (Or.inr (Or.inr (Or.inr (Or.inr (Or.inr (Or.inr (Or.inr (Or.inr (Or.inr (Or.inr (Or.inr (Or.inr (Or.inr (Or.inr (Or.inr (Or.inr (Or.inr (Or.inr (Or.inr (Or.inr (Or.inr (Or.inr (Or.inr (Or.inl ⟨cc, ?_⟩))))))))))))))))))))))))))))))))))
      exact ⟨_, ⟨g0, g1, g2, g3, g4, trivial⟩, h⟩
    · rw [cc] at e
      cases e
      refine Or.inr (Or.inr (Or.inr (Or.inr (Or.inr (Or.inr (Or.inr (Or.inr (Or.inr (Or.inr (Or.inr (Or.inr (Or.inr (Or.inr (Or.inr (Or.inr (Or.inr (Or.inr (Or.inr (Or.inr (Or.inr (Or.inr (Or.inr (Or.inr (Or.inr (Or.inr (Or.inr (Or.inr (Or.inr (Or.inr (Or.inr (Or.inr (Or.inr (Or.inr (Or.inr (Or.inl ⟨cc, ?_⟩)))))))))))))))))))))))))))))))))))
      exact ⟨_, ⟨g0, g1, g2, g3, g4, trivial⟩, h⟩
    · rw [cc] at e
      cases e
      refine Or.inr (Or.inr (Or.inr (Or.inr (Or.inr (Or.inr (Or.inr (Or.inr (Or.inr (Or.inr (Or.inr (Or.inr (Or.inr (Or.inr (Or.inr (Or.inr (Or.inr (Or.inr (Or.inr (Or.inr (Or.inr (Or.inr (Or.inr (Or.inr (Or.inr (Or.inr (Or.inr (Or.inr (Or.inr (Or.inr (Or.inr (Or.inr (Or.inr (Or.inr (Or.inr (Or.inr (Or.inl ⟨cc, ?_⟩))))))))))))))))))))))))))))))))))))
      exact ⟨_, ⟨g0, g1, g2, g3, g4, trivial⟩, h⟩
    · rw [cc] at e
      cases e
      refine Or.inr (Or.inr (Or.inr (Or.inr (Or.inr (Or.inr (Or.inr (Or.inr (Or.inr (Or.inr (Or.inr (Or.inr (Or.inr (Or.inr (Or.inr (Or.inr (Or.inr (Or.inr (Or.inr (Or.inr (Or.inr (Or.inr (Or.inr (Or.inr (Or.inr (Or.inr (Or.inr (Or.inr (Or.inr (Or.inr (Or.inr (Or.inr (Or.inr (Or.inr (Or.inr (Or.inr (Or.inr (Or.inl ⟨cc, ?_⟩)))))))))))))))))))))))))))))))))))))
      exact ⟨_, ⟨g0, g1, g2, g3, g4, trivial⟩, h⟩
    · rw [cc] at e
      cases e
      refine Or.inr (Or.inr (Or.inr (Or.inr (Or.inr (Or.inr (Or.inr (Or.inr (Or.inr (Or.inr (Or.inr (Or.inr (Or.inr (Or.inr (Or.inr (Or.inr (Or.inr (Or.inr (Or.inr (Or.inr (Or.inr (Or.inr (Or.inr (Or.inr (Or.inr (Or.inr (Or.inr (Or.inr (Or.inr (Or.inr (Or.inr (Or.inr (Or.inr (Or.inr (Or.inr (Or.inr (Or.inr (Or.inr (Or.inl ⟨cc, ?_⟩))))))))))))))))))))))))))))))))))))))
      exact ⟨_, ⟨g0, g1, g2, g3, g4, trivial⟩, h⟩
    · rw [cc] at e
      cases e
      refine Or.inr (Or.inr (Or.inr (Or.inr (Or.inr (Or.inr (Or.inr (Or.inr (Or.inr (Or.inr (Or.inr (Or.inr (Or.inr (Or.inr (Or.inr (Or.inr (Or.inr (Or.inr (Or.inr (Or.inr (Or.inr (Or.inr (Or.inr (Or.inr (Or.inr (Or.inr (Or.inr (Or.inr (Or.inr (Or.inr (Or.inr (Or.inr (Or.inr (Or.inr (Or.inr (Or.inr (Or.inr (Or.inr (Or.inr (Or.inl ⟨cc, ?_⟩)))))))))))))))))))))))))))))))))))))))
      exact ⟨_, ⟨g0, g1, g2, g3, g4, trivial⟩, h⟩
    · rw [cc] at e
      cases e
      refine Or.inr (Or.inr (Or.inr (Or.inr (Or.inr (Or.inr (Or.inr (Or.inr (Or.inr (Or.inr (Or.inr (Or.inr (Or.inr (Or.inr (Or.inr (Or.inr (Or.inr (Or.inr (Or.inr (Or.inr (Or.inr (Or.inr (Or.inr (Or.inr (Or.inr (Or.inr (Or.inr (Or.inr (Or.inr (Or.inr (Or.inr (Or.inr (Or.inr (Or.inr (Or.inr (Or.inr (Or.inr (Or.inr (Or.inr (Or.inr (Or.inl ⟨cc, ?_⟩))))))))))))))))))))))))))))))))))))))))
      exact ⟨_, ⟨g0, g1, g2, g3, g4, trivial⟩, h⟩
    · rw [cc] at e
      cases e
      refine Or.inr (Or.inr (Or.inr (Or.inr (Or.inr (Or.inr (Or.inr (Or.inr (Or.inr (Or.inr (Or.inr (Or.inr (Or.inr (Or.inr (Or.inr (Or.inr (Or.inr (Or.inr (Or.inr (Or.inr (Or.inr (Or.inr (Or.inr (Or.inr (Or.inr (Or.inr (Or.inr (Or.inr (Or.inr (Or.inr (Or.inr (Or.inr (Or.inr (Or.inr (Or.inr (Or.inr (Or.inr (Or.inr (Or.inr (Or.inr (Or.inr (Or.inl ⟨cc, ?_⟩)))))))))))))))))))))))))))))))))))))))))
      exact ⟨_, ⟨g0, g1, g2, g3, g4, trivial⟩, h⟩
    · rw [cc] at e
      cases e
      refine Or.inr (Or.inr (Or.inr (Or.inr (Or.inr (Or.inr (Or.inr (Or.inr (Or.inr (Or.inr (Or.inr (Or.inr (Or.inr (Or.inr (Or.inr (Or.inr (Or.inr (Or.inr (Or.inr (Or.inr (Or.inr (Or.inr (Or.inr (Or.inr (Or.inr (Or.inr (Or.inr (Or.inr (Or.inr (Or.inr (Or.inr (Or.inr (Or.inr (Or.inr (Or.inr (Or.inr (Or.inr (Or.inr (Or.inr (Or.inr (Or.inr (Or.inr (Or.inl ⟨cc, ?_⟩))))))))))))))))))))))))))))))))))))))))))
      exact ⟨_, ⟨g0, g1, g2, g3, g4, trivial⟩, h⟩
    · rw [cc] at e
      cases e
      refine Or.inr (Or.inr (Or.inr (Or.inr (Or.inr (Or.inr (Or.inr (Or.inr (Or.inr (Or.inr (Or.inr (Or.inr (Or.inr (Or.inr (Or.inr (Or.inr (Or.inr (Or.inr (Or.inr (Or.inr (Or.inr (Or.inr (Or.inr (Or.inr (Or.inr (Or.inr (Or.inr (Or.inr (Or.inr (Or.inr (Or.inr (Or.inr (Or.inr (Or.inr (Or.inr (Or.inr (Or.inr (Or.inr (Or.inr (Or.inr (Or.inr (Or.inr (Or.inr (Or.inl ⟨cc, ?_⟩)))))))))))))))))))))))))))))))))))))))))))
      exact ⟨_, ⟨g0, g1, g2, g3, g4, trivial⟩, h⟩
    · rw [cc] at e
      cases e
      refine Or.inr (Or.inr (Or.inr (Or.inr (Or.inr (Or.inr (Or.inr (Or.inr (Or.inr (Or.inr (Or.inr (Or.inr (Or.inr (Or.inr (Or.inr (Or.inr (Or.inr (Or.inr (Or.inr (Or.inr (Or.inr (Or.inr (Or.inr (Or.inr (Or.inr (Or.inr (Or.inr (Or.inr (Or.inr (Or.inr (Or.inr (Or.inr (Or.inr (Or.inr (Or.inr (Or.inr (Or.inr (Or.inr (Or.inr (Or.inr (Or.inr (Or.inr (Or.inr (Or.inr (Or.inl ⟨cc, ?_⟩))))))))))))))))))))))))))))))))))))))))))))
      exact ⟨_, ⟨g0, g1, g2, g3, g4, trivial⟩, h⟩
    · rw [cc] at e
      cases e
      refine Or.inr (Or.inr (Or.inr (Or.inr (Or.inr (Or.inr (Or.inr (Or.inr (Or.inr (Or.inr (Or.inr (Or.inr (Or.inr (Or.inr (Or.inr (Or.inr (Or.inr (Or.inr (Or.inr (Or.inr (Or.inr (Or.inr (Or.inr (Or.inr (Or.inr (Or.inr (Or.inr (Or.inr (Or.inr (Or.inr (Or.inr (Or.inr (Or.inr (Or.inr (Or.inr (Or.inr (Or.inr (Or.inr (Or.inr (Or.inr (Or.inr (Or.inr (Or.inr (Or.inr (Or.inr (Or.inl ⟨cc, ?_⟩)))))))))))))))))))))))))))))))))))))))))))))
      exact ⟨_, ⟨g0, g1, g2, g3, g4, trivial⟩, h⟩
    · rw [cc] at e
      cases e
      refine Or.inr (Or.inr (Or.inr (Or.inr (Or.inr (Or.inr (Or.inr (Or.inr (Or.inr (Or.inr (Or.inr (Or.inr (Or.inr (Or.inr (Or.inr (Or.inr (Or.inr (Or.inr (Or.inr (Or.inr (Or.inr (Or.inr (Or.inr (Or.inr (Or.inr (Or.inr (Or.inr (Or.inr (Or.inr (Or.inr (Or.inr (Or.inr (Or.inr (Or.inr (Or.inr (Or.inr (Or.inr (Or.inr (Or.inr (Or.inr (Or.inr (Or.inr (Or.inr (Or.inr (Or.inr (Or.inr (Or.inl ⟨cc, ?_⟩))))))))))))))))))))))))))))))))))))))))))))))
      exact ⟨_, ⟨g0, g1, g2, g3, g4, trivial⟩, h⟩
    · rw [cc] at e
      cases e
      refine Or.inr (Or.inr (Or.inr (Or.inr (Or.inr (Or.inr (Or.inr (Or.inr (Or.inr (Or.inr (Or.inr (Or.inr (Or.inr (Or.inr (Or.inr (Or.inr (Or.inr (Or.inr (Or.inr (Or.inr (Or.inr (Or.inr (Or.inr (Or.inr (Or.inr (Or.inr (Or.inr (Or.inr (Or.inr (Or.inr (Or.inr (Or.inr (Or.inr (Or.inr (Or.inr (Or.inr (Or.inr (Or.inr (Or.inr (Or.inr (Or.inr (Or.inr (Or.inr (Or.inr (Or.inr (Or.inr (Or.inr (Or.inl ⟨cc, ?_⟩)))))))))))))))))))))))))))))))))))))))))))))))
      exact ⟨_, ⟨g0, g1, g2, g3, g4, trivial⟩, h⟩
    · rw [cc] at e
      cases e
      refine Or.inr (Or.inr (Or.inr (Or.inr (Or.inr (Or.inr (Or.inr (Or.inr (Or.inr (Or.inr (Or.inr (Or.inr (Or.inr (Or.inr (Or.inr (Or.inr (Or.inr (Or.inr (Or.inr (Or.inr (Or.inr (Or.inr (Or.inr (Or.inr (Or.inr (Or.inr (Or.inr (Or.inr (Or.inr (Or.inr (Or.inr (Or.inr (Or.inr (Or.inr (Or.inr (Or.inr (Or.inr (Or.inr (Or.inr (Or.inr (Or.inr (Or.inr (Or.inr (Or.inr (Or.inr (Or.inr (Or.inr (Or.inr (Or.inl ⟨cc, ?_⟩))))))))))))))))))))))))))))))))))))))))))))))))
      exact ⟨_, ⟨g0, g1, g2, g3, g4, trivial⟩, h⟩
    · rw [cc] at e
      cases e
      refine Or.inr (Or.inr (Or.inr (Or.inr (Or.inr (Or.inr (Or.inr (Or.inr (Or.inr (Or.inr (Or.inr (Or.inr (Or.inr (Or.inr (Or.inr (Or.inr (Or.inr (Or.inr (Or.inr (Or.inr (Or.inr (Or.inr (Or.inr (Or.inr (Or.inr (Or.inr (Or.inr (Or.inr (Or.inr (Or.inr (Or.inr (Or.inr (Or.inr (Or.inr (Or.inr (Or.inr (Or.inr (Or.inr (Or.inr (Or.inr (Or.inr (Or.inr (Or.inr (Or.inr (Or.inr (Or.inr (Or.inr (Or.inr (Or.inr (Or.inl ⟨cc, ?_⟩)))))))))))))))))))))))))))))))))))))))))))))))))
      exact ⟨_, ⟨g0, g1, g2, g3, g4, trivial⟩, h⟩
    · rw [cc] at e
      cases e
      refine Or.inr (Or.inr (Or.inr (Or.inr (Or.inr (Or.inr (Or.inr (Or.inr (Or.inr (Or.inr (Or.inr (Or.inr (Or.inr (Or.inr (Or.inr (Or.inr (Or.inr (Or.inr (Or.inr (Or.inr (Or.inr (Or.inr (Or.inr (Or.inr (Or.inr (Or.inr (Or.inr (Or.inr (Or.inr (Or.inr (Or.inr (Or.inr (Or.inr (Or.inr (Or.inr (Or.inr (Or.inr (Or.inr (Or.inr (Or.inr (Or.inr (Or.inr (Or.inr (Or.inr (Or.inr (Or.inr (Or.inr (Or.inr (Or.inr (Or.inr (Or.inl ⟨cc, ?_⟩))))))))))))))))))))))))))))))))))))))))))))))))))
      exact ⟨_, ⟨g0, g1, g2, g3, g4, trivial⟩, h⟩
    · rw [cc] at e
      cases e
      refine Or.inr (Or.inr (Or.inr (Or.inr (Or.inr (Or.inr (Or.inr (Or.inr (Or.inr (Or.inr (Or.inr (Or.inr (Or.inr (Or.inr (Or.inr (Or.inr (Or.inr (Or.inr (Or.inr (Or.inr (Or.inr (Or.inr (Or.inr (Or.inr (Or.inr (Or.inr (Or.inr (Or.inr (Or.inr (Or.inr (Or.inr (Or.inr (Or.inr (Or.inr (Or.inr (Or.inr (Or.inr (Or.inr (Or.inr (Or.inr (Or.inr (Or.inr (Or.inr (Or.inr (Or.inr (Or.inr (Or.inr (Or.inr (Or.inr (Or.inr (Or.inr (Or.inl ⟨cc, ?_⟩)))))))))))))))))))))))))))))))))))))))))))))))))))
      exact ⟨_, ⟨g0, g1, g2, g3, g4, trivial⟩, h⟩
    · rw [cc] at e
      cases e
      refine Or.inr (Or.inr (Or.inr (Or.inr (Or.inr (Or.inr (Or.inr (Or.inr (Or.inr (Or.inr (Or.inr (Or.inr (Or.inr (Or.inr (Or.inr (Or.inr (Or.inr (Or.inr (Or.inr (Or.inr (Or.inr (Or.inr (Or.inr (Or.inr (Or.inr (Or.inr (Or.inr (Or.inr (Or.inr (Or.inr (Or.inr (Or.inr (Or.inr (Or.inr (Or.inr (Or.inr (Or.inr (Or.inr (Or.inr (Or.inr (Or.inr (Or.inr (Or.inr (Or.inr (Or.inr (Or.inr (Or.inr (Or.inr (Or.inr (Or.inr (Or.inr (Or.inr (Or.inl ⟨cc, ?_⟩))))))))))))))))))))))))))))))))))))))))))))))))))))
      exact ⟨_, ⟨g0, g1, g2, g3, g4, trivial⟩, h⟩
    · rw [cc] at e
      cases e
      refine Or.inr (Or.inr (Or.inr (Or.inr (Or.inr (Or.inr (Or.inr (Or.inr (Or.inr (Or.inr (Or.inr (Or.inr (Or.inr (Or.inr (Or.inr (Or.inr (Or.inr (Or.inr (Or.inr (Or.inr (Or.inr (Or.inr (Or.inr (Or.inr (Or.inr (Or.inr (Or.inr (Or.inr (Or.inr (Or.inr (Or.inr (Or.inr (Or.inr (Or.inr (Or.inr (Or.inr (Or.inr (Or.inr (Or.inr (Or.inr (Or.inr (Or.inr (Or.inr (Or.inr (Or.inr (Or.inr (Or.inr (Or.inr (Or.inr (Or.inr (Or.inr (Or.inr (Or.inr (Or.inl ⟨cc, ?_⟩)))))))))))))))))))))))))))))))))))))))))))))))))))))
      exact ⟨_, ⟨g0, g1, g2, g3, g4, trivial⟩, h⟩
    · rw [cc] at e
      cases e
      refine Or.inr (Or.inr (Or.inr (Or.inr (Or.inr (Or.inr (Or.inr (Or.inr (Or.inr (Or.inr (Or.inr (Or.inr (Or.inr (Or.inr (Or.inr (Or.inr (Or.inr (Or.inr (Or.inr (Or.inr (Or.inr (Or.inr (Or.inr (Or.inr (Or.inr (Or.inr (Or.inr (Or.inr (Or.inr (Or.inr (Or.inr (Or.inr (Or.inr (Or.inr (Or.inr (Or.inr (Or.inr (Or.inr (Or.inr (Or.inr (Or.inr (Or.inr (Or.inr (Or.inr (Or.inr (Or.inr (Or.inr (Or.inr (Or.inr (Or.inr (Or.inr (Or.inr (Or.inr (Or.inr (Or.inl ⟨cc, ?_⟩))))))))))))))))))))))))))))))))))))))))))))))))))))))
      exact ⟨_, ⟨g0, g1, g2, g3, g4, trivial⟩, h⟩
    · rw [cc] at e
      cases e
      refine Or.inr (Or.inr (Or.inr (Or.inr (Or.inr (Or.inr (Or.inr (Or.inr (Or.inr (Or.inr (Or.inr (Or.inr (Or.inr (Or.inr (Or.inr (Or.inr (Or.inr (Or.inr (Or.inr (Or.inr (Or.inr (Or.inr (Or.inr (Or.inr (Or.inr (Or.inr (Or.inr (Or.inr (Or.inr (Or.inr (Or.inr (Or.inr (Or.inr (Or.inr (Or.inr (Or.inr (Or.inr (Or.inr (Or.inr (Or.inr (Or.inr (Or.inr (Or.inr (Or.inr (Or.inr (Or.inr (Or.inr (Or.inr (Or.inr (Or.inr (Or.inr (Or.inr (Or.inr (Or.inr (Or.inr (Or.inl ⟨cc, ?_⟩)))))))))))))))))))))))))))))))))))))))))))))))))))))))
      exact ⟨_, ⟨g0, g1, g2, g3, g4, trivial⟩, h⟩
    · rw [cc] at e
      cases e
      refine Or.inr (Or.inr (Or.inr (Or.inr (Or.inr (Or.inr (Or.inr (Or.inr (Or.inr (Or.inr (Or.inr (Or.inr (Or.inr (Or.inr (Or.inr (Or.inr (Or.inr (Or.inr (Or.inr (Or.inr (Or.inr (Or.inr (Or.inr (Or.inr (Or.inr (Or.inr (Or.inr (Or.inr (Or.inr (Or.inr (Or.inr (Or.inr (Or.inr (Or.inr (Or.inr (Or.inr (Or.inr (Or.inr (Or.inr (Or.inr (Or.inr (Or.inr (Or.inr (Or.inr (Or.inr (Or.inr (Or.inr (Or.inr (Or.inr (Or.inr (Or.inr (Or.inr (Or.inr (Or.inr (Or.inr (Or.inr (Or.inl ⟨cc, ?_⟩))))))))))))))))))))))))))))))))))))))))))))))))))))))))
      exact ⟨_, ⟨g0, g1, g2, g3, g4, trivial⟩, h⟩
    · rw [cc] at e
      cases e
      refine Or.inr (Or.inr (Or.inr (Or.inr (Or.inr (Or.inr (Or.inr (Or.inr (Or.inr (Or.inr (Or.inr (Or.inr (Or.inr (Or.inr (Or.inr (Or.inr (Or.inr (Or.inr (Or.inr (Or.inr (Or.inr (Or.inr (Or.inr (Or.inr (Or.inr (Or.inr (Or.inr (Or.inr (Or.inr (Or.inr (Or.inr (Or.inr (Or.inr (Or.inr (Or.inr (Or.inr (Or.inr (Or.inr (Or.inr (Or.inr (Or.inr (Or.inr (Or.inr (Or.inr (Or.inr (Or.inr (Or.inr (Or.inr (Or.inr (Or.inr (Or.inr (Or.inr (Or.inr (Or.inr (Or.inr (Or.inr (Or.inr (⟨cc, ?_⟩)))))))))))))))))))))))))))))))))))))))))))))))))))))))))
      exact ⟨_, ⟨g0, g1, g2, g3, g4, trivial⟩, h⟩
theorem at_373_1195 : mjAtI 373 1195 = some (.aload_n 1, 1, 0, 0, 0) := by decide +kernel
theorem at_373_1196 : mjAtI 373 1196 = some (.aload_n 0, 1, 0, 0, 0) := by decide +kernel
theorem at_373_1197 : mjAtI 373 1197 = some (.iload 4, 2, 0, 0, 0) := by decide +kernel
theorem at_373_1199 : mjAtI 373 1199 = some (.iconst 1, 1, 0, 0, 0) := by decide +kernel
theorem at_373_1200 : mjAtI 373 1200 = some (.iadd, 1, 0, 0, 0) := by decide +kernel
theorem at_373_1201 : mjAtI 373 1201 = some (.iaload, 1, 0, 0, 0) := by decide +kernel
theorem at_373_1202 : mjAtI 373 1202 = some (.aload_n 3, 1, 0, 0, 0) := by decide +kernel
theorem at_373_1203 : mjAtI 373 1203 = some (.invokestatic 261, 3, 352, 1, 1357) := by decide +kernel
theorem kc_373_1203 : kCall (.invokestatic 261) 352 373 = true ∧ kArg 352 = 3 := by decide +kernel
theorem le_0 {m : Nat} {L : mjL} {H H' : mjH} {r : Option Value ⊕ Nat} {xs : List Int32} {i : Int32} (hT : HT H) (hL : LG L [(0, .ref 3000000), (1, .ref 0), (2, .ref 78), (3, .ref 578), (4, .int i)]) (h : Pn (some xs) m 373 1195 L [] H r H') : ∃ y0, (¬ (i + (Int32.ofInt 1)) < 0 ∧ xs[(i + (Int32.ofInt 1)).toNatClampNeg]? = some y0) ∧ ∃ L', LG L' [(0, .ref 3000000), (1, .ref 0), (2, .ref 78), (3, .ref 578), (4, .int i)] ∧ ∃ r2 H2, Pn none m 352 0 [(0, .ref 0), (1, .int y0), (2, .ref 578)] [] H r2 H2 ∧ ((∃ cv, r2 = .inl cv ∧ Pn (some xs) m 373 1206 L' (cv.toList ++ []) H2 r H') ∨ (∃ E, r2 = .inr E ∧ r = .inr E ∧ H' = H2)) := by
  obtain ⟨g0, g1, g2, g3, g4, -⟩ := hL
  have h : Pn (some xs) m 373 1196 L [.ref 0] H r H' := pnLrn g1 h at_373_1195
  have h : Pn (some xs) m 373 1197 L [.ref 3000000, .ref 0] H r H' := pnLrn g0 h at_373_1196
  have h : Pn (some xs) m 373 1199 L [.int i, .ref 3000000, .ref 0] H r H' := pnLi g4 h at_373_1197
  have h : Pn (some xs) m 373 1200 L [.int (Int32.ofInt 1), .int i, .ref 3000000, .ref 0] H r H' := pnA h at_373_1199 rfl rfl
  have h : Pn (some xs) m 373 1201 L [.int (i + (Int32.ofInt 1)), .ref 3000000, .ref 0] H r H' := pnA h at_373_1200 rfl rfl
  obtain ⟨y0, zy0, h⟩ := pnSa h at_373_1201
  have h : Pn (some xs) m 373 1202 L [.int y0, .ref 0] H r H' := h
  refine ⟨y0, zy0, ?_⟩
  have h : Pn (some xs) m 373 1203 L [.ref 578, .int y0, .ref 0] H r H' := pnLrn g3 h at_373_1202
  obtain ⟨r2, H2, q, h⟩ := pnC h at_373_1203 kc_373_1203.1 kc_373_1203.2 (as := [.ref 0, .int y0, .ref 578]) (rest := []) rfl
  have q : Pn none m 352 0 [(0, .ref 0), (1, .int y0), (2, .ref 578)] [] H r2 H2 := q
  exact ⟨_, ⟨g0, g1, g2, g3, g4, trivial⟩, r2, H2, q, h⟩
theorem at_373_1206 : mjAtI 373 1206 = some (.istore 5, 2, 0, 0, 0) := by decide +kernel
theorem at_373_1208 : mjAtI 373 1208 = some (.aload_n 2, 1, 0, 0, 0) := by decide +kernel
theorem at_373_1209 : mjAtI 373 1209 = some (.aload_n 0, 1, 0, 0, 0) := by decide +kernel
theorem at_373_1210 : mjAtI 373 1210 = some (.iload 4, 2, 0, 0, 0) := by decide +kernel
theorem at_373_1212 : mjAtI 373 1212 = some (.iconst 1, 1, 0, 0, 0) := by decide +kernel
theorem at_373_1213 : mjAtI 373 1213 = some (.iadd, 1, 0, 0, 0) := by decide +kernel
theorem at_373_1214 : mjAtI 373 1214 = some (.iaload, 1, 0, 0, 0) := by decide +kernel
theorem at_373_1215 : mjAtI 373 1215 = some (.invokevirtual 263, 3, 305, 0, 2232) := by decide +kernel
theorem kc_373_1215 : kCall (.invokevirtual 263) 305 373 = true ∧ kArg 305 = 2 := by decide +kernel
theorem le_1 {m : Nat} {L : mjL} {H H' : mjH} {r : Option Value ⊕ Nat} {xs : List Int32} {i : Int32} {s0 : Int32} (hT : HT H) (hL : LG L [(0, .ref 3000000), (1, .ref 0), (2, .ref 78), (3, .ref 578), (4, .int i)]) (h : Pn (some xs) m 373 1206 L [.int s0] H r H') : ∃ y0, (¬ (i + (Int32.ofInt 1)) < 0 ∧ xs[(i + (Int32.ofInt 1)).toNatClampNeg]? = some y0) ∧ ∃ L', LG L' [(0, .ref 3000000), (1, .ref 0), (2, .ref 78), (3, .ref 578), (4, .int i), (5, .int s0)] ∧ ∃ r2 H2, Pn none m 305 0 [(0, .ref 78), (1, .int y0)] [] H r2 H2 ∧ ((∃ cv, r2 = .inl cv ∧ Pn (some xs) m 373 1218 L' (cv.toList ++ []) H2 r H') ∨ (∃ E, r2 = .inr E ∧ r = .inr E ∧ H' = H2)) := by
  obtain ⟨g0, g1, g2, g3, g4, -⟩ := hL
  have h : Pn (some xs) m 373 1208 (mjSt 5 (.int s0) L) [] H r H' := pnA h at_373_1206 rfl rfl
  have g0 : mjGet (mjSt 5 (.int s0) L) 0 = some (.ref 3000000) := gt_ne g0 (by decide) rfl
  have g1 : mjGet (mjSt 5 (.int s0) L) 1 = some (.ref 0) := gt_ne g1 (by decide) rfl
  have g2 : mjGet (mjSt 5 (.int s0) L) 2 = some (.ref 78) := gt_ne g2 (by decide) rfl
  have g3 : mjGet (mjSt 5 (.int s0) L) 3 = some (.ref 578) := gt_ne g3 (by decide) rfl
  have g4 : mjGet (mjSt 5 (.int s0) L) 4 = some (.int i) := gt_ne g4 (by decide) rfl
  have g5 : mjGet (mjSt 5 (.int s0) L) 5 = some (.int s0) := gt_eq
  have h : Pn (some xs) m 373 1209 (mjSt 5 (.int s0) L) [.ref 78] H r H' := pnLrn g2 h at_373_1208
  have h : Pn (some xs) m 373 1210 (mjSt 5 (.int s0) L) [.ref 3000000, .ref 78] H r H' := pnLrn g0 h at_373_1209
  have h : Pn (some xs) m 373 1212 (mjSt 5 (.int s0) L) [.int i, .ref 3000000, .ref 78] H r H' := pnLi g4 h at_373_1210
  have h : Pn (some xs) m 373 1213 (mjSt 5 (.int s0) L) [.int (Int32.ofInt 1), .int i, .ref 3000000, .ref 78] H r H' := pnA h at_373_1212 rfl rfl
  have h : Pn (some xs) m 373 1214 (mjSt 5 (.int s0) L) [.int (i + (Int32.ofInt 1)), .ref 3000000, .ref 78] H r H' := pnA h at_373_1213 rfl rfl
  obtain ⟨y0, zy0, h⟩ := pnSa h at_373_1214
  have h : Pn (some xs) m 373 1215 (mjSt 5 (.int s0) L) [.int y0, .ref 78] H r H' := h
  refine ⟨y0, zy0, ?_⟩
  obtain ⟨r2, H2, q, h⟩ := pnC h at_373_1215 kc_373_1215.1 kc_373_1215.2 (as := [.ref 78, .int y0]) (rest := []) rfl
  have q : Pn none m 305 0 [(0, .ref 78), (1, .int y0)] [] H r2 H2 := q
  exact ⟨_, ⟨g0, g1, g2, g3, g4, g5, trivial⟩, r2, H2, q, h⟩
theorem at_373_1218 : mjAtI 373 1218 = some (.istore 6, 2, 0, 0, 0) := by decide +kernel
theorem at_373_1220 : mjAtI 373 1220 = some (.aload_n 2, 1, 0, 0, 0) := by decide +kernel
theorem at_373_1221 : mjAtI 373 1221 = some (.invokevirtual 264, 3, 196, 0, 1792) := by decide +kernel
theorem kc_373_1221 : kCall (.invokevirtual 264) 196 373 = true ∧ kArg 196 = 1 := by decide +kernel
theorem le_2 {m : Nat} {L : mjL} {H H' : mjH} {r : Option Value ⊕ Nat} {xs : List Int32} {i : Int32} {w : Int32} {s1 : Int32} (hT : HT H) (hL : LG L [(0, .ref 3000000), (1, .ref 0), (2, .ref 78), (3, .ref 578), (4, .int i), (5, .int w)]) (h : Pn (some xs) m 373 1218 L [.int s1] H r H') : ∃ L', LG L' [(0, .ref 3000000), (1, .ref 0), (2, .ref 78), (3, .ref 578), (4, .int i), (5, .int w), (6, .int s1)] ∧ ∃ r2 H2, Pn none m 196 0 [(0, .ref 78)] [] H r2 H2 ∧ ((∃ cv, r2 = .inl cv ∧ Pn (some xs) m 373 1224 L' (cv.toList ++ []) H2 r H') ∨ (∃ E, r2 = .inr E ∧ r = .inr E ∧ H' = H2)) := by
  obtain ⟨g0, g1, g2, g3, g4, g5, -⟩ := hL
  have h : Pn (some xs) m 373 1220 (mjSt 6 (.int s1) L) [] H r H' := pnA h at_373_1218 rfl rfl
  have g0 : mjGet (mjSt 6 (.int s1) L) 0 = some (.ref 3000000) := gt_ne g0 (by decide) rfl
  have g1 : mjGet (mjSt 6 (.int s1) L) 1 = some (.ref 0) := gt_ne g1 (by decide) rfl
  have g2 : mjGet (mjSt 6 (.int s1) L) 2 = some (.ref 78) := gt_ne g2 (by decide) rfl
  have g3 : mjGet (mjSt 6 (.int s1) L) 3 = some (.ref 578) := gt_ne g3 (by decide) rfl
  have g4 : mjGet (mjSt 6 (.int s1) L) 4 = some (.int i) := gt_ne g4 (by decide) rfl
  have g5 : mjGet (mjSt 6 (.int s1) L) 5 = some (.int w) := gt_ne g5 (by decide) rfl
  have g6 : mjGet (mjSt 6 (.int s1) L) 6 = some (.int s1) := gt_eq
  have h : Pn (some xs) m 373 1221 (mjSt 6 (.int s1) L) [.ref 78] H r H' := pnLrn g2 h at_373_1220
  obtain ⟨r2, H2, q, h⟩ := pnC h at_373_1221 kc_373_1221.1 kc_373_1221.2 (as := [.ref 78]) (rest := []) rfl
  have q : Pn none m 196 0 [(0, .ref 78)] [] H r2 H2 := q
  exact ⟨_, ⟨g0, g1, g2, g3, g4, g5, g6, trivial⟩, r2, H2, q, h⟩
theorem at_373_1224 : mjAtI 373 1224 = some (.iload 5, 2, 0, 0, 0) := by decide +kernel
theorem at_373_1226 : mjAtI 373 1226 = some (.if_icmp .eq 5, 3, 0, 1231, 0) := by decide +kernel
theorem at_373_1231 : mjAtI 373 1231 = some (.iload 5, 2, 0, 0, 0) := by decide +kernel
theorem at_373_1233 : mjAtI 373 1233 = some (.ifCond .ne 15, 3, 0, 1248, 0) := by decide +kernel
theorem at_373_1248 : mjAtI 373 1248 = some (.goto 859, 3, 0, 2107, 0) := by decide +kernel
theorem at_373_1236 : mjAtI 373 1236 = some (.aload_n 3, 1, 0, 0, 0) := by decide +kernel
theorem at_373_1237 : mjAtI 373 1237 = some (.iconst 0, 1, 0, 0, 0) := by decide +kernel
theorem at_373_1238 : mjAtI 373 1238 = some (.laload, 1, 0, 0, 0) := by decide +kernel
theorem kA_578_101_1_true : kA 578 101 1 true = true := by decide +kernel
theorem at_373_1239 : mjAtI 373 1239 = some (.iload 6, 2, 0, 0, 0) := by decide +kernel
theorem at_373_1241 : mjAtI 373 1241 = some (.i2l, 1, 0, 0, 0) := by decide +kernel
theorem at_373_1242 : mjAtI 373 1242 = some (.lcmp, 1, 0, 0, 0) := by decide +kernel
theorem at_373_1243 : mjAtI 373 1243 = some (.ifCond .eq 5, 3, 0, 1248, 0) := by decide +kernel
theorem at_373_1246 : mjAtI 373 1246 = some (.iconst 0, 1, 0, 0, 0) := by decide +kernel
theorem at_373_1247 : mjAtI 373 1247 = some (.ireturn, 1, 0, 0, 0) := by decide +kernel
theorem at_373_1229 : mjAtI 373 1229 = some (.iconst 0, 1, 0, 0, 0) := by decide +kernel
theorem at_373_1230 : mjAtI 373 1230 = some (.ireturn, 1, 0, 0, 0) := by decide +kernel
theorem le_3 {m : Nat} {L : mjL} {H H' : mjH} {r : Option Value ⊕ Nat} {xs : List Int32} {i : Int32} {w t : Int32} {v : Int32} (hT : HT H) (hL : LG L [(0, .ref 3000000), (1, .ref 0), (2, .ref 78), (3, .ref 578), (4, .int i), (5, .int w), (6, .int v)]) (h : Pn (some xs) m 373 1224 L [.int t] H r H') : ((t = w) ∧ (((¬ w = (Int32.ofInt 0)) ∧ ∃ L', LG L' [(0, .ref 3000000), (1, .ref 0), (2, .ref 78), (3, .ref 578), (4, .int (i + Int32.ofInt 6))] ∧ Pn (some xs) m 373 23 L' [] H r H') ∨ (¬ (¬ w = (Int32.ofInt 0)) ∧ ((((lg_cmp (gL H 578 0) (v.toInt64)) = (Int32.ofInt 0)) ∧ ∃ L', LG L' [(0, .ref 3000000), (1, .ref 0), (2, .ref 78), (3, .ref 578), (4, .int (i + Int32.ofInt 6))] ∧ Pn (some xs) m 373 23 L' [] H r H') ∨ (¬ ((lg_cmp (gL H 578 0) (v.toInt64)) = (Int32.ofInt 0)) ∧ (r = .inl (some (.int (Int32.ofInt 0))) ∧ H' = H)))))) ∨ (¬ (t = w) ∧ (r = .inl (some (.int (Int32.ofInt 0))) ∧ H' = H)) := by
  obtain ⟨g0, g1, g2, g3, g4, g5, g6, -⟩ := hL
  have h : Pn (some xs) m 373 1226 L [.int w, .int t] H r H' := pnLi g5 h at_373_1224
  rcases pnIf2 h at_373_1226 with ⟨c, h⟩ | ⟨c, h⟩
  · refine Or.inl ⟨c, ?_⟩
    have h : Pn (some xs) m 373 1233 L [.int w] H r H' := pnLi g5 h at_373_1231
    rcases pnIf1 h at_373_1233 with ⟨c, h⟩ | ⟨c, h⟩
    · refine Or.inl ⟨c, ?_⟩
      have h : Pn (some xs) m 373 2107 L [] H r H' := pnA h at_373_1248 rfl rfl
      have h : Pn (some xs) m 373 2110 (mjSt 4 (.int (i + Int32.ofInt 6)) L) [] H r H' := pnInc g4 h at_373_2107
      have g0 : mjGet (mjSt 4 (.int (i + Int32.ofInt 6)) L) 0 = some (.ref 3000000) := gt_ne g0 (by decide) rfl
      have g1 : mjGet (mjSt 4 (.int (i + Int32.ofInt 6)) L) 1 = some (.ref 0) := gt_ne g1 (by decide) rfl
      have g2 : mjGet (mjSt 4 (.int (i + Int32.ofInt 6)) L) 2 = some (.ref 78) := gt_ne g2 (by decide) rfl
      have g3 : mjGet (mjSt 4 (.int (i + Int32.ofInt 6)) L) 3 = some (.ref 578) := gt_ne g3 (by decide) rfl
      have g5 : mjGet (mjSt 4 (.int (i + Int32.ofInt 6)) L) 5 = some (.int w) := gt_ne g5 (by decide) rfl
      have g6 : mjGet (mjSt 4 (.int (i + Int32.ofInt 6)) L) 6 = some (.int v) := gt_ne g6 (by decide) rfl
      have g4 : mjGet (mjSt 4 (.int (i + Int32.ofInt 6)) L) 4 = some (.int (i + Int32.ofInt 6)) := gt_eq
      have h : Pn (some xs) m 373 23 (mjSt 4 (.int (i + Int32.ofInt 6)) L) [] H r H' := pnA h at_373_2110 rfl rfl
      exact ⟨_, ⟨g0, g1, g2, g3, g4, trivial⟩, h⟩
    · refine Or.inr ⟨c, ?_⟩
      have h : Pn (some xs) m 373 1237 L [.ref 578] H r H' := pnLrn g3 h at_373_1236
      have h : Pn (some xs) m 373 1238 L [.int (Int32.ofInt 0), .ref 578] H r H' := pnA h at_373_1237 rfl rfl
      obtain ⟨b0, h⟩ := pnLl hT kA_578_101_1_true h at_373_1238
      rw [show (Int32.ofInt 0).toNatClampNeg = 0 by decide] at h
      have h : Pn (some xs) m 373 1239 L [.long (gL H 578 0)] H r H' := h
      have h : Pn (some xs) m 373 1241 L [.int v, .long (gL H 578 0)] H r H' := pnLi g6 h at_373_1239
      have h : Pn (some xs) m 373 1242 L [.long (v.toInt64), .long (gL H 578 0)] H r H' := pnA h at_373_1241 rfl rfl
      have h : Pn (some xs) m 373 1243 L [.int (lg_cmp (gL H 578 0) (v.toInt64))] H r H' := pnA h at_373_1242 rfl rfl
      rcases pnIf1 h at_373_1243 with ⟨c, h⟩ | ⟨c, h⟩
      · refine Or.inl ⟨c, ?_⟩
        have h : Pn (some xs) m 373 2107 L [] H r H' := pnA h at_373_1248 rfl rfl
        have h : Pn (some xs) m 373 2110 (mjSt 4 (.int (i + Int32.ofInt 6)) L) [] H r H' := pnInc g4 h at_373_2107
        have g0 : mjGet (mjSt 4 (.int (i + Int32.ofInt 6)) L) 0 = some (.ref 3000000) := gt_ne g0 (by decide) rfl
        have g1 : mjGet (mjSt 4 (.int (i + Int32.ofInt 6)) L) 1 = some (.ref 0) := gt_ne g1 (by decide) rfl
        have g2 : mjGet (mjSt 4 (.int (i + Int32.ofInt 6)) L) 2 = some (.ref 78) := gt_ne g2 (by decide) rfl
        have g3 : mjGet (mjSt 4 (.int (i + Int32.ofInt 6)) L) 3 = some (.ref 578) := gt_ne g3 (by decide) rfl
        have g5 : mjGet (mjSt 4 (.int (i + Int32.ofInt 6)) L) 5 = some (.int w) := gt_ne g5 (by decide) rfl
        have g6 : mjGet (mjSt 4 (.int (i + Int32.ofInt 6)) L) 6 = some (.int v) := gt_ne g6 (by decide) rfl
        have g4 : mjGet (mjSt 4 (.int (i + Int32.ofInt 6)) L) 4 = some (.int (i + Int32.ofInt 6)) := gt_eq
        have h : Pn (some xs) m 373 23 (mjSt 4 (.int (i + Int32.ofInt 6)) L) [] H r H' := pnA h at_373_2110 rfl rfl
        exact ⟨_, ⟨g0, g1, g2, g3, g4, trivial⟩, h⟩
      · refine Or.inr ⟨c, ?_⟩
        have h : Pn (some xs) m 373 1247 L [.int (Int32.ofInt 0)] H r H' := pnA h at_373_1246 rfl rfl
        exact pnRi h at_373_1247
  · refine Or.inr ⟨c, ?_⟩
    have h : Pn (some xs) m 373 1230 L [.int (Int32.ofInt 0)] H r H' := pnA h at_373_1229 rfl rfl
    exact pnRi h at_373_1230
end LWS
