/-! ===== the law's cases 0.. ===== -/
theorem dL_law_268 : decode cL_law 268 = .ok (.aload_n 1, 1) := by decide +kernel
theorem dL_law_269 : decode cL_law 269 = .ok (.aload_n 0, 1) := by decide +kernel
theorem dL_law_270 : decode cL_law 270 = .ok (.iload_n 3, 1) := by decide +kernel
theorem dL_law_271 : decode cL_law 271 = .ok (.iconst 1, 1) := by decide +kernel
theorem dL_law_272 : decode cL_law 272 = .ok (.iadd, 1) := by decide +kernel
theorem dL_law_273 : decode cL_law 273 = .ok (.iaload, 1) := by decide +kernel
theorem dL_law_274 : decode cL_law 274 = .ok (.aload_n 0, 1) := by decide +kernel
theorem dL_law_275 : decode cL_law 275 = .ok (.iload_n 3, 1) := by decide +kernel
theorem dL_law_276 : decode cL_law 276 = .ok (.iconst 2, 1) := by decide +kernel
theorem dL_law_277 : decode cL_law 277 = .ok (.iadd, 1) := by decide +kernel
theorem dL_law_278 : decode cL_law 278 = .ok (.iaload, 1) := by decide +kernel
theorem dL_law_279 : decode cL_law 279 = .ok (.aload_n 0, 1) := by decide +kernel
theorem dL_law_280 : decode cL_law 280 = .ok (.iload_n 3, 1) := by decide +kernel
theorem dL_law_281 : decode cL_law 281 = .ok (.iconst 3, 1) := by decide +kernel
theorem dL_law_282 : decode cL_law 282 = .ok (.iadd, 1) := by decide +kernel
theorem dL_law_283 : decode cL_law 283 = .ok (.iaload, 1) := by decide +kernel
theorem dL_law_284 : decode cL_law 284 = .ok (.aload_n 0, 1) := by decide +kernel
theorem dL_law_285 : decode cL_law 285 = .ok (.iload_n 3, 1) := by decide +kernel
theorem dL_law_286 : decode cL_law 286 = .ok (.iconst 4, 1) := by decide +kernel
theorem dL_law_287 : decode cL_law 287 = .ok (.iadd, 1) := by decide +kernel
theorem dL_law_288 : decode cL_law 288 = .ok (.iaload, 1) := by decide +kernel
theorem dL_law_289 : decode cL_law 289 = .ok (.aload_n 0, 1) := by decide +kernel
theorem dL_law_290 : decode cL_law 290 = .ok (.iload_n 3, 1) := by decide +kernel
theorem dL_law_291 : decode cL_law 291 = .ok (.iconst 5, 1) := by decide +kernel
theorem dL_law_292 : decode cL_law 292 = .ok (.iadd, 1) := by decide +kernel
theorem dL_law_293 : decode cL_law 293 = .ok (.iaload, 1) := by decide +kernel
theorem dL_law_294 : decode cL_law 294 = .ok (.invokevirtual 13, 3) := by decide +kernel
theorem dL_law_297 : decode cL_law 297 = .ok (.aload_n 2, 1) := by decide +kernel
theorem dL_law_298 : decode cL_law 298 = .ok (.aload_n 0, 1) := by decide +kernel
theorem dL_law_299 : decode cL_law 299 = .ok (.iload_n 3, 1) := by decide +kernel
theorem dL_law_300 : decode cL_law 300 = .ok (.iconst 1, 1) := by decide +kernel
theorem dL_law_301 : decode cL_law 301 = .ok (.iadd, 1) := by decide +kernel
theorem dL_law_302 : decode cL_law 302 = .ok (.iaload, 1) := by decide +kernel
theorem dL_law_303 : decode cL_law 303 = .ok (.aload_n 0, 1) := by decide +kernel
theorem dL_law_304 : decode cL_law 304 = .ok (.iload_n 3, 1) := by decide +kernel
theorem dL_law_305 : decode cL_law 305 = .ok (.iconst 2, 1) := by decide +kernel
theorem dL_law_306 : decode cL_law 306 = .ok (.iadd, 1) := by decide +kernel
theorem dL_law_307 : decode cL_law 307 = .ok (.iaload, 1) := by decide +kernel
theorem dL_law_308 : decode cL_law 308 = .ok (.aload_n 0, 1) := by decide +kernel
theorem dL_law_309 : decode cL_law 309 = .ok (.iload_n 3, 1) := by decide +kernel
theorem dL_law_310 : decode cL_law 310 = .ok (.iconst 3, 1) := by decide +kernel
theorem dL_law_311 : decode cL_law 311 = .ok (.iadd, 1) := by decide +kernel
theorem dL_law_312 : decode cL_law 312 = .ok (.iaload, 1) := by decide +kernel
theorem dL_law_313 : decode cL_law 313 = .ok (.aload_n 0, 1) := by decide +kernel
theorem dL_law_314 : decode cL_law 314 = .ok (.iload_n 3, 1) := by decide +kernel
theorem dL_law_315 : decode cL_law 315 = .ok (.iconst 4, 1) := by decide +kernel
theorem dL_law_316 : decode cL_law 316 = .ok (.iadd, 1) := by decide +kernel
theorem dL_law_317 : decode cL_law 317 = .ok (.iaload, 1) := by decide +kernel
theorem dL_law_318 : decode cL_law 318 = .ok (.aload_n 0, 1) := by decide +kernel
theorem dL_law_319 : decode cL_law 319 = .ok (.iload_n 3, 1) := by decide +kernel
theorem dL_law_320 : decode cL_law 320 = .ok (.iconst 5, 1) := by decide +kernel
theorem dL_law_321 : decode cL_law 321 = .ok (.iadd, 1) := by decide +kernel
theorem dL_law_322 : decode cL_law 322 = .ok (.iaload, 1) := by decide +kernel
theorem dL_law_323 : decode cL_law 323 = .ok (.invokevirtual 17, 3) := by decide +kernel
theorem dL_law_326 : decode cL_law 326 = .ok (.if_icmp .eq 1607, 3) := by decide +kernel
theorem lawc_0 {X : xCX} {b L : Nat} {xs : Nat → Int32} {i : Int32} {M : xMem} (C : xCk X cL_law RL 16) (hS : xSc X b L xs) (h5 : ∀ j, j < 6 → vp_in (i + nI j) L) (hT : TOP M) (kk : ∀ M', TOP M' → WW X 1933 [some (.ref b), some (vr X.1 0), some (vr X.1 146), some (.int i)] [] M') : WW X 268 [some (.ref b), some (vr X.1 0), some (vr X.1 146), some (.int i)] [] M := by
  obtain ⟨v, M1, M2, f1, f2, T2⟩ := (show STEP (fX10_feed 0 (xs (i + nI 1).toNatClampNeg) (xs (i + nI 2).toNatClampNeg) (xs (i + nI 3).toNatClampNeg) (xs (i + nI 4).toNatClampNeg) (xs (i + nI 5).toNatClampNeg)) (fX11_feed 146 (xs (i + nI 1).toNatClampNeg) (xs (i + nI 2).toNatClampNeg) (xs (i + nI 3).toNatClampNeg) (xs (i + nI 4).toNatClampNeg) (xs (i + nI 5).toNatClampNeg)) from s_feed) M hT
  refine r_aload_n (pc := 268) C dL_law_268 rfl rfl ?_
  refine r_xld_n (pc := 269) C dL_law_269 rfl rfl rfl ?_
  refine r_iload_n (pc := 270) C dL_law_270 rfl rfl ?_
  refine r_iconst (pc := 271) (v := nI 1) C dL_law_271 (by decide) ?_
  refine r_iadd (pc := 272) C dL_law_272 ?_
  refine r_scld (pc := 273) C hS (h5 1 (by decide)) dL_law_273 ?_
  refine r_xld_n (pc := 274) C dL_law_274 rfl rfl rfl ?_
  refine r_iload_n (pc := 275) C dL_law_275 rfl rfl ?_
  refine r_iconst (pc := 276) (v := nI 2) C dL_law_276 (by decide) ?_
  refine r_iadd (pc := 277) C dL_law_277 ?_
  refine r_scld (pc := 278) C hS (h5 2 (by decide)) dL_law_278 ?_
  refine r_xld_n (pc := 279) C dL_law_279 rfl rfl rfl ?_
  refine r_iload_n (pc := 280) C dL_law_280 rfl rfl ?_
  refine r_iconst (pc := 281) (v := nI 3) C dL_law_281 (by decide) ?_
  refine r_iadd (pc := 282) C dL_law_282 ?_
  refine r_scld (pc := 283) C hS (h5 3 (by decide)) dL_law_283 ?_
  refine r_xld_n (pc := 284) C dL_law_284 rfl rfl rfl ?_
  refine r_iload_n (pc := 285) C dL_law_285 rfl rfl ?_
  refine r_iconst (pc := 286) (v := nI 4) C dL_law_286 (by decide) ?_
  refine r_iadd (pc := 287) C dL_law_287 ?_
  refine r_scld (pc := 288) C hS (h5 4 (by decide)) dL_law_288 ?_
  refine r_xld_n (pc := 289) C dL_law_289 rfl rfl rfl ?_
  refine r_iload_n (pc := 290) C dL_law_290 rfl rfl ?_
  refine r_iconst (pc := 291) (v := nI 5) C dL_law_291 (by decide) ?_
  refine r_iadd (pc := 292) C dL_law_292 ?_
  refine r_scld (pc := 293) C hS (h5 5 (by decide)) dL_law_293 ?_
  refine r_vI5 (pc := 294) (o := fX10_feed 0 (xs (i + nI 1).toNatClampNeg) (xs (i + nI 2).toNatClampNeg) (xs (i + nI 3).toNatClampNeg) (xs (i + nI 4).toNatClampNeg) (xs (i + nI 5).toNatClampNeg) M) (F := fun r M' => some (r, M')) (z := (v, M1)) C (fun r M' e => zX10_feed X.1 0 rfl (xs (i + nI 1).toNatClampNeg) (xs (i + nI 2).toNatClampNeg) (xs (i + nI 3).toNatClampNeg) (xs (i + nI 4).toNatClampNeg) (xs (i + nI 5).toNatClampNeg) M r M' e) rfl (by decide) rfl mX10_feed lL_13 (by decide) (Nat.le_of_ble_eq_true rfl) dL_law_294 (by rw [f1]; rfl) (fun r M' e => ?_)
  cases e
  refine r_aload_n (pc := 297) C dL_law_297 rfl rfl ?_
  refine r_xld_n (pc := 298) C dL_law_298 rfl rfl rfl ?_
  refine r_iload_n (pc := 299) C dL_law_299 rfl rfl ?_
  refine r_iconst (pc := 300) (v := nI 1) C dL_law_300 (by decide) ?_
  refine r_iadd (pc := 301) C dL_law_301 ?_
  refine r_scld (pc := 302) C hS (h5 1 (by decide)) dL_law_302 ?_
  refine r_xld_n (pc := 303) C dL_law_303 rfl rfl rfl ?_
  refine r_iload_n (pc := 304) C dL_law_304 rfl rfl ?_
  refine r_iconst (pc := 305) (v := nI 2) C dL_law_305 (by decide) ?_
  refine r_iadd (pc := 306) C dL_law_306 ?_
  refine r_scld (pc := 307) C hS (h5 2 (by decide)) dL_law_307 ?_
  refine r_xld_n (pc := 308) C dL_law_308 rfl rfl rfl ?_
  refine r_iload_n (pc := 309) C dL_law_309 rfl rfl ?_
  refine r_iconst (pc := 310) (v := nI 3) C dL_law_310 (by decide) ?_
  refine r_iadd (pc := 311) C dL_law_311 ?_
  refine r_scld (pc := 312) C hS (h5 3 (by decide)) dL_law_312 ?_
  refine r_xld_n (pc := 313) C dL_law_313 rfl rfl rfl ?_
  refine r_iload_n (pc := 314) C dL_law_314 rfl rfl ?_
  refine r_iconst (pc := 315) (v := nI 4) C dL_law_315 (by decide) ?_
  refine r_iadd (pc := 316) C dL_law_316 ?_
  refine r_scld (pc := 317) C hS (h5 4 (by decide)) dL_law_317 ?_
  refine r_xld_n (pc := 318) C dL_law_318 rfl rfl rfl ?_
  refine r_iload_n (pc := 319) C dL_law_319 rfl rfl ?_
  refine r_iconst (pc := 320) (v := nI 5) C dL_law_320 (by decide) ?_
  refine r_iadd (pc := 321) C dL_law_321 ?_
  refine r_scld (pc := 322) C hS (h5 5 (by decide)) dL_law_322 ?_
  refine r_vI5 (pc := 323) (o := fX11_feed 146 (xs (i + nI 1).toNatClampNeg) (xs (i + nI 2).toNatClampNeg) (xs (i + nI 3).toNatClampNeg) (xs (i + nI 4).toNatClampNeg) (xs (i + nI 5).toNatClampNeg) M1) (F := fun r M' => some (r, M')) (z := (v, M2)) C (fun r M' e => zX11_feed X.1 146 rfl (xs (i + nI 1).toNatClampNeg) (xs (i + nI 2).toNatClampNeg) (xs (i + nI 3).toNatClampNeg) (xs (i + nI 4).toNatClampNeg) (xs (i + nI 5).toNatClampNeg) M1 r M' e) rfl (by decide) rfl mX11_feed lL_17 (by decide) (Nat.le_of_ble_eq_true rfl) dL_law_323 (by rw [f2]; rfl) (fun r M' e => ?_)
  cases e
  exact r_icmp_eq (pc := 326) (tgt := 1933) (A := some ()) (B := none) (r := ()) C dL_law_326 (by decide) (if_pos rfl) (fun _ _ => kk M2 T2) (fun _ h => absurd h (by simp))
theorem dL_law_331 : decode cL_law 331 = .ok (.aload_n 1, 1) := by decide +kernel
theorem dL_law_332 : decode cL_law 332 = .ok (.aload_n 0, 1) := by decide +kernel
theorem dL_law_333 : decode cL_law 333 = .ok (.iload_n 3, 1) := by decide +kernel
theorem dL_law_334 : decode cL_law 334 = .ok (.iconst 1, 1) := by decide +kernel
theorem dL_law_335 : decode cL_law 335 = .ok (.iadd, 1) := by decide +kernel
theorem dL_law_336 : decode cL_law 336 = .ok (.iaload, 1) := by decide +kernel
theorem dL_law_337 : decode cL_law 337 = .ok (.invokevirtual 18, 3) := by decide +kernel
theorem dL_law_340 : decode cL_law 340 = .ok (.aload_n 2, 1) := by decide +kernel
theorem dL_law_341 : decode cL_law 341 = .ok (.aload_n 0, 1) := by decide +kernel
theorem dL_law_342 : decode cL_law 342 = .ok (.iload_n 3, 1) := by decide +kernel
theorem dL_law_343 : decode cL_law 343 = .ok (.iconst 1, 1) := by decide +kernel
theorem dL_law_344 : decode cL_law 344 = .ok (.iadd, 1) := by decide +kernel
theorem dL_law_345 : decode cL_law 345 = .ok (.iaload, 1) := by decide +kernel
theorem dL_law_346 : decode cL_law 346 = .ok (.invokevirtual 22, 3) := by decide +kernel
theorem dL_law_349 : decode cL_law 349 = .ok (.if_icmp .eq 1584, 3) := by decide +kernel
theorem lawc_1 {X : xCX} {b L : Nat} {xs : Nat → Int32} {i : Int32} {M : xMem} (C : xCk X cL_law RL 16) (hS : xSc X b L xs) (h5 : ∀ j, j < 6 → vp_in (i + nI j) L) (hT : TOP M) (kk : ∀ M', TOP M' → WW X 1933 [some (.ref b), some (vr X.1 0), some (vr X.1 146), some (.int i)] [] M') : WW X 331 [some (.ref b), some (vr X.1 0), some (vr X.1 146), some (.int i)] [] M := by
  obtain ⟨v, M1, M2, f1, f2, T2⟩ := (show STEP (fX10_end 0 (xs (i + nI 1).toNatClampNeg)) (fX11_end 146 (xs (i + nI 1).toNatClampNeg)) from s_end) M hT
  refine r_aload_n (pc := 331) C dL_law_331 rfl rfl ?_
  refine r_xld_n (pc := 332) C dL_law_332 rfl rfl rfl ?_
  refine r_iload_n (pc := 333) C dL_law_333 rfl rfl ?_
  refine r_iconst (pc := 334) (v := nI 1) C dL_law_334 (by decide) ?_
  refine r_iadd (pc := 335) C dL_law_335 ?_
  refine r_scld (pc := 336) C hS (h5 1 (by decide)) dL_law_336 ?_
  refine r_vI1 (pc := 337) (o := fX10_end 0 (xs (i + nI 1).toNatClampNeg) M) (F := fun r M' => some (r, M')) (z := (v, M1)) C (fun r M' e => zX10_end X.1 0 rfl (xs (i + nI 1).toNatClampNeg) M r M' e) rfl (by decide) rfl mX10_end lL_18 (by decide) (Nat.le_of_ble_eq_true rfl) dL_law_337 (by rw [f1]; rfl) (fun r M' e => ?_)
  cases e
  refine r_aload_n (pc := 340) C dL_law_340 rfl rfl ?_
  refine r_xld_n (pc := 341) C dL_law_341 rfl rfl rfl ?_
  refine r_iload_n (pc := 342) C dL_law_342 rfl rfl ?_
  refine r_iconst (pc := 343) (v := nI 1) C dL_law_343 (by decide) ?_
  refine r_iadd (pc := 344) C dL_law_344 ?_
  refine r_scld (pc := 345) C hS (h5 1 (by decide)) dL_law_345 ?_
  refine r_vI1 (pc := 346) (o := fX11_end 146 (xs (i + nI 1).toNatClampNeg) M1) (F := fun r M' => some (r, M')) (z := (v, M2)) C (fun r M' e => zX11_end X.1 146 rfl (xs (i + nI 1).toNatClampNeg) M1 r M' e) rfl (by decide) rfl mX11_end lL_22 (by decide) (Nat.le_of_ble_eq_true rfl) dL_law_346 (by rw [f2]; rfl) (fun r M' e => ?_)
  cases e
  exact r_icmp_eq (pc := 349) (tgt := 1933) (A := some ()) (B := none) (r := ()) C dL_law_349 (by decide) (if_pos rfl) (fun _ _ => kk M2 T2) (fun _ h => absurd h (by simp))
theorem dL_law_354 : decode cL_law 354 = .ok (.aload_n 1, 1) := by decide +kernel
theorem dL_law_355 : decode cL_law 355 = .ok (.invokevirtual 23, 3) := by decide +kernel
theorem dL_law_358 : decode cL_law 358 = .ok (.aload_n 2, 1) := by decide +kernel
theorem dL_law_359 : decode cL_law 359 = .ok (.invokevirtual 27, 3) := by decide +kernel
theorem dL_law_362 : decode cL_law 362 = .ok (.if_icmp .eq 1571, 3) := by decide +kernel
theorem lawc_2 {X : xCX} {b L : Nat} {xs : Nat → Int32} {i : Int32} {M : xMem} (C : xCk X cL_law RL 16) (hS : xSc X b L xs) (h5 : ∀ j, j < 6 → vp_in (i + nI j) L) (hT : TOP M) (kk : ∀ M', TOP M' → WW X 1933 [some (.ref b), some (vr X.1 0), some (vr X.1 146), some (.int i)] [] M') : WW X 354 [some (.ref b), some (vr X.1 0), some (vr X.1 146), some (.int i)] [] M := by
  obtain ⟨v, M1, M2, f1, f2, T2⟩ := (show STEP (fX10_text 0 ) (fX11_text 146 ) from s_text) M hT
  refine r_aload_n (pc := 354) C dL_law_354 rfl rfl ?_
  refine r_vI0 (pc := 355) (o := fX10_text 0  M) (F := fun r M' => some (r, M')) (z := (v, M1)) C (fun r M' e => zX10_text X.1 0 rfl  M r M' e) rfl (by decide) rfl mX10_text lL_23 (by decide) (Nat.le_of_ble_eq_true rfl) dL_law_355 (by rw [f1]; rfl) (fun r M' e => ?_)
  cases e
  refine r_aload_n (pc := 358) C dL_law_358 rfl rfl ?_
  refine r_vI0 (pc := 359) (o := fX11_text 146  M1) (F := fun r M' => some (r, M')) (z := (v, M2)) C (fun r M' e => zX11_text X.1 146 rfl  M1 r M' e) rfl (by decide) rfl mX11_text lL_27 (by decide) (Nat.le_of_ble_eq_true rfl) dL_law_359 (by rw [f2]; rfl) (fun r M' e => ?_)
  cases e
  exact r_icmp_eq (pc := 362) (tgt := 1933) (A := some ()) (B := none) (r := ()) C dL_law_362 (by decide) (if_pos rfl) (fun _ _ => kk M2 T2) (fun _ h => absurd h (by simp))
theorem dL_law_367 : decode cL_law 367 = .ok (.aload_n 1, 1) := by decide +kernel
theorem dL_law_368 : decode cL_law 368 = .ok (.aload_n 0, 1) := by decide +kernel
theorem dL_law_369 : decode cL_law 369 = .ok (.iload_n 3, 1) := by decide +kernel
theorem dL_law_370 : decode cL_law 370 = .ok (.iconst 1, 1) := by decide +kernel
theorem dL_law_371 : decode cL_law 371 = .ok (.iadd, 1) := by decide +kernel
theorem dL_law_372 : decode cL_law 372 = .ok (.iaload, 1) := by decide +kernel
theorem dL_law_373 : decode cL_law 373 = .ok (.invokevirtual 28, 3) := by decide +kernel
theorem dL_law_376 : decode cL_law 376 = .ok (.aload_n 2, 1) := by decide +kernel
theorem dL_law_377 : decode cL_law 377 = .ok (.aload_n 0, 1) := by decide +kernel
theorem dL_law_378 : decode cL_law 378 = .ok (.iload_n 3, 1) := by decide +kernel
theorem dL_law_379 : decode cL_law 379 = .ok (.iconst 1, 1) := by decide +kernel
theorem dL_law_380 : decode cL_law 380 = .ok (.iadd, 1) := by decide +kernel
theorem dL_law_381 : decode cL_law 381 = .ok (.iaload, 1) := by decide +kernel
theorem dL_law_382 : decode cL_law 382 = .ok (.invokevirtual 31, 3) := by decide +kernel
theorem dL_law_385 : decode cL_law 385 = .ok (.if_icmp .eq 1548, 3) := by decide +kernel
theorem lawc_3 {X : xCX} {b L : Nat} {xs : Nat → Int32} {i : Int32} {M : xMem} (C : xCk X cL_law RL 16) (hS : xSc X b L xs) (h5 : ∀ j, j < 6 → vp_in (i + nI j) L) (hT : TOP M) (kk : ∀ M', TOP M' → WW X 1933 [some (.ref b), some (vr X.1 0), some (vr X.1 146), some (.int i)] [] M') : WW X 367 [some (.ref b), some (vr X.1 0), some (vr X.1 146), some (.int i)] [] M := by
  obtain ⟨v, M1, M2, f1, f2, T2⟩ := (show STEP (fX10_fault 0 (xs (i + nI 1).toNatClampNeg)) (fX11_fault 146 (xs (i + nI 1).toNatClampNeg)) from s_fault) M hT
  refine r_aload_n (pc := 367) C dL_law_367 rfl rfl ?_
  refine r_xld_n (pc := 368) C dL_law_368 rfl rfl rfl ?_
  refine r_iload_n (pc := 369) C dL_law_369 rfl rfl ?_
  refine r_iconst (pc := 370) (v := nI 1) C dL_law_370 (by decide) ?_
  refine r_iadd (pc := 371) C dL_law_371 ?_
  refine r_scld (pc := 372) C hS (h5 1 (by decide)) dL_law_372 ?_
  refine r_vI1 (pc := 373) (o := fX10_fault 0 (xs (i + nI 1).toNatClampNeg) M) (F := fun r M' => some (r, M')) (z := (v, M1)) C (fun r M' e => zX10_fault X.1 0 rfl (xs (i + nI 1).toNatClampNeg) M r M' e) rfl (by decide) rfl mX10_fault lL_28 (by decide) (Nat.le_of_ble_eq_true rfl) dL_law_373 (by rw [f1]; rfl) (fun r M' e => ?_)
  cases e
  refine r_aload_n (pc := 376) C dL_law_376 rfl rfl ?_
  refine r_xld_n (pc := 377) C dL_law_377 rfl rfl rfl ?_
  refine r_iload_n (pc := 378) C dL_law_378 rfl rfl ?_
  refine r_iconst (pc := 379) (v := nI 1) C dL_law_379 (by decide) ?_
  refine r_iadd (pc := 380) C dL_law_380 ?_
  refine r_scld (pc := 381) C hS (h5 1 (by decide)) dL_law_381 ?_
  refine r_vI1 (pc := 382) (o := fX11_fault 146 (xs (i + nI 1).toNatClampNeg) M1) (F := fun r M' => some (r, M')) (z := (v, M2)) C (fun r M' e => zX11_fault X.1 146 rfl (xs (i + nI 1).toNatClampNeg) M1 r M' e) rfl (by decide) rfl mX11_fault lL_31 (by decide) (Nat.le_of_ble_eq_true rfl) dL_law_382 (by rw [f2]; rfl) (fun r M' e => ?_)
  cases e
  exact r_icmp_eq (pc := 385) (tgt := 1933) (A := some ()) (B := none) (r := ()) C dL_law_385 (by decide) (if_pos rfl) (fun _ _ => kk M2 T2) (fun _ h => absurd h (by simp))
theorem dL_law_390 : decode cL_law 390 = .ok (.aload_n 1, 1) := by decide +kernel
theorem dL_law_391 : decode cL_law 391 = .ok (.aload_n 0, 1) := by decide +kernel
theorem dL_law_392 : decode cL_law 392 = .ok (.iload_n 3, 1) := by decide +kernel
theorem dL_law_393 : decode cL_law 393 = .ok (.iconst 1, 1) := by decide +kernel
theorem dL_law_394 : decode cL_law 394 = .ok (.iadd, 1) := by decide +kernel
theorem dL_law_395 : decode cL_law 395 = .ok (.iaload, 1) := by decide +kernel
theorem dL_law_396 : decode cL_law 396 = .ok (.invokevirtual 32, 3) := by decide +kernel
theorem dL_law_399 : decode cL_law 399 = .ok (.aload_n 2, 1) := by decide +kernel
theorem dL_law_400 : decode cL_law 400 = .ok (.aload_n 0, 1) := by decide +kernel
theorem dL_law_401 : decode cL_law 401 = .ok (.iload_n 3, 1) := by decide +kernel
theorem dL_law_402 : decode cL_law 402 = .ok (.iconst 1, 1) := by decide +kernel
theorem dL_law_403 : decode cL_law 403 = .ok (.iadd, 1) := by decide +kernel
theorem dL_law_404 : decode cL_law 404 = .ok (.iaload, 1) := by decide +kernel
theorem dL_law_405 : decode cL_law 405 = .ok (.invokevirtual 35, 3) := by decide +kernel
theorem dL_law_408 : decode cL_law 408 = .ok (.if_icmp .eq 1525, 3) := by decide +kernel
theorem lawc_4 {X : xCX} {b L : Nat} {xs : Nat → Int32} {i : Int32} {M : xMem} (C : xCk X cL_law RL 16) (hS : xSc X b L xs) (h5 : ∀ j, j < 6 → vp_in (i + nI j) L) (hT : TOP M) (kk : ∀ M', TOP M' → WW X 1933 [some (.ref b), some (vr X.1 0), some (vr X.1 146), some (.int i)] [] M') : WW X 390 [some (.ref b), some (vr X.1 0), some (vr X.1 146), some (.int i)] [] M := by
  obtain ⟨v, M1, M2, f1, f2, T2⟩ := (show STEP (fX10_count 0 (xs (i + nI 1).toNatClampNeg)) (fX11_count 146 (xs (i + nI 1).toNatClampNeg)) from s_count) M hT
  refine r_aload_n (pc := 390) C dL_law_390 rfl rfl ?_
  refine r_xld_n (pc := 391) C dL_law_391 rfl rfl rfl ?_
  refine r_iload_n (pc := 392) C dL_law_392 rfl rfl ?_
  refine r_iconst (pc := 393) (v := nI 1) C dL_law_393 (by decide) ?_
  refine r_iadd (pc := 394) C dL_law_394 ?_
  refine r_scld (pc := 395) C hS (h5 1 (by decide)) dL_law_395 ?_
  refine r_vI1 (pc := 396) (o := fX10_count 0 (xs (i + nI 1).toNatClampNeg) M) (F := fun r M' => some (r, M')) (z := (v, M1)) C (fun r M' e => zX10_count X.1 0 rfl (xs (i + nI 1).toNatClampNeg) M r M' e) rfl (by decide) rfl mX10_count lL_32 (by decide) (Nat.le_of_ble_eq_true rfl) dL_law_396 (by rw [f1]; rfl) (fun r M' e => ?_)
  cases e
  refine r_aload_n (pc := 399) C dL_law_399 rfl rfl ?_
  refine r_xld_n (pc := 400) C dL_law_400 rfl rfl rfl ?_
  refine r_iload_n (pc := 401) C dL_law_401 rfl rfl ?_
  refine r_iconst (pc := 402) (v := nI 1) C dL_law_402 (by decide) ?_
  refine r_iadd (pc := 403) C dL_law_403 ?_
  refine r_scld (pc := 404) C hS (h5 1 (by decide)) dL_law_404 ?_
  refine r_vI1 (pc := 405) (o := fX11_count 146 (xs (i + nI 1).toNatClampNeg) M1) (F := fun r M' => some (r, M')) (z := (v, M2)) C (fun r M' e => zX11_count X.1 146 rfl (xs (i + nI 1).toNatClampNeg) M1 r M' e) rfl (by decide) rfl mX11_count lL_35 (by decide) (Nat.le_of_ble_eq_true rfl) dL_law_405 (by rw [f2]; rfl) (fun r M' e => ?_)
  cases e
  exact r_icmp_eq (pc := 408) (tgt := 1933) (A := some ()) (B := none) (r := ()) C dL_law_408 (by decide) (if_pos rfl) (fun _ _ => kk M2 T2) (fun _ h => absurd h (by simp))
theorem dL_law_413 : decode cL_law 413 = .ok (.aload_n 1, 1) := by decide +kernel
theorem dL_law_414 : decode cL_law 414 = .ok (.aload_n 0, 1) := by decide +kernel
theorem dL_law_415 : decode cL_law 415 = .ok (.iload_n 3, 1) := by decide +kernel
theorem dL_law_416 : decode cL_law 416 = .ok (.iconst 1, 1) := by decide +kernel
theorem dL_law_417 : decode cL_law 417 = .ok (.iadd, 1) := by decide +kernel
theorem dL_law_418 : decode cL_law 418 = .ok (.iaload, 1) := by decide +kernel
theorem dL_law_419 : decode cL_law 419 = .ok (.aload_n 0, 1) := by decide +kernel
theorem dL_law_420 : decode cL_law 420 = .ok (.iload_n 3, 1) := by decide +kernel
theorem dL_law_421 : decode cL_law 421 = .ok (.iconst 2, 1) := by decide +kernel
theorem dL_law_422 : decode cL_law 422 = .ok (.iadd, 1) := by decide +kernel
theorem dL_law_423 : decode cL_law 423 = .ok (.iaload, 1) := by decide +kernel
theorem dL_law_424 : decode cL_law 424 = .ok (.invokevirtual 36, 3) := by decide +kernel
theorem dL_law_427 : decode cL_law 427 = .ok (.aload_n 2, 1) := by decide +kernel
theorem dL_law_428 : decode cL_law 428 = .ok (.aload_n 0, 1) := by decide +kernel
theorem dL_law_429 : decode cL_law 429 = .ok (.iload_n 3, 1) := by decide +kernel
theorem dL_law_430 : decode cL_law 430 = .ok (.iconst 1, 1) := by decide +kernel
theorem dL_law_431 : decode cL_law 431 = .ok (.iadd, 1) := by decide +kernel
theorem dL_law_432 : decode cL_law 432 = .ok (.iaload, 1) := by decide +kernel
theorem dL_law_433 : decode cL_law 433 = .ok (.aload_n 0, 1) := by decide +kernel
theorem dL_law_434 : decode cL_law 434 = .ok (.iload_n 3, 1) := by decide +kernel
theorem dL_law_435 : decode cL_law 435 = .ok (.iconst 2, 1) := by decide +kernel
theorem dL_law_436 : decode cL_law 436 = .ok (.iadd, 1) := by decide +kernel
theorem dL_law_437 : decode cL_law 437 = .ok (.iaload, 1) := by decide +kernel
theorem dL_law_438 : decode cL_law 438 = .ok (.invokevirtual 40, 3) := by decide +kernel
theorem dL_law_441 : decode cL_law 441 = .ok (.if_icmp .eq 1492, 3) := by decide +kernel
theorem lawc_5 {X : xCX} {b L : Nat} {xs : Nat → Int32} {i : Int32} {M : xMem} (C : xCk X cL_law RL 16) (hS : xSc X b L xs) (h5 : ∀ j, j < 6 → vp_in (i + nI j) L) (hT : TOP M) (kk : ∀ M', TOP M' → WW X 1933 [some (.ref b), some (vr X.1 0), some (vr X.1 146), some (.int i)] [] M') : WW X 413 [some (.ref b), some (vr X.1 0), some (vr X.1 146), some (.int i)] [] M := by
  obtain ⟨v, M1, M2, f1, f2, T2⟩ := (show STEP (fX10_letter 0 (xs (i + nI 1).toNatClampNeg) (xs (i + nI 2).toNatClampNeg)) (fX11_letter 146 (xs (i + nI 1).toNatClampNeg) (xs (i + nI 2).toNatClampNeg)) from s_letter) M hT
  refine r_aload_n (pc := 413) C dL_law_413 rfl rfl ?_
  refine r_xld_n (pc := 414) C dL_law_414 rfl rfl rfl ?_
  refine r_iload_n (pc := 415) C dL_law_415 rfl rfl ?_
  refine r_iconst (pc := 416) (v := nI 1) C dL_law_416 (by decide) ?_
  refine r_iadd (pc := 417) C dL_law_417 ?_
  refine r_scld (pc := 418) C hS (h5 1 (by decide)) dL_law_418 ?_
  refine r_xld_n (pc := 419) C dL_law_419 rfl rfl rfl ?_
  refine r_iload_n (pc := 420) C dL_law_420 rfl rfl ?_
  refine r_iconst (pc := 421) (v := nI 2) C dL_law_421 (by decide) ?_
  refine r_iadd (pc := 422) C dL_law_422 ?_
  refine r_scld (pc := 423) C hS (h5 2 (by decide)) dL_law_423 ?_
  refine r_vI2 (pc := 424) (o := fX10_letter 0 (xs (i + nI 1).toNatClampNeg) (xs (i + nI 2).toNatClampNeg) M) (F := fun r M' => some (r, M')) (z := (v, M1)) C (fun r M' e => zX10_letter X.1 0 rfl (xs (i + nI 1).toNatClampNeg) (xs (i + nI 2).toNatClampNeg) M r M' e) rfl (by decide) rfl mX10_letter lL_36 (by decide) (Nat.le_of_ble_eq_true rfl) dL_law_424 (by rw [f1]; rfl) (fun r M' e => ?_)
  cases e
  refine r_aload_n (pc := 427) C dL_law_427 rfl rfl ?_
  refine r_xld_n (pc := 428) C dL_law_428 rfl rfl rfl ?_
  refine r_iload_n (pc := 429) C dL_law_429 rfl rfl ?_
  refine r_iconst (pc := 430) (v := nI 1) C dL_law_430 (by decide) ?_
  refine r_iadd (pc := 431) C dL_law_431 ?_
  refine r_scld (pc := 432) C hS (h5 1 (by decide)) dL_law_432 ?_
  refine r_xld_n (pc := 433) C dL_law_433 rfl rfl rfl ?_
  refine r_iload_n (pc := 434) C dL_law_434 rfl rfl ?_
  refine r_iconst (pc := 435) (v := nI 2) C dL_law_435 (by decide) ?_
  refine r_iadd (pc := 436) C dL_law_436 ?_
  refine r_scld (pc := 437) C hS (h5 2 (by decide)) dL_law_437 ?_
  refine r_vI2 (pc := 438) (o := fX11_letter 146 (xs (i + nI 1).toNatClampNeg) (xs (i + nI 2).toNatClampNeg) M1) (F := fun r M' => some (r, M')) (z := (v, M2)) C (fun r M' e => zX11_letter X.1 146 rfl (xs (i + nI 1).toNatClampNeg) (xs (i + nI 2).toNatClampNeg) M1 r M' e) rfl (by decide) rfl mX11_letter lL_40 (by decide) (Nat.le_of_ble_eq_true rfl) dL_law_438 (by rw [f2]; rfl) (fun r M' e => ?_)
  cases e
  exact r_icmp_eq (pc := 441) (tgt := 1933) (A := some ()) (B := none) (r := ()) C dL_law_441 (by decide) (if_pos rfl) (fun _ _ => kk M2 T2) (fun _ h => absurd h (by simp))
theorem dL_law_446 : decode cL_law 446 = .ok (.aload_n 1, 1) := by decide +kernel
theorem dL_law_447 : decode cL_law 447 = .ok (.aload_n 0, 1) := by decide +kernel
theorem dL_law_448 : decode cL_law 448 = .ok (.iload_n 3, 1) := by decide +kernel
theorem dL_law_449 : decode cL_law 449 = .ok (.iconst 1, 1) := by decide +kernel
theorem dL_law_450 : decode cL_law 450 = .ok (.iadd, 1) := by decide +kernel
theorem dL_law_451 : decode cL_law 451 = .ok (.iaload, 1) := by decide +kernel
theorem dL_law_452 : decode cL_law 452 = .ok (.aload_n 0, 1) := by decide +kernel
theorem dL_law_453 : decode cL_law 453 = .ok (.iload_n 3, 1) := by decide +kernel
theorem dL_law_454 : decode cL_law 454 = .ok (.iconst 2, 1) := by decide +kernel
theorem dL_law_455 : decode cL_law 455 = .ok (.iadd, 1) := by decide +kernel
theorem dL_law_456 : decode cL_law 456 = .ok (.iaload, 1) := by decide +kernel
theorem dL_law_457 : decode cL_law 457 = .ok (.invokevirtual 41, 3) := by decide +kernel
theorem dL_law_460 : decode cL_law 460 = .ok (.aload_n 2, 1) := by decide +kernel
theorem dL_law_461 : decode cL_law 461 = .ok (.aload_n 0, 1) := by decide +kernel
theorem dL_law_462 : decode cL_law 462 = .ok (.iload_n 3, 1) := by decide +kernel
theorem dL_law_463 : decode cL_law 463 = .ok (.iconst 1, 1) := by decide +kernel
theorem dL_law_464 : decode cL_law 464 = .ok (.iadd, 1) := by decide +kernel
theorem dL_law_465 : decode cL_law 465 = .ok (.iaload, 1) := by decide +kernel
theorem dL_law_466 : decode cL_law 466 = .ok (.aload_n 0, 1) := by decide +kernel
theorem dL_law_467 : decode cL_law 467 = .ok (.iload_n 3, 1) := by decide +kernel
theorem dL_law_468 : decode cL_law 468 = .ok (.iconst 2, 1) := by decide +kernel
theorem dL_law_469 : decode cL_law 469 = .ok (.iadd, 1) := by decide +kernel
theorem dL_law_470 : decode cL_law 470 = .ok (.iaload, 1) := by decide +kernel
theorem dL_law_471 : decode cL_law 471 = .ok (.invokevirtual 44, 3) := by decide +kernel
theorem dL_law_474 : decode cL_law 474 = .ok (.if_icmp .eq 1459, 3) := by decide +kernel
theorem lawc_6 {X : xCX} {b L : Nat} {xs : Nat → Int32} {i : Int32} {M : xMem} (C : xCk X cL_law RL 16) (hS : xSc X b L xs) (h5 : ∀ j, j < 6 → vp_in (i + nI j) L) (hT : TOP M) (kk : ∀ M', TOP M' → WW X 1933 [some (.ref b), some (vr X.1 0), some (vr X.1 146), some (.int i)] [] M') : WW X 446 [some (.ref b), some (vr X.1 0), some (vr X.1 146), some (.int i)] [] M := by
  obtain ⟨v, M1, M2, f1, f2, T2⟩ := (show STEP (fX10_shirt 0 (xs (i + nI 1).toNatClampNeg) (xs (i + nI 2).toNatClampNeg)) (fX11_shirt 146 (xs (i + nI 1).toNatClampNeg) (xs (i + nI 2).toNatClampNeg)) from s_shirt) M hT
  refine r_aload_n (pc := 446) C dL_law_446 rfl rfl ?_
  refine r_xld_n (pc := 447) C dL_law_447 rfl rfl rfl ?_
  refine r_iload_n (pc := 448) C dL_law_448 rfl rfl ?_
  refine r_iconst (pc := 449) (v := nI 1) C dL_law_449 (by decide) ?_
  refine r_iadd (pc := 450) C dL_law_450 ?_
  refine r_scld (pc := 451) C hS (h5 1 (by decide)) dL_law_451 ?_
  refine r_xld_n (pc := 452) C dL_law_452 rfl rfl rfl ?_
  refine r_iload_n (pc := 453) C dL_law_453 rfl rfl ?_
  refine r_iconst (pc := 454) (v := nI 2) C dL_law_454 (by decide) ?_
  refine r_iadd (pc := 455) C dL_law_455 ?_
  refine r_scld (pc := 456) C hS (h5 2 (by decide)) dL_law_456 ?_
  refine r_vI2 (pc := 457) (o := fX10_shirt 0 (xs (i + nI 1).toNatClampNeg) (xs (i + nI 2).toNatClampNeg) M) (F := fun r M' => some (r, M')) (z := (v, M1)) C (fun r M' e => zX10_shirt X.1 0 rfl (xs (i + nI 1).toNatClampNeg) (xs (i + nI 2).toNatClampNeg) M r M' e) rfl (by decide) rfl mX10_shirt lL_41 (by decide) (Nat.le_of_ble_eq_true rfl) dL_law_457 (by rw [f1]; rfl) (fun r M' e => ?_)
  cases e
  refine r_aload_n (pc := 460) C dL_law_460 rfl rfl ?_
  refine r_xld_n (pc := 461) C dL_law_461 rfl rfl rfl ?_
  refine r_iload_n (pc := 462) C dL_law_462 rfl rfl ?_
  refine r_iconst (pc := 463) (v := nI 1) C dL_law_463 (by decide) ?_
  refine r_iadd (pc := 464) C dL_law_464 ?_
  refine r_scld (pc := 465) C hS (h5 1 (by decide)) dL_law_465 ?_
  refine r_xld_n (pc := 466) C dL_law_466 rfl rfl rfl ?_
  refine r_iload_n (pc := 467) C dL_law_467 rfl rfl ?_
  refine r_iconst (pc := 468) (v := nI 2) C dL_law_468 (by decide) ?_
  refine r_iadd (pc := 469) C dL_law_469 ?_
  refine r_scld (pc := 470) C hS (h5 2 (by decide)) dL_law_470 ?_
  refine r_vI2 (pc := 471) (o := fX11_shirt 146 (xs (i + nI 1).toNatClampNeg) (xs (i + nI 2).toNatClampNeg) M1) (F := fun r M' => some (r, M')) (z := (v, M2)) C (fun r M' e => zX11_shirt X.1 146 rfl (xs (i + nI 1).toNatClampNeg) (xs (i + nI 2).toNatClampNeg) M1 r M' e) rfl (by decide) rfl mX11_shirt lL_44 (by decide) (Nat.le_of_ble_eq_true rfl) dL_law_471 (by rw [f2]; rfl) (fun r M' e => ?_)
  cases e
  exact r_icmp_eq (pc := 474) (tgt := 1933) (A := some ()) (B := none) (r := ()) C dL_law_474 (by decide) (if_pos rfl) (fun _ _ => kk M2 T2) (fun _ h => absurd h (by simp))
theorem dL_law_479 : decode cL_law 479 = .ok (.aload_n 1, 1) := by decide +kernel
theorem dL_law_480 : decode cL_law 480 = .ok (.aload_n 0, 1) := by decide +kernel
theorem dL_law_481 : decode cL_law 481 = .ok (.iload_n 3, 1) := by decide +kernel
theorem dL_law_482 : decode cL_law 482 = .ok (.iconst 1, 1) := by decide +kernel
theorem dL_law_483 : decode cL_law 483 = .ok (.iadd, 1) := by decide +kernel
theorem dL_law_484 : decode cL_law 484 = .ok (.iaload, 1) := by decide +kernel
theorem dL_law_485 : decode cL_law 485 = .ok (.aload_n 0, 1) := by decide +kernel
theorem dL_law_486 : decode cL_law 486 = .ok (.iload_n 3, 1) := by decide +kernel
theorem dL_law_487 : decode cL_law 487 = .ok (.iconst 2, 1) := by decide +kernel
theorem dL_law_488 : decode cL_law 488 = .ok (.iadd, 1) := by decide +kernel
theorem dL_law_489 : decode cL_law 489 = .ok (.iaload, 1) := by decide +kernel
theorem dL_law_490 : decode cL_law 490 = .ok (.invokevirtual 45, 3) := by decide +kernel
theorem dL_law_493 : decode cL_law 493 = .ok (.aload_n 2, 1) := by decide +kernel
theorem dL_law_494 : decode cL_law 494 = .ok (.aload_n 0, 1) := by decide +kernel
theorem dL_law_495 : decode cL_law 495 = .ok (.iload_n 3, 1) := by decide +kernel
theorem dL_law_496 : decode cL_law 496 = .ok (.iconst 1, 1) := by decide +kernel
theorem dL_law_497 : decode cL_law 497 = .ok (.iadd, 1) := by decide +kernel
theorem dL_law_498 : decode cL_law 498 = .ok (.iaload, 1) := by decide +kernel
theorem dL_law_499 : decode cL_law 499 = .ok (.aload_n 0, 1) := by decide +kernel
theorem dL_law_500 : decode cL_law 500 = .ok (.iload_n 3, 1) := by decide +kernel
theorem dL_law_501 : decode cL_law 501 = .ok (.iconst 2, 1) := by decide +kernel
theorem dL_law_502 : decode cL_law 502 = .ok (.iadd, 1) := by decide +kernel
theorem dL_law_503 : decode cL_law 503 = .ok (.iaload, 1) := by decide +kernel
theorem dL_law_504 : decode cL_law 504 = .ok (.invokevirtual 48, 3) := by decide +kernel
theorem dL_law_507 : decode cL_law 507 = .ok (.if_icmp .eq 1426, 3) := by decide +kernel
theorem lawc_7 {X : xCX} {b L : Nat} {xs : Nat → Int32} {i : Int32} {M : xMem} (C : xCk X cL_law RL 16) (hS : xSc X b L xs) (h5 : ∀ j, j < 6 → vp_in (i + nI j) L) (hT : TOP M) (kk : ∀ M', TOP M' → WW X 1933 [some (.ref b), some (vr X.1 0), some (vr X.1 146), some (.int i)] [] M') : WW X 479 [some (.ref b), some (vr X.1 0), some (vr X.1 146), some (.int i)] [] M := by
  obtain ⟨v, M1, M2, f1, f2, T2⟩ := (show STEP (fX10_who 0 (xs (i + nI 1).toNatClampNeg) (xs (i + nI 2).toNatClampNeg)) (fX11_who 146 (xs (i + nI 1).toNatClampNeg) (xs (i + nI 2).toNatClampNeg)) from s_who) M hT
  refine r_aload_n (pc := 479) C dL_law_479 rfl rfl ?_
  refine r_xld_n (pc := 480) C dL_law_480 rfl rfl rfl ?_
  refine r_iload_n (pc := 481) C dL_law_481 rfl rfl ?_
  refine r_iconst (pc := 482) (v := nI 1) C dL_law_482 (by decide) ?_
  refine r_iadd (pc := 483) C dL_law_483 ?_
  refine r_scld (pc := 484) C hS (h5 1 (by decide)) dL_law_484 ?_
  refine r_xld_n (pc := 485) C dL_law_485 rfl rfl rfl ?_
  refine r_iload_n (pc := 486) C dL_law_486 rfl rfl ?_
  refine r_iconst (pc := 487) (v := nI 2) C dL_law_487 (by decide) ?_
  refine r_iadd (pc := 488) C dL_law_488 ?_
  refine r_scld (pc := 489) C hS (h5 2 (by decide)) dL_law_489 ?_
  refine r_vI2 (pc := 490) (o := fX10_who 0 (xs (i + nI 1).toNatClampNeg) (xs (i + nI 2).toNatClampNeg) M) (F := fun r M' => some (r, M')) (z := (v, M1)) C (fun r M' e => zX10_who X.1 0 rfl (xs (i + nI 1).toNatClampNeg) (xs (i + nI 2).toNatClampNeg) M r M' e) rfl (by decide) rfl mX10_who lL_45 (by decide) (Nat.le_of_ble_eq_true rfl) dL_law_490 (by rw [f1]; rfl) (fun r M' e => ?_)
  cases e
  refine r_aload_n (pc := 493) C dL_law_493 rfl rfl ?_
  refine r_xld_n (pc := 494) C dL_law_494 rfl rfl rfl ?_
  refine r_iload_n (pc := 495) C dL_law_495 rfl rfl ?_
  refine r_iconst (pc := 496) (v := nI 1) C dL_law_496 (by decide) ?_
  refine r_iadd (pc := 497) C dL_law_497 ?_
  refine r_scld (pc := 498) C hS (h5 1 (by decide)) dL_law_498 ?_
  refine r_xld_n (pc := 499) C dL_law_499 rfl rfl rfl ?_
  refine r_iload_n (pc := 500) C dL_law_500 rfl rfl ?_
  refine r_iconst (pc := 501) (v := nI 2) C dL_law_501 (by decide) ?_
  refine r_iadd (pc := 502) C dL_law_502 ?_
  refine r_scld (pc := 503) C hS (h5 2 (by decide)) dL_law_503 ?_
  refine r_vI2 (pc := 504) (o := fX11_who 146 (xs (i + nI 1).toNatClampNeg) (xs (i + nI 2).toNatClampNeg) M1) (F := fun r M' => some (r, M')) (z := (v, M2)) C (fun r M' e => zX11_who X.1 146 rfl (xs (i + nI 1).toNatClampNeg) (xs (i + nI 2).toNatClampNeg) M1 r M' e) rfl (by decide) rfl mX11_who lL_48 (by decide) (Nat.le_of_ble_eq_true rfl) dL_law_504 (by rw [f2]; rfl) (fun r M' e => ?_)
  cases e
  exact r_icmp_eq (pc := 507) (tgt := 1933) (A := some ()) (B := none) (r := ()) C dL_law_507 (by decide) (if_pos rfl) (fun _ _ => kk M2 T2) (fun _ h => absurd h (by simp))
theorem dL_law_512 : decode cL_law 512 = .ok (.aload_n 1, 1) := by decide +kernel
theorem dL_law_513 : decode cL_law 513 = .ok (.aload_n 0, 1) := by decide +kernel
theorem dL_law_514 : decode cL_law 514 = .ok (.iload_n 3, 1) := by decide +kernel
theorem dL_law_515 : decode cL_law 515 = .ok (.iconst 1, 1) := by decide +kernel
theorem dL_law_516 : decode cL_law 516 = .ok (.iadd, 1) := by decide +kernel
theorem dL_law_517 : decode cL_law 517 = .ok (.iaload, 1) := by decide +kernel
theorem dL_law_518 : decode cL_law 518 = .ok (.aload_n 0, 1) := by decide +kernel
theorem dL_law_519 : decode cL_law 519 = .ok (.iload_n 3, 1) := by decide +kernel
theorem dL_law_520 : decode cL_law 520 = .ok (.iconst 2, 1) := by decide +kernel
theorem dL_law_521 : decode cL_law 521 = .ok (.iadd, 1) := by decide +kernel
theorem dL_law_522 : decode cL_law 522 = .ok (.iaload, 1) := by decide +kernel
theorem dL_law_523 : decode cL_law 523 = .ok (.invokevirtual 49, 3) := by decide +kernel
theorem dL_law_526 : decode cL_law 526 = .ok (.aload_n 2, 1) := by decide +kernel
theorem dL_law_527 : decode cL_law 527 = .ok (.aload_n 0, 1) := by decide +kernel
theorem dL_law_528 : decode cL_law 528 = .ok (.iload_n 3, 1) := by decide +kernel
theorem dL_law_529 : decode cL_law 529 = .ok (.iconst 1, 1) := by decide +kernel
theorem dL_law_530 : decode cL_law 530 = .ok (.iadd, 1) := by decide +kernel
theorem dL_law_531 : decode cL_law 531 = .ok (.iaload, 1) := by decide +kernel
theorem dL_law_532 : decode cL_law 532 = .ok (.aload_n 0, 1) := by decide +kernel
theorem dL_law_533 : decode cL_law 533 = .ok (.iload_n 3, 1) := by decide +kernel
theorem dL_law_534 : decode cL_law 534 = .ok (.iconst 2, 1) := by decide +kernel
theorem dL_law_535 : decode cL_law 535 = .ok (.iadd, 1) := by decide +kernel
theorem dL_law_536 : decode cL_law 536 = .ok (.iaload, 1) := by decide +kernel
theorem dL_law_537 : decode cL_law 537 = .ok (.invokevirtual 52, 3) := by decide +kernel
theorem dL_law_540 : decode cL_law 540 = .ok (.if_icmp .eq 1393, 3) := by decide +kernel
theorem lawc_8 {X : xCX} {b L : Nat} {xs : Nat → Int32} {i : Int32} {M : xMem} (C : xCk X cL_law RL 16) (hS : xSc X b L xs) (h5 : ∀ j, j < 6 → vp_in (i + nI j) L) (hT : TOP M) (kk : ∀ M', TOP M' → WW X 1933 [some (.ref b), some (vr X.1 0), some (vr X.1 146), some (.int i)] [] M') : WW X 512 [some (.ref b), some (vr X.1 0), some (vr X.1 146), some (.int i)] [] M := by
  obtain ⟨v, M1, M2, f1, f2, T2⟩ := (show STEP (fX10_is 0 (xs (i + nI 1).toNatClampNeg) (xs (i + nI 2).toNatClampNeg)) (fX11_is 146 (xs (i + nI 1).toNatClampNeg) (xs (i + nI 2).toNatClampNeg)) from s_is) M hT
  refine r_aload_n (pc := 512) C dL_law_512 rfl rfl ?_
  refine r_xld_n (pc := 513) C dL_law_513 rfl rfl rfl ?_
  refine r_iload_n (pc := 514) C dL_law_514 rfl rfl ?_
  refine r_iconst (pc := 515) (v := nI 1) C dL_law_515 (by decide) ?_
  refine r_iadd (pc := 516) C dL_law_516 ?_
  refine r_scld (pc := 517) C hS (h5 1 (by decide)) dL_law_517 ?_
  refine r_xld_n (pc := 518) C dL_law_518 rfl rfl rfl ?_
  refine r_iload_n (pc := 519) C dL_law_519 rfl rfl ?_
  refine r_iconst (pc := 520) (v := nI 2) C dL_law_520 (by decide) ?_
  refine r_iadd (pc := 521) C dL_law_521 ?_
  refine r_scld (pc := 522) C hS (h5 2 (by decide)) dL_law_522 ?_
  refine r_vI2 (pc := 523) (o := fX10_is 0 (xs (i + nI 1).toNatClampNeg) (xs (i + nI 2).toNatClampNeg) M) (F := fun r M' => some (r, M')) (z := (v, M1)) C (fun r M' e => zX10_is X.1 0 rfl (xs (i + nI 1).toNatClampNeg) (xs (i + nI 2).toNatClampNeg) M r M' e) rfl (by decide) rfl mX10_is lL_49 (by decide) (Nat.le_of_ble_eq_true rfl) dL_law_523 (by rw [f1]; rfl) (fun r M' e => ?_)
  cases e
  refine r_aload_n (pc := 526) C dL_law_526 rfl rfl ?_
  refine r_xld_n (pc := 527) C dL_law_527 rfl rfl rfl ?_
  refine r_iload_n (pc := 528) C dL_law_528 rfl rfl ?_
  refine r_iconst (pc := 529) (v := nI 1) C dL_law_529 (by decide) ?_
  refine r_iadd (pc := 530) C dL_law_530 ?_
  refine r_scld (pc := 531) C hS (h5 1 (by decide)) dL_law_531 ?_
  refine r_xld_n (pc := 532) C dL_law_532 rfl rfl rfl ?_
  refine r_iload_n (pc := 533) C dL_law_533 rfl rfl ?_
  refine r_iconst (pc := 534) (v := nI 2) C dL_law_534 (by decide) ?_
  refine r_iadd (pc := 535) C dL_law_535 ?_
  refine r_scld (pc := 536) C hS (h5 2 (by decide)) dL_law_536 ?_
  refine r_vI2 (pc := 537) (o := fX11_is 146 (xs (i + nI 1).toNatClampNeg) (xs (i + nI 2).toNatClampNeg) M1) (F := fun r M' => some (r, M')) (z := (v, M2)) C (fun r M' e => zX11_is X.1 146 rfl (xs (i + nI 1).toNatClampNeg) (xs (i + nI 2).toNatClampNeg) M1 r M' e) rfl (by decide) rfl mX11_is lL_52 (by decide) (Nat.le_of_ble_eq_true rfl) dL_law_537 (by rw [f2]; rfl) (fun r M' e => ?_)
  cases e
  exact r_icmp_eq (pc := 540) (tgt := 1933) (A := some ()) (B := none) (r := ()) C dL_law_540 (by decide) (if_pos rfl) (fun _ _ => kk M2 T2) (fun _ h => absurd h (by simp))
theorem dL_law_545 : decode cL_law 545 = .ok (.aload_n 1, 1) := by decide +kernel
theorem dL_law_546 : decode cL_law 546 = .ok (.aload_n 0, 1) := by decide +kernel
theorem dL_law_547 : decode cL_law 547 = .ok (.iload_n 3, 1) := by decide +kernel
theorem dL_law_548 : decode cL_law 548 = .ok (.iconst 1, 1) := by decide +kernel
theorem dL_law_549 : decode cL_law 549 = .ok (.iadd, 1) := by decide +kernel
theorem dL_law_550 : decode cL_law 550 = .ok (.iaload, 1) := by decide +kernel
theorem dL_law_551 : decode cL_law 551 = .ok (.aload_n 0, 1) := by decide +kernel
theorem dL_law_552 : decode cL_law 552 = .ok (.iload_n 3, 1) := by decide +kernel
theorem dL_law_553 : decode cL_law 553 = .ok (.iconst 2, 1) := by decide +kernel
theorem dL_law_554 : decode cL_law 554 = .ok (.iadd, 1) := by decide +kernel
theorem dL_law_555 : decode cL_law 555 = .ok (.iaload, 1) := by decide +kernel
theorem dL_law_556 : decode cL_law 556 = .ok (.invokevirtual 53, 3) := by decide +kernel
theorem dL_law_559 : decode cL_law 559 = .ok (.aload_n 2, 1) := by decide +kernel
theorem dL_law_560 : decode cL_law 560 = .ok (.aload_n 0, 1) := by decide +kernel
theorem dL_law_561 : decode cL_law 561 = .ok (.iload_n 3, 1) := by decide +kernel
theorem dL_law_562 : decode cL_law 562 = .ok (.iconst 1, 1) := by decide +kernel
theorem dL_law_563 : decode cL_law 563 = .ok (.iadd, 1) := by decide +kernel
theorem dL_law_564 : decode cL_law 564 = .ok (.iaload, 1) := by decide +kernel
theorem dL_law_565 : decode cL_law 565 = .ok (.aload_n 0, 1) := by decide +kernel
theorem dL_law_566 : decode cL_law 566 = .ok (.iload_n 3, 1) := by decide +kernel
theorem dL_law_567 : decode cL_law 567 = .ok (.iconst 2, 1) := by decide +kernel
theorem dL_law_568 : decode cL_law 568 = .ok (.iadd, 1) := by decide +kernel
theorem dL_law_569 : decode cL_law 569 = .ok (.iaload, 1) := by decide +kernel
theorem dL_law_570 : decode cL_law 570 = .ok (.invokevirtual 56, 3) := by decide +kernel
theorem dL_law_573 : decode cL_law 573 = .ok (.if_icmp .eq 1360, 3) := by decide +kernel
theorem lawc_9 {X : xCX} {b L : Nat} {xs : Nat → Int32} {i : Int32} {M : xMem} (C : xCk X cL_law RL 16) (hS : xSc X b L xs) (h5 : ∀ j, j < 6 → vp_in (i + nI j) L) (hT : TOP M) (kk : ∀ M', TOP M' → WW X 1933 [some (.ref b), some (vr X.1 0), some (vr X.1 146), some (.int i)] [] M') : WW X 545 [some (.ref b), some (vr X.1 0), some (vr X.1 146), some (.int i)] [] M := by
  obtain ⟨v, M1, M2, f1, f2, T2⟩ := (show STEP (fX10_those 0 (xs (i + nI 1).toNatClampNeg) (xs (i + nI 2).toNatClampNeg)) (fX11_those 146 (xs (i + nI 1).toNatClampNeg) (xs (i + nI 2).toNatClampNeg)) from s_those) M hT
  refine r_aload_n (pc := 545) C dL_law_545 rfl rfl ?_
  refine r_xld_n (pc := 546) C dL_law_546 rfl rfl rfl ?_
  refine r_iload_n (pc := 547) C dL_law_547 rfl rfl ?_
  refine r_iconst (pc := 548) (v := nI 1) C dL_law_548 (by decide) ?_
  refine r_iadd (pc := 549) C dL_law_549 ?_
  refine r_scld (pc := 550) C hS (h5 1 (by decide)) dL_law_550 ?_
  refine r_xld_n (pc := 551) C dL_law_551 rfl rfl rfl ?_
  refine r_iload_n (pc := 552) C dL_law_552 rfl rfl ?_
  refine r_iconst (pc := 553) (v := nI 2) C dL_law_553 (by decide) ?_
  refine r_iadd (pc := 554) C dL_law_554 ?_
  refine r_scld (pc := 555) C hS (h5 2 (by decide)) dL_law_555 ?_
  refine r_vI2 (pc := 556) (o := fX10_those 0 (xs (i + nI 1).toNatClampNeg) (xs (i + nI 2).toNatClampNeg) M) (F := fun r M' => some (r, M')) (z := (v, M1)) C (fun r M' e => zX10_those X.1 0 rfl (xs (i + nI 1).toNatClampNeg) (xs (i + nI 2).toNatClampNeg) M r M' e) rfl (by decide) rfl mX10_those lL_53 (by decide) (Nat.le_of_ble_eq_true rfl) dL_law_556 (by rw [f1]; rfl) (fun r M' e => ?_)
  cases e
  refine r_aload_n (pc := 559) C dL_law_559 rfl rfl ?_
  refine r_xld_n (pc := 560) C dL_law_560 rfl rfl rfl ?_
  refine r_iload_n (pc := 561) C dL_law_561 rfl rfl ?_
  refine r_iconst (pc := 562) (v := nI 1) C dL_law_562 (by decide) ?_
  refine r_iadd (pc := 563) C dL_law_563 ?_
  refine r_scld (pc := 564) C hS (h5 1 (by decide)) dL_law_564 ?_
  refine r_xld_n (pc := 565) C dL_law_565 rfl rfl rfl ?_
  refine r_iload_n (pc := 566) C dL_law_566 rfl rfl ?_
  refine r_iconst (pc := 567) (v := nI 2) C dL_law_567 (by decide) ?_
  refine r_iadd (pc := 568) C dL_law_568 ?_
  refine r_scld (pc := 569) C hS (h5 2 (by decide)) dL_law_569 ?_
  refine r_vI2 (pc := 570) (o := fX11_those 146 (xs (i + nI 1).toNatClampNeg) (xs (i + nI 2).toNatClampNeg) M1) (F := fun r M' => some (r, M')) (z := (v, M2)) C (fun r M' e => zX11_those X.1 146 rfl (xs (i + nI 1).toNatClampNeg) (xs (i + nI 2).toNatClampNeg) M1 r M' e) rfl (by decide) rfl mX11_those lL_56 (by decide) (Nat.le_of_ble_eq_true rfl) dL_law_570 (by rw [f2]; rfl) (fun r M' e => ?_)
  cases e
  exact r_icmp_eq (pc := 573) (tgt := 1933) (A := some ()) (B := none) (r := ()) C dL_law_573 (by decide) (if_pos rfl) (fun _ _ => kk M2 T2) (fun _ h => absurd h (by simp))
theorem dL_law_578 : decode cL_law 578 = .ok (.aload_n 1, 1) := by decide +kernel
theorem dL_law_579 : decode cL_law 579 = .ok (.aload_n 0, 1) := by decide +kernel
theorem dL_law_580 : decode cL_law 580 = .ok (.iload_n 3, 1) := by decide +kernel
theorem dL_law_581 : decode cL_law 581 = .ok (.iconst 1, 1) := by decide +kernel
theorem dL_law_582 : decode cL_law 582 = .ok (.iadd, 1) := by decide +kernel
theorem dL_law_583 : decode cL_law 583 = .ok (.iaload, 1) := by decide +kernel
theorem dL_law_584 : decode cL_law 584 = .ok (.aload_n 0, 1) := by decide +kernel
theorem dL_law_585 : decode cL_law 585 = .ok (.iload_n 3, 1) := by decide +kernel
theorem dL_law_586 : decode cL_law 586 = .ok (.iconst 2, 1) := by decide +kernel
theorem dL_law_587 : decode cL_law 587 = .ok (.iadd, 1) := by decide +kernel
theorem dL_law_588 : decode cL_law 588 = .ok (.iaload, 1) := by decide +kernel
theorem dL_law_589 : decode cL_law 589 = .ok (.invokevirtual 57, 3) := by decide +kernel
theorem dL_law_592 : decode cL_law 592 = .ok (.aload_n 2, 1) := by decide +kernel
theorem dL_law_593 : decode cL_law 593 = .ok (.aload_n 0, 1) := by decide +kernel
theorem dL_law_594 : decode cL_law 594 = .ok (.iload_n 3, 1) := by decide +kernel
theorem dL_law_595 : decode cL_law 595 = .ok (.iconst 1, 1) := by decide +kernel
theorem dL_law_596 : decode cL_law 596 = .ok (.iadd, 1) := by decide +kernel
theorem dL_law_597 : decode cL_law 597 = .ok (.iaload, 1) := by decide +kernel
theorem dL_law_598 : decode cL_law 598 = .ok (.aload_n 0, 1) := by decide +kernel
theorem dL_law_599 : decode cL_law 599 = .ok (.iload_n 3, 1) := by decide +kernel
theorem dL_law_600 : decode cL_law 600 = .ok (.iconst 2, 1) := by decide +kernel
theorem dL_law_601 : decode cL_law 601 = .ok (.iadd, 1) := by decide +kernel
theorem dL_law_602 : decode cL_law 602 = .ok (.iaload, 1) := by decide +kernel
theorem dL_law_603 : decode cL_law 603 = .ok (.invokevirtual 60, 3) := by decide +kernel
theorem dL_law_606 : decode cL_law 606 = .ok (.if_icmp .eq 1327, 3) := by decide +kernel
theorem lawc_10 {X : xCX} {b L : Nat} {xs : Nat → Int32} {i : Int32} {M : xMem} (C : xCk X cL_law RL 16) (hS : xSc X b L xs) (h5 : ∀ j, j < 6 → vp_in (i + nI j) L) (hT : TOP M) (kk : ∀ M', TOP M' → WW X 1933 [some (.ref b), some (vr X.1 0), some (vr X.1 146), some (.int i)] [] M') : WW X 578 [some (.ref b), some (vr X.1 0), some (vr X.1 146), some (.int i)] [] M := by
  obtain ⟨v, M1, M2, f1, f2, T2⟩ := (show STEP (fX10_outs 0 (xs (i + nI 1).toNatClampNeg) (xs (i + nI 2).toNatClampNeg)) (fX11_outs 146 (xs (i + nI 1).toNatClampNeg) (xs (i + nI 2).toNatClampNeg)) from s_outs) M hT
  refine r_aload_n (pc := 578) C dL_law_578 rfl rfl ?_
  refine r_xld_n (pc := 579) C dL_law_579 rfl rfl rfl ?_
  refine r_iload_n (pc := 580) C dL_law_580 rfl rfl ?_
  refine r_iconst (pc := 581) (v := nI 1) C dL_law_581 (by decide) ?_
  refine r_iadd (pc := 582) C dL_law_582 ?_
  refine r_scld (pc := 583) C hS (h5 1 (by decide)) dL_law_583 ?_
  refine r_xld_n (pc := 584) C dL_law_584 rfl rfl rfl ?_
  refine r_iload_n (pc := 585) C dL_law_585 rfl rfl ?_
  refine r_iconst (pc := 586) (v := nI 2) C dL_law_586 (by decide) ?_
  refine r_iadd (pc := 587) C dL_law_587 ?_
  refine r_scld (pc := 588) C hS (h5 2 (by decide)) dL_law_588 ?_
  refine r_vI2 (pc := 589) (o := fX10_outs 0 (xs (i + nI 1).toNatClampNeg) (xs (i + nI 2).toNatClampNeg) M) (F := fun r M' => some (r, M')) (z := (v, M1)) C (fun r M' e => zX10_outs X.1 0 rfl (xs (i + nI 1).toNatClampNeg) (xs (i + nI 2).toNatClampNeg) M r M' e) rfl (by decide) rfl mX10_outs lL_57 (by decide) (Nat.le_of_ble_eq_true rfl) dL_law_589 (by rw [f1]; rfl) (fun r M' e => ?_)
  cases e
  refine r_aload_n (pc := 592) C dL_law_592 rfl rfl ?_
  refine r_xld_n (pc := 593) C dL_law_593 rfl rfl rfl ?_
  refine r_iload_n (pc := 594) C dL_law_594 rfl rfl ?_
  refine r_iconst (pc := 595) (v := nI 1) C dL_law_595 (by decide) ?_
  refine r_iadd (pc := 596) C dL_law_596 ?_
  refine r_scld (pc := 597) C hS (h5 1 (by decide)) dL_law_597 ?_
  refine r_xld_n (pc := 598) C dL_law_598 rfl rfl rfl ?_
  refine r_iload_n (pc := 599) C dL_law_599 rfl rfl ?_
  refine r_iconst (pc := 600) (v := nI 2) C dL_law_600 (by decide) ?_
  refine r_iadd (pc := 601) C dL_law_601 ?_
  refine r_scld (pc := 602) C hS (h5 2 (by decide)) dL_law_602 ?_
  refine r_vI2 (pc := 603) (o := fX11_outs 146 (xs (i + nI 1).toNatClampNeg) (xs (i + nI 2).toNatClampNeg) M1) (F := fun r M' => some (r, M')) (z := (v, M2)) C (fun r M' e => zX11_outs X.1 146 rfl (xs (i + nI 1).toNatClampNeg) (xs (i + nI 2).toNatClampNeg) M1 r M' e) rfl (by decide) rfl mX11_outs lL_60 (by decide) (Nat.le_of_ble_eq_true rfl) dL_law_603 (by rw [f2]; rfl) (fun r M' e => ?_)
  cases e
  exact r_icmp_eq (pc := 606) (tgt := 1933) (A := some ()) (B := none) (r := ()) C dL_law_606 (by decide) (if_pos rfl) (fun _ _ => kk M2 T2) (fun _ h => absurd h (by simp))
