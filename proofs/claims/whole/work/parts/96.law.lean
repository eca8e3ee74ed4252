/-! THE LAW, written by gen7.py -/
section LW
variable {X : vX} {d j pc : Nat} {st : List vV} {S : List vSh} {M : vM} {P : Option vV → vH → Prop} {i : Int} {Q : Option vV → vM → Prop}
theorem w_arg {n c : Int} (h0 : decode (vm_cd j) pc = .ok (.aload_n 0, 1)) (h1 : decode (vm_cd j) (pc + 1) = .ok (.iload_n 3, 1)) (h2 : decode (vm_cd j) (pc + 2) = .ok (.iconst n, 1)) (h3 : decode (vm_cd j) (pc + 3) = .ok (.iadd, 1)) (h4 : decode (vm_cd j) (pc + 4) = .ok (.iaload, 1)) (hv : (Int32.ofInt n).toInt = c) (hi : 0 ≤ i + c ∧ i + c < X.2) (hL : X.2 ≤ 3585) (k : wp X d j (pc + 5) [vR (-2), vR 0, vR 81, vI i] (vI (X.1 (i + c).toNat) :: st) (S, M) P) : wp X d j pc [vR (-2), vR 0, vR 81, vI i] st (S, M) P := by
  refine w_aload_n h0 rfl ?_
  refine w_iload_n h1 rfl ?_
  refine w_ic h2 hv ?_
  refine w_iadd h3 ?_
  rw [w32_id (show -2147483648 ≤ i + c by omega) (by omega)]
  exact w_sld h4 hi k
theorem w_arg6 {n c : Int} (h0 : decode (vm_cd j) pc = .ok (.aload_n 0, 1)) (h1 : decode (vm_cd j) (pc + 1) = .ok (.iload_n 3, 1)) (h2 : decode (vm_cd j) (pc + 2) = .ok (.bipush n, 2)) (h3 : decode (vm_cd j) (pc + 4) = .ok (.iadd, 1)) (h4 : decode (vm_cd j) (pc + 5) = .ok (.iaload, 1)) (hv : (Int8.ofInt n).toInt32.toInt = c) (hi : 0 ≤ i + c ∧ i + c < X.2) (hL : X.2 ≤ 3585) (k : wp X d j (pc + 6) [vR (-2), vR 0, vR 81, vI i] (vI (X.1 (i + c).toNat) :: st) (S, M) P) : wp X d j pc [vR (-2), vR 0, vR 81, vI i] st (S, M) P := by
  refine w_aload_n h0 rfl ?_
  refine w_iload_n h1 rfl ?_
  refine w_bi h2 hv ?_
  refine w_iadd h3 ?_
  rw [w32_id (show -2147483648 ≤ i + c by omega) (by omega)]
  exact w_sld h4 hi k
theorem j_lor_r (x y : Int) : -9223372036854775808 ≤ j_lor x y ∧ j_lor x y < 9223372036854775808 := ⟨Int64.le_toInt _, Int64.toInt_lt _⟩
theorem cd289 : vm_cd 289 = code := rfl
theorem d289_0 : decode (vm_cd 289) 0 = .ok (.new 7, 3) := (congrArg (fun b => decode b 0) cd289).trans (by decide +kernel)
theorem d289_3 : decode (vm_cd 289) 3 = .ok (.dup, 1) := (congrArg (fun b => decode b 3) cd289).trans (by decide +kernel)
theorem d289_4 : decode (vm_cd 289) 4 = .ok (.aload_n 0, 1) := (congrArg (fun b => decode b 4) cd289).trans (by decide +kernel)
theorem d289_5 : decode (vm_cd 289) 5 = .ok (.iconst 0, 1) := (congrArg (fun b => decode b 5) cd289).trans (by decide +kernel)
theorem d289_6 : decode (vm_cd 289) 6 = .ok (.invokestatic 9, 3) := (congrArg (fun b => decode b 6) cd289).trans (by decide +kernel)
theorem d289_9 : decode (vm_cd 289) 9 = .ok (.invokespecial 15, 3) := (congrArg (fun b => decode b 9) cd289).trans (by decide +kernel)
theorem d289_12 : decode (vm_cd 289) 12 = .ok (.astore_n 1, 1) := (congrArg (fun b => decode b 12) cd289).trans (by decide +kernel)
theorem d289_13 : decode (vm_cd 289) 13 = .ok (.new 18, 3) := (congrArg (fun b => decode b 13) cd289).trans (by decide +kernel)
theorem d289_16 : decode (vm_cd 289) 16 = .ok (.dup, 1) := (congrArg (fun b => decode b 16) cd289).trans (by decide +kernel)
theorem d289_17 : decode (vm_cd 289) 17 = .ok (.aload_n 0, 1) := (congrArg (fun b => decode b 17) cd289).trans (by decide +kernel)
theorem d289_18 : decode (vm_cd 289) 18 = .ok (.iconst 0, 1) := (congrArg (fun b => decode b 18) cd289).trans (by decide +kernel)
theorem d289_19 : decode (vm_cd 289) 19 = .ok (.invokestatic 9, 3) := (congrArg (fun b => decode b 19) cd289).trans (by decide +kernel)
theorem d289_22 : decode (vm_cd 289) 22 = .ok (.invokespecial 20, 3) := (congrArg (fun b => decode b 22) cd289).trans (by decide +kernel)
theorem d289_25 : decode (vm_cd 289) 25 = .ok (.astore_n 2, 1) := (congrArg (fun b => decode b 25) cd289).trans (by decide +kernel)
theorem d289_26 : decode (vm_cd 289) 26 = .ok (.iconst 1, 1) := (congrArg (fun b => decode b 26) cd289).trans (by decide +kernel)
theorem d289_27 : decode (vm_cd 289) 27 = .ok (.istore_n 3, 1) := (congrArg (fun b => decode b 27) cd289).trans (by decide +kernel)
theorem d289_28 : decode (vm_cd 289) 28 = .ok (.iload_n 3, 1) := (congrArg (fun b => decode b 28) cd289).trans (by decide +kernel)
theorem d289_29 : decode (vm_cd 289) 29 = .ok (.aload_n 0, 1) := (congrArg (fun b => decode b 29) cd289).trans (by decide +kernel)
theorem d289_30 : decode (vm_cd 289) 30 = .ok (.arraylength, 1) := (congrArg (fun b => decode b 30) cd289).trans (by decide +kernel)
theorem d289_31 : decode (vm_cd 289) 31 = .ok (.bipush 7, 2) := (congrArg (fun b => decode b 31) cd289).trans (by decide +kernel)
theorem d289_33 : decode (vm_cd 289) 33 = .ok (.isub, 1) := (congrArg (fun b => decode b 33) cd289).trans (by decide +kernel)
theorem d289_34 : decode (vm_cd 289) 34 = .ok (.if_icmp .gt 1858, 3) := (congrArg (fun b => decode b 34) cd289).trans (by decide +kernel)
theorem d289_37 : decode (vm_cd 289) 37 = .ok (.aload_n 0, 1) := (congrArg (fun b => decode b 37) cd289).trans (by decide +kernel)
theorem d289_38 : decode (vm_cd 289) 38 = .ok (.iload_n 3, 1) := (congrArg (fun b => decode b 38) cd289).trans (by decide +kernel)
theorem d289_39 : decode (vm_cd 289) 39 = .ok (.iaload, 1) := (congrArg (fun b => decode b 39) cd289).trans (by decide +kernel)
theorem d289_40 : decode (vm_cd 289) 40 = .ok (.bipush 63, 2) := (congrArg (fun b => decode b 40) cd289).trans (by decide +kernel)
theorem d289_42 : decode (vm_cd 289) 42 = .ok (.iand, 1) := (congrArg (fun b => decode b 42) cd289).trans (by decide +kernel)
theorem d289_43 : decode (vm_cd 289) 43 = .ok (.tableswitch 1843 0 46 #[201, 224, 257, 300, 333, 356, 389, 423, 446, 479, 533, 587, 610, 644, 698, 731, 794, 869, 932, 966, 1009, 1032, 1075, 1108, 1141, 1174, 1197, 1241, 1284, 1297, 1320, 1383, 1396, 1429, 1452, 1475, 1498, 1521, 1534, 1567, 1591, 1635, 1668, 1711, 1744, 1767, 1820], 201) := (congrArg (fun b => decode b 43) cd289).trans (by decide +kernel)
theorem d289_244 : decode (vm_cd 289) 244 = .ok (.aload_n 1, 1) := (congrArg (fun b => decode b 244) cd289).trans (by decide +kernel)
theorem d289_245 : decode (vm_cd 289) 245 = .ok (.aload_n 0, 1) := (congrArg (fun b => decode b 245) cd289).trans (by decide +kernel)
theorem d289_246 : decode (vm_cd 289) 246 = .ok (.iload_n 3, 1) := (congrArg (fun b => decode b 246) cd289).trans (by decide +kernel)
theorem d289_247 : decode (vm_cd 289) 247 = .ok (.iconst 1, 1) := (congrArg (fun b => decode b 247) cd289).trans (by decide +kernel)
theorem d289_248 : decode (vm_cd 289) 248 = .ok (.iadd, 1) := (congrArg (fun b => decode b 248) cd289).trans (by decide +kernel)
theorem d289_249 : decode (vm_cd 289) 249 = .ok (.iaload, 1) := (congrArg (fun b => decode b 249) cd289).trans (by decide +kernel)
theorem d289_250 : decode (vm_cd 289) 250 = .ok (.invokevirtual 21, 3) := (congrArg (fun b => decode b 250) cd289).trans (by decide +kernel)
theorem d289_253 : decode (vm_cd 289) 253 = .ok (.aload_n 2, 1) := (congrArg (fun b => decode b 253) cd289).trans (by decide +kernel)
theorem d289_254 : decode (vm_cd 289) 254 = .ok (.aload_n 0, 1) := (congrArg (fun b => decode b 254) cd289).trans (by decide +kernel)
theorem d289_255 : decode (vm_cd 289) 255 = .ok (.iload_n 3, 1) := (congrArg (fun b => decode b 255) cd289).trans (by decide +kernel)
theorem d289_256 : decode (vm_cd 289) 256 = .ok (.iconst 1, 1) := (congrArg (fun b => decode b 256) cd289).trans (by decide +kernel)
theorem d289_257 : decode (vm_cd 289) 257 = .ok (.iadd, 1) := (congrArg (fun b => decode b 257) cd289).trans (by decide +kernel)
theorem d289_258 : decode (vm_cd 289) 258 = .ok (.iaload, 1) := (congrArg (fun b => decode b 258) cd289).trans (by decide +kernel)
theorem d289_259 : decode (vm_cd 289) 259 = .ok (.invokevirtual 25, 3) := (congrArg (fun b => decode b 259) cd289).trans (by decide +kernel)
theorem d289_262 : decode (vm_cd 289) 262 = .ok (.if_icmp .eq 1624, 3) := (congrArg (fun b => decode b 262) cd289).trans (by decide +kernel)
theorem d289_267 : decode (vm_cd 289) 267 = .ok (.aload_n 1, 1) := (congrArg (fun b => decode b 267) cd289).trans (by decide +kernel)
theorem d289_268 : decode (vm_cd 289) 268 = .ok (.aload_n 0, 1) := (congrArg (fun b => decode b 268) cd289).trans (by decide +kernel)
theorem d289_269 : decode (vm_cd 289) 269 = .ok (.iload_n 3, 1) := (congrArg (fun b => decode b 269) cd289).trans (by decide +kernel)
theorem d289_270 : decode (vm_cd 289) 270 = .ok (.iconst 1, 1) := (congrArg (fun b => decode b 270) cd289).trans (by decide +kernel)
theorem d289_271 : decode (vm_cd 289) 271 = .ok (.iadd, 1) := (congrArg (fun b => decode b 271) cd289).trans (by decide +kernel)
theorem d289_272 : decode (vm_cd 289) 272 = .ok (.iaload, 1) := (congrArg (fun b => decode b 272) cd289).trans (by decide +kernel)
theorem d289_273 : decode (vm_cd 289) 273 = .ok (.aload_n 0, 1) := (congrArg (fun b => decode b 273) cd289).trans (by decide +kernel)
theorem d289_274 : decode (vm_cd 289) 274 = .ok (.iload_n 3, 1) := (congrArg (fun b => decode b 274) cd289).trans (by decide +kernel)
theorem d289_275 : decode (vm_cd 289) 275 = .ok (.iconst 2, 1) := (congrArg (fun b => decode b 275) cd289).trans (by decide +kernel)
theorem d289_276 : decode (vm_cd 289) 276 = .ok (.iadd, 1) := (congrArg (fun b => decode b 276) cd289).trans (by decide +kernel)
theorem d289_277 : decode (vm_cd 289) 277 = .ok (.iaload, 1) := (congrArg (fun b => decode b 277) cd289).trans (by decide +kernel)
theorem d289_278 : decode (vm_cd 289) 278 = .ok (.invokevirtual 26, 3) := (congrArg (fun b => decode b 278) cd289).trans (by decide +kernel)
theorem d289_281 : decode (vm_cd 289) 281 = .ok (.aload_n 2, 1) := (congrArg (fun b => decode b 281) cd289).trans (by decide +kernel)
theorem d289_282 : decode (vm_cd 289) 282 = .ok (.aload_n 0, 1) := (congrArg (fun b => decode b 282) cd289).trans (by decide +kernel)
theorem d289_283 : decode (vm_cd 289) 283 = .ok (.iload_n 3, 1) := (congrArg (fun b => decode b 283) cd289).trans (by decide +kernel)
theorem d289_284 : decode (vm_cd 289) 284 = .ok (.iconst 1, 1) := (congrArg (fun b => decode b 284) cd289).trans (by decide +kernel)
theorem d289_285 : decode (vm_cd 289) 285 = .ok (.iadd, 1) := (congrArg (fun b => decode b 285) cd289).trans (by decide +kernel)
theorem d289_286 : decode (vm_cd 289) 286 = .ok (.iaload, 1) := (congrArg (fun b => decode b 286) cd289).trans (by decide +kernel)
theorem d289_287 : decode (vm_cd 289) 287 = .ok (.aload_n 0, 1) := (congrArg (fun b => decode b 287) cd289).trans (by decide +kernel)
theorem d289_288 : decode (vm_cd 289) 288 = .ok (.iload_n 3, 1) := (congrArg (fun b => decode b 288) cd289).trans (by decide +kernel)
theorem d289_289 : decode (vm_cd 289) 289 = .ok (.iconst 2, 1) := (congrArg (fun b => decode b 289) cd289).trans (by decide +kernel)
theorem d289_290 : decode (vm_cd 289) 290 = .ok (.iadd, 1) := (congrArg (fun b => decode b 290) cd289).trans (by decide +kernel)
theorem d289_291 : decode (vm_cd 289) 291 = .ok (.iaload, 1) := (congrArg (fun b => decode b 291) cd289).trans (by decide +kernel)
theorem d289_292 : decode (vm_cd 289) 292 = .ok (.invokevirtual 30, 3) := (congrArg (fun b => decode b 292) cd289).trans (by decide +kernel)
theorem d289_295 : decode (vm_cd 289) 295 = .ok (.if_icmp .eq 1591, 3) := (congrArg (fun b => decode b 295) cd289).trans (by decide +kernel)
theorem d289_300 : decode (vm_cd 289) 300 = .ok (.aload_n 1, 1) := (congrArg (fun b => decode b 300) cd289).trans (by decide +kernel)
theorem d289_301 : decode (vm_cd 289) 301 = .ok (.aload_n 0, 1) := (congrArg (fun b => decode b 301) cd289).trans (by decide +kernel)
theorem d289_302 : decode (vm_cd 289) 302 = .ok (.iload_n 3, 1) := (congrArg (fun b => decode b 302) cd289).trans (by decide +kernel)
theorem d289_303 : decode (vm_cd 289) 303 = .ok (.iconst 1, 1) := (congrArg (fun b => decode b 303) cd289).trans (by decide +kernel)
theorem d289_304 : decode (vm_cd 289) 304 = .ok (.iadd, 1) := (congrArg (fun b => decode b 304) cd289).trans (by decide +kernel)
theorem d289_305 : decode (vm_cd 289) 305 = .ok (.iaload, 1) := (congrArg (fun b => decode b 305) cd289).trans (by decide +kernel)
theorem d289_306 : decode (vm_cd 289) 306 = .ok (.aload_n 0, 1) := (congrArg (fun b => decode b 306) cd289).trans (by decide +kernel)
theorem d289_307 : decode (vm_cd 289) 307 = .ok (.iload_n 3, 1) := (congrArg (fun b => decode b 307) cd289).trans (by decide +kernel)
theorem d289_308 : decode (vm_cd 289) 308 = .ok (.iconst 2, 1) := (congrArg (fun b => decode b 308) cd289).trans (by decide +kernel)
theorem d289_309 : decode (vm_cd 289) 309 = .ok (.iadd, 1) := (congrArg (fun b => decode b 309) cd289).trans (by decide +kernel)
theorem d289_310 : decode (vm_cd 289) 310 = .ok (.iaload, 1) := (congrArg (fun b => decode b 310) cd289).trans (by decide +kernel)
theorem d289_311 : decode (vm_cd 289) 311 = .ok (.aload_n 0, 1) := (congrArg (fun b => decode b 311) cd289).trans (by decide +kernel)
theorem d289_312 : decode (vm_cd 289) 312 = .ok (.iload_n 3, 1) := (congrArg (fun b => decode b 312) cd289).trans (by decide +kernel)
theorem d289_313 : decode (vm_cd 289) 313 = .ok (.iconst 3, 1) := (congrArg (fun b => decode b 313) cd289).trans (by decide +kernel)
theorem d289_314 : decode (vm_cd 289) 314 = .ok (.iadd, 1) := (congrArg (fun b => decode b 314) cd289).trans (by decide +kernel)
theorem d289_315 : decode (vm_cd 289) 315 = .ok (.iaload, 1) := (congrArg (fun b => decode b 315) cd289).trans (by decide +kernel)
theorem d289_316 : decode (vm_cd 289) 316 = .ok (.invokevirtual 31, 3) := (congrArg (fun b => decode b 316) cd289).trans (by decide +kernel)
theorem d289_319 : decode (vm_cd 289) 319 = .ok (.aload_n 2, 1) := (congrArg (fun b => decode b 319) cd289).trans (by decide +kernel)
theorem d289_320 : decode (vm_cd 289) 320 = .ok (.aload_n 0, 1) := (congrArg (fun b => decode b 320) cd289).trans (by decide +kernel)
theorem d289_321 : decode (vm_cd 289) 321 = .ok (.iload_n 3, 1) := (congrArg (fun b => decode b 321) cd289).trans (by decide +kernel)
theorem d289_322 : decode (vm_cd 289) 322 = .ok (.iconst 1, 1) := (congrArg (fun b => decode b 322) cd289).trans (by decide +kernel)
theorem d289_323 : decode (vm_cd 289) 323 = .ok (.iadd, 1) := (congrArg (fun b => decode b 323) cd289).trans (by decide +kernel)
theorem d289_324 : decode (vm_cd 289) 324 = .ok (.iaload, 1) := (congrArg (fun b => decode b 324) cd289).trans (by decide +kernel)
theorem d289_325 : decode (vm_cd 289) 325 = .ok (.aload_n 0, 1) := (congrArg (fun b => decode b 325) cd289).trans (by decide +kernel)
theorem d289_326 : decode (vm_cd 289) 326 = .ok (.iload_n 3, 1) := (congrArg (fun b => decode b 326) cd289).trans (by decide +kernel)
theorem d289_327 : decode (vm_cd 289) 327 = .ok (.iconst 2, 1) := (congrArg (fun b => decode b 327) cd289).trans (by decide +kernel)
theorem d289_328 : decode (vm_cd 289) 328 = .ok (.iadd, 1) := (congrArg (fun b => decode b 328) cd289).trans (by decide +kernel)
theorem d289_329 : decode (vm_cd 289) 329 = .ok (.iaload, 1) := (congrArg (fun b => decode b 329) cd289).trans (by decide +kernel)
theorem d289_330 : decode (vm_cd 289) 330 = .ok (.aload_n 0, 1) := (congrArg (fun b => decode b 330) cd289).trans (by decide +kernel)
theorem d289_331 : decode (vm_cd 289) 331 = .ok (.iload_n 3, 1) := (congrArg (fun b => decode b 331) cd289).trans (by decide +kernel)
theorem d289_332 : decode (vm_cd 289) 332 = .ok (.iconst 3, 1) := (congrArg (fun b => decode b 332) cd289).trans (by decide +kernel)
theorem d289_333 : decode (vm_cd 289) 333 = .ok (.iadd, 1) := (congrArg (fun b => decode b 333) cd289).trans (by decide +kernel)
theorem d289_334 : decode (vm_cd 289) 334 = .ok (.iaload, 1) := (congrArg (fun b => decode b 334) cd289).trans (by decide +kernel)
theorem d289_335 : decode (vm_cd 289) 335 = .ok (.invokevirtual 35, 3) := (congrArg (fun b => decode b 335) cd289).trans (by decide +kernel)
theorem d289_338 : decode (vm_cd 289) 338 = .ok (.if_icmp .eq 1548, 3) := (congrArg (fun b => decode b 338) cd289).trans (by decide +kernel)
theorem d289_343 : decode (vm_cd 289) 343 = .ok (.aload_n 1, 1) := (congrArg (fun b => decode b 343) cd289).trans (by decide +kernel)
theorem d289_344 : decode (vm_cd 289) 344 = .ok (.aload_n 0, 1) := (congrArg (fun b => decode b 344) cd289).trans (by decide +kernel)
theorem d289_345 : decode (vm_cd 289) 345 = .ok (.iload_n 3, 1) := (congrArg (fun b => decode b 345) cd289).trans (by decide +kernel)
theorem d289_346 : decode (vm_cd 289) 346 = .ok (.iconst 1, 1) := (congrArg (fun b => decode b 346) cd289).trans (by decide +kernel)
theorem d289_347 : decode (vm_cd 289) 347 = .ok (.iadd, 1) := (congrArg (fun b => decode b 347) cd289).trans (by decide +kernel)
theorem d289_348 : decode (vm_cd 289) 348 = .ok (.iaload, 1) := (congrArg (fun b => decode b 348) cd289).trans (by decide +kernel)
theorem d289_349 : decode (vm_cd 289) 349 = .ok (.aload_n 0, 1) := (congrArg (fun b => decode b 349) cd289).trans (by decide +kernel)
theorem d289_350 : decode (vm_cd 289) 350 = .ok (.iload_n 3, 1) := (congrArg (fun b => decode b 350) cd289).trans (by decide +kernel)
theorem d289_351 : decode (vm_cd 289) 351 = .ok (.iconst 2, 1) := (congrArg (fun b => decode b 351) cd289).trans (by decide +kernel)
theorem d289_352 : decode (vm_cd 289) 352 = .ok (.iadd, 1) := (congrArg (fun b => decode b 352) cd289).trans (by decide +kernel)
theorem d289_353 : decode (vm_cd 289) 353 = .ok (.iaload, 1) := (congrArg (fun b => decode b 353) cd289).trans (by decide +kernel)
theorem d289_354 : decode (vm_cd 289) 354 = .ok (.invokevirtual 36, 3) := (congrArg (fun b => decode b 354) cd289).trans (by decide +kernel)
theorem d289_357 : decode (vm_cd 289) 357 = .ok (.aload_n 2, 1) := (congrArg (fun b => decode b 357) cd289).trans (by decide +kernel)
theorem d289_358 : decode (vm_cd 289) 358 = .ok (.aload_n 0, 1) := (congrArg (fun b => decode b 358) cd289).trans (by decide +kernel)
theorem d289_359 : decode (vm_cd 289) 359 = .ok (.iload_n 3, 1) := (congrArg (fun b => decode b 359) cd289).trans (by decide +kernel)
theorem d289_360 : decode (vm_cd 289) 360 = .ok (.iconst 1, 1) := (congrArg (fun b => decode b 360) cd289).trans (by decide +kernel)
theorem d289_361 : decode (vm_cd 289) 361 = .ok (.iadd, 1) := (congrArg (fun b => decode b 361) cd289).trans (by decide +kernel)
theorem d289_362 : decode (vm_cd 289) 362 = .ok (.iaload, 1) := (congrArg (fun b => decode b 362) cd289).trans (by decide +kernel)
theorem d289_363 : decode (vm_cd 289) 363 = .ok (.aload_n 0, 1) := (congrArg (fun b => decode b 363) cd289).trans (by decide +kernel)
theorem d289_364 : decode (vm_cd 289) 364 = .ok (.iload_n 3, 1) := (congrArg (fun b => decode b 364) cd289).trans (by decide +kernel)
theorem d289_365 : decode (vm_cd 289) 365 = .ok (.iconst 2, 1) := (congrArg (fun b => decode b 365) cd289).trans (by decide +kernel)
theorem d289_366 : decode (vm_cd 289) 366 = .ok (.iadd, 1) := (congrArg (fun b => decode b 366) cd289).trans (by decide +kernel)
theorem d289_367 : decode (vm_cd 289) 367 = .ok (.iaload, 1) := (congrArg (fun b => decode b 367) cd289).trans (by decide +kernel)
theorem d289_368 : decode (vm_cd 289) 368 = .ok (.invokevirtual 39, 3) := (congrArg (fun b => decode b 368) cd289).trans (by decide +kernel)
theorem d289_371 : decode (vm_cd 289) 371 = .ok (.if_icmp .eq 1515, 3) := (congrArg (fun b => decode b 371) cd289).trans (by decide +kernel)
theorem d289_376 : decode (vm_cd 289) 376 = .ok (.aload_n 1, 1) := (congrArg (fun b => decode b 376) cd289).trans (by decide +kernel)
theorem d289_377 : decode (vm_cd 289) 377 = .ok (.aload_n 0, 1) := (congrArg (fun b => decode b 377) cd289).trans (by decide +kernel)
theorem d289_378 : decode (vm_cd 289) 378 = .ok (.iload_n 3, 1) := (congrArg (fun b => decode b 378) cd289).trans (by decide +kernel)
theorem d289_379 : decode (vm_cd 289) 379 = .ok (.iconst 1, 1) := (congrArg (fun b => decode b 379) cd289).trans (by decide +kernel)
theorem d289_380 : decode (vm_cd 289) 380 = .ok (.iadd, 1) := (congrArg (fun b => decode b 380) cd289).trans (by decide +kernel)
theorem d289_381 : decode (vm_cd 289) 381 = .ok (.iaload, 1) := (congrArg (fun b => decode b 381) cd289).trans (by decide +kernel)
theorem d289_382 : decode (vm_cd 289) 382 = .ok (.invokevirtual 40, 3) := (congrArg (fun b => decode b 382) cd289).trans (by decide +kernel)
theorem d289_385 : decode (vm_cd 289) 385 = .ok (.aload_n 2, 1) := (congrArg (fun b => decode b 385) cd289).trans (by decide +kernel)
theorem d289_386 : decode (vm_cd 289) 386 = .ok (.aload_n 0, 1) := (congrArg (fun b => decode b 386) cd289).trans (by decide +kernel)
theorem d289_387 : decode (vm_cd 289) 387 = .ok (.iload_n 3, 1) := (congrArg (fun b => decode b 387) cd289).trans (by decide +kernel)
theorem d289_388 : decode (vm_cd 289) 388 = .ok (.iconst 1, 1) := (congrArg (fun b => decode b 388) cd289).trans (by decide +kernel)
theorem d289_389 : decode (vm_cd 289) 389 = .ok (.iadd, 1) := (congrArg (fun b => decode b 389) cd289).trans (by decide +kernel)
theorem d289_390 : decode (vm_cd 289) 390 = .ok (.iaload, 1) := (congrArg (fun b => decode b 390) cd289).trans (by decide +kernel)
theorem d289_391 : decode (vm_cd 289) 391 = .ok (.invokevirtual 43, 3) := (congrArg (fun b => decode b 391) cd289).trans (by decide +kernel)
theorem d289_394 : decode (vm_cd 289) 394 = .ok (.if_icmp .eq 1492, 3) := (congrArg (fun b => decode b 394) cd289).trans (by decide +kernel)
theorem d289_399 : decode (vm_cd 289) 399 = .ok (.aload_n 1, 1) := (congrArg (fun b => decode b 399) cd289).trans (by decide +kernel)
theorem d289_400 : decode (vm_cd 289) 400 = .ok (.aload_n 0, 1) := (congrArg (fun b => decode b 400) cd289).trans (by decide +kernel)
theorem d289_401 : decode (vm_cd 289) 401 = .ok (.iload_n 3, 1) := (congrArg (fun b => decode b 401) cd289).trans (by decide +kernel)
theorem d289_402 : decode (vm_cd 289) 402 = .ok (.iconst 1, 1) := (congrArg (fun b => decode b 402) cd289).trans (by decide +kernel)
theorem d289_403 : decode (vm_cd 289) 403 = .ok (.iadd, 1) := (congrArg (fun b => decode b 403) cd289).trans (by decide +kernel)
theorem d289_404 : decode (vm_cd 289) 404 = .ok (.iaload, 1) := (congrArg (fun b => decode b 404) cd289).trans (by decide +kernel)
theorem d289_405 : decode (vm_cd 289) 405 = .ok (.aload_n 0, 1) := (congrArg (fun b => decode b 405) cd289).trans (by decide +kernel)
theorem d289_406 : decode (vm_cd 289) 406 = .ok (.iload_n 3, 1) := (congrArg (fun b => decode b 406) cd289).trans (by decide +kernel)
theorem d289_407 : decode (vm_cd 289) 407 = .ok (.iconst 2, 1) := (congrArg (fun b => decode b 407) cd289).trans (by decide +kernel)
theorem d289_408 : decode (vm_cd 289) 408 = .ok (.iadd, 1) := (congrArg (fun b => decode b 408) cd289).trans (by decide +kernel)
theorem d289_409 : decode (vm_cd 289) 409 = .ok (.iaload, 1) := (congrArg (fun b => decode b 409) cd289).trans (by decide +kernel)
theorem d289_410 : decode (vm_cd 289) 410 = .ok (.invokevirtual 44, 3) := (congrArg (fun b => decode b 410) cd289).trans (by decide +kernel)
theorem d289_413 : decode (vm_cd 289) 413 = .ok (.aload_n 2, 1) := (congrArg (fun b => decode b 413) cd289).trans (by decide +kernel)
theorem d289_414 : decode (vm_cd 289) 414 = .ok (.aload_n 0, 1) := (congrArg (fun b => decode b 414) cd289).trans (by decide +kernel)
theorem d289_415 : decode (vm_cd 289) 415 = .ok (.iload_n 3, 1) := (congrArg (fun b => decode b 415) cd289).trans (by decide +kernel)
theorem d289_416 : decode (vm_cd 289) 416 = .ok (.iconst 1, 1) := (congrArg (fun b => decode b 416) cd289).trans (by decide +kernel)
theorem d289_417 : decode (vm_cd 289) 417 = .ok (.iadd, 1) := (congrArg (fun b => decode b 417) cd289).trans (by decide +kernel)
theorem d289_418 : decode (vm_cd 289) 418 = .ok (.iaload, 1) := (congrArg (fun b => decode b 418) cd289).trans (by decide +kernel)
theorem d289_419 : decode (vm_cd 289) 419 = .ok (.aload_n 0, 1) := (congrArg (fun b => decode b 419) cd289).trans (by decide +kernel)
theorem d289_420 : decode (vm_cd 289) 420 = .ok (.iload_n 3, 1) := (congrArg (fun b => decode b 420) cd289).trans (by decide +kernel)
theorem d289_421 : decode (vm_cd 289) 421 = .ok (.iconst 2, 1) := (congrArg (fun b => decode b 421) cd289).trans (by decide +kernel)
theorem d289_422 : decode (vm_cd 289) 422 = .ok (.iadd, 1) := (congrArg (fun b => decode b 422) cd289).trans (by decide +kernel)
theorem d289_423 : decode (vm_cd 289) 423 = .ok (.iaload, 1) := (congrArg (fun b => decode b 423) cd289).trans (by decide +kernel)
theorem d289_424 : decode (vm_cd 289) 424 = .ok (.invokevirtual 47, 3) := (congrArg (fun b => decode b 424) cd289).trans (by decide +kernel)
theorem d289_427 : decode (vm_cd 289) 427 = .ok (.if_icmp .eq 1459, 3) := (congrArg (fun b => decode b 427) cd289).trans (by decide +kernel)
theorem d289_432 : decode (vm_cd 289) 432 = .ok (.aload_n 1, 1) := (congrArg (fun b => decode b 432) cd289).trans (by decide +kernel)
theorem d289_433 : decode (vm_cd 289) 433 = .ok (.aload_n 0, 1) := (congrArg (fun b => decode b 433) cd289).trans (by decide +kernel)
theorem d289_434 : decode (vm_cd 289) 434 = .ok (.iload_n 3, 1) := (congrArg (fun b => decode b 434) cd289).trans (by decide +kernel)
theorem d289_435 : decode (vm_cd 289) 435 = .ok (.iconst 1, 1) := (congrArg (fun b => decode b 435) cd289).trans (by decide +kernel)
theorem d289_436 : decode (vm_cd 289) 436 = .ok (.iadd, 1) := (congrArg (fun b => decode b 436) cd289).trans (by decide +kernel)
theorem d289_437 : decode (vm_cd 289) 437 = .ok (.iaload, 1) := (congrArg (fun b => decode b 437) cd289).trans (by decide +kernel)
theorem d289_438 : decode (vm_cd 289) 438 = .ok (.aload_n 0, 1) := (congrArg (fun b => decode b 438) cd289).trans (by decide +kernel)
theorem d289_439 : decode (vm_cd 289) 439 = .ok (.iload_n 3, 1) := (congrArg (fun b => decode b 439) cd289).trans (by decide +kernel)
theorem d289_440 : decode (vm_cd 289) 440 = .ok (.iconst 2, 1) := (congrArg (fun b => decode b 440) cd289).trans (by decide +kernel)
theorem d289_441 : decode (vm_cd 289) 441 = .ok (.iadd, 1) := (congrArg (fun b => decode b 441) cd289).trans (by decide +kernel)
theorem d289_442 : decode (vm_cd 289) 442 = .ok (.iaload, 1) := (congrArg (fun b => decode b 442) cd289).trans (by decide +kernel)
theorem d289_443 : decode (vm_cd 289) 443 = .ok (.invokevirtual 48, 3) := (congrArg (fun b => decode b 443) cd289).trans (by decide +kernel)
theorem d289_446 : decode (vm_cd 289) 446 = .ok (.aload_n 2, 1) := (congrArg (fun b => decode b 446) cd289).trans (by decide +kernel)
theorem d289_447 : decode (vm_cd 289) 447 = .ok (.aload_n 0, 1) := (congrArg (fun b => decode b 447) cd289).trans (by decide +kernel)
theorem d289_448 : decode (vm_cd 289) 448 = .ok (.iload_n 3, 1) := (congrArg (fun b => decode b 448) cd289).trans (by decide +kernel)
theorem d289_449 : decode (vm_cd 289) 449 = .ok (.iconst 1, 1) := (congrArg (fun b => decode b 449) cd289).trans (by decide +kernel)
theorem d289_450 : decode (vm_cd 289) 450 = .ok (.iadd, 1) := (congrArg (fun b => decode b 450) cd289).trans (by decide +kernel)
theorem d289_451 : decode (vm_cd 289) 451 = .ok (.iaload, 1) := (congrArg (fun b => decode b 451) cd289).trans (by decide +kernel)
theorem d289_452 : decode (vm_cd 289) 452 = .ok (.aload_n 0, 1) := (congrArg (fun b => decode b 452) cd289).trans (by decide +kernel)
theorem d289_453 : decode (vm_cd 289) 453 = .ok (.iload_n 3, 1) := (congrArg (fun b => decode b 453) cd289).trans (by decide +kernel)
theorem d289_454 : decode (vm_cd 289) 454 = .ok (.iconst 2, 1) := (congrArg (fun b => decode b 454) cd289).trans (by decide +kernel)
theorem d289_455 : decode (vm_cd 289) 455 = .ok (.iadd, 1) := (congrArg (fun b => decode b 455) cd289).trans (by decide +kernel)
theorem d289_456 : decode (vm_cd 289) 456 = .ok (.iaload, 1) := (congrArg (fun b => decode b 456) cd289).trans (by decide +kernel)
theorem d289_457 : decode (vm_cd 289) 457 = .ok (.invokevirtual 52, 3) := (congrArg (fun b => decode b 457) cd289).trans (by decide +kernel)
theorem d289_460 : decode (vm_cd 289) 460 = .ok (.lcmp, 1) := (congrArg (fun b => decode b 460) cd289).trans (by decide +kernel)
theorem d289_461 : decode (vm_cd 289) 461 = .ok (.ifCond .eq 1425, 3) := (congrArg (fun b => decode b 461) cd289).trans (by decide +kernel)
theorem d289_466 : decode (vm_cd 289) 466 = .ok (.aload_n 1, 1) := (congrArg (fun b => decode b 466) cd289).trans (by decide +kernel)
theorem d289_467 : decode (vm_cd 289) 467 = .ok (.aload_n 0, 1) := (congrArg (fun b => decode b 467) cd289).trans (by decide +kernel)
theorem d289_468 : decode (vm_cd 289) 468 = .ok (.iload_n 3, 1) := (congrArg (fun b => decode b 468) cd289).trans (by decide +kernel)
theorem d289_469 : decode (vm_cd 289) 469 = .ok (.iconst 1, 1) := (congrArg (fun b => decode b 469) cd289).trans (by decide +kernel)
theorem d289_470 : decode (vm_cd 289) 470 = .ok (.iadd, 1) := (congrArg (fun b => decode b 470) cd289).trans (by decide +kernel)
theorem d289_471 : decode (vm_cd 289) 471 = .ok (.iaload, 1) := (congrArg (fun b => decode b 471) cd289).trans (by decide +kernel)
theorem d289_472 : decode (vm_cd 289) 472 = .ok (.invokevirtual 53, 3) := (congrArg (fun b => decode b 472) cd289).trans (by decide +kernel)
theorem d289_475 : decode (vm_cd 289) 475 = .ok (.aload_n 2, 1) := (congrArg (fun b => decode b 475) cd289).trans (by decide +kernel)
theorem d289_476 : decode (vm_cd 289) 476 = .ok (.aload_n 0, 1) := (congrArg (fun b => decode b 476) cd289).trans (by decide +kernel)
theorem d289_477 : decode (vm_cd 289) 477 = .ok (.iload_n 3, 1) := (congrArg (fun b => decode b 477) cd289).trans (by decide +kernel)
theorem d289_478 : decode (vm_cd 289) 478 = .ok (.iconst 1, 1) := (congrArg (fun b => decode b 478) cd289).trans (by decide +kernel)
theorem d289_479 : decode (vm_cd 289) 479 = .ok (.iadd, 1) := (congrArg (fun b => decode b 479) cd289).trans (by decide +kernel)
theorem d289_480 : decode (vm_cd 289) 480 = .ok (.iaload, 1) := (congrArg (fun b => decode b 480) cd289).trans (by decide +kernel)
theorem d289_481 : decode (vm_cd 289) 481 = .ok (.invokevirtual 56, 3) := (congrArg (fun b => decode b 481) cd289).trans (by decide +kernel)
theorem d289_484 : decode (vm_cd 289) 484 = .ok (.if_icmp .eq 1402, 3) := (congrArg (fun b => decode b 484) cd289).trans (by decide +kernel)
theorem d289_489 : decode (vm_cd 289) 489 = .ok (.aload_n 1, 1) := (congrArg (fun b => decode b 489) cd289).trans (by decide +kernel)
theorem d289_490 : decode (vm_cd 289) 490 = .ok (.aload_n 0, 1) := (congrArg (fun b => decode b 490) cd289).trans (by decide +kernel)
theorem d289_491 : decode (vm_cd 289) 491 = .ok (.iload_n 3, 1) := (congrArg (fun b => decode b 491) cd289).trans (by decide +kernel)
theorem d289_492 : decode (vm_cd 289) 492 = .ok (.iconst 1, 1) := (congrArg (fun b => decode b 492) cd289).trans (by decide +kernel)
theorem d289_493 : decode (vm_cd 289) 493 = .ok (.iadd, 1) := (congrArg (fun b => decode b 493) cd289).trans (by decide +kernel)
theorem d289_494 : decode (vm_cd 289) 494 = .ok (.iaload, 1) := (congrArg (fun b => decode b 494) cd289).trans (by decide +kernel)
theorem d289_495 : decode (vm_cd 289) 495 = .ok (.aload_n 0, 1) := (congrArg (fun b => decode b 495) cd289).trans (by decide +kernel)
theorem d289_496 : decode (vm_cd 289) 496 = .ok (.iload_n 3, 1) := (congrArg (fun b => decode b 496) cd289).trans (by decide +kernel)
theorem d289_497 : decode (vm_cd 289) 497 = .ok (.iconst 2, 1) := (congrArg (fun b => decode b 497) cd289).trans (by decide +kernel)
theorem d289_498 : decode (vm_cd 289) 498 = .ok (.iadd, 1) := (congrArg (fun b => decode b 498) cd289).trans (by decide +kernel)
theorem d289_499 : decode (vm_cd 289) 499 = .ok (.iaload, 1) := (congrArg (fun b => decode b 499) cd289).trans (by decide +kernel)
theorem d289_500 : decode (vm_cd 289) 500 = .ok (.invokevirtual 57, 3) := (congrArg (fun b => decode b 500) cd289).trans (by decide +kernel)
theorem d289_503 : decode (vm_cd 289) 503 = .ok (.aload_n 2, 1) := (congrArg (fun b => decode b 503) cd289).trans (by decide +kernel)
theorem d289_504 : decode (vm_cd 289) 504 = .ok (.aload_n 0, 1) := (congrArg (fun b => decode b 504) cd289).trans (by decide +kernel)
theorem d289_505 : decode (vm_cd 289) 505 = .ok (.iload_n 3, 1) := (congrArg (fun b => decode b 505) cd289).trans (by decide +kernel)
theorem d289_506 : decode (vm_cd 289) 506 = .ok (.iconst 1, 1) := (congrArg (fun b => decode b 506) cd289).trans (by decide +kernel)
theorem d289_507 : decode (vm_cd 289) 507 = .ok (.iadd, 1) := (congrArg (fun b => decode b 507) cd289).trans (by decide +kernel)
theorem d289_508 : decode (vm_cd 289) 508 = .ok (.iaload, 1) := (congrArg (fun b => decode b 508) cd289).trans (by decide +kernel)
theorem d289_509 : decode (vm_cd 289) 509 = .ok (.aload_n 0, 1) := (congrArg (fun b => decode b 509) cd289).trans (by decide +kernel)
theorem d289_510 : decode (vm_cd 289) 510 = .ok (.iload_n 3, 1) := (congrArg (fun b => decode b 510) cd289).trans (by decide +kernel)
theorem d289_511 : decode (vm_cd 289) 511 = .ok (.iconst 2, 1) := (congrArg (fun b => decode b 511) cd289).trans (by decide +kernel)
theorem d289_512 : decode (vm_cd 289) 512 = .ok (.iadd, 1) := (congrArg (fun b => decode b 512) cd289).trans (by decide +kernel)
theorem d289_513 : decode (vm_cd 289) 513 = .ok (.iaload, 1) := (congrArg (fun b => decode b 513) cd289).trans (by decide +kernel)
theorem d289_514 : decode (vm_cd 289) 514 = .ok (.invokevirtual 60, 3) := (congrArg (fun b => decode b 514) cd289).trans (by decide +kernel)
theorem d289_517 : decode (vm_cd 289) 517 = .ok (.if_icmp .eq 1369, 3) := (congrArg (fun b => decode b 517) cd289).trans (by decide +kernel)
theorem d289_522 : decode (vm_cd 289) 522 = .ok (.aload_n 1, 1) := (congrArg (fun b => decode b 522) cd289).trans (by decide +kernel)
theorem d289_523 : decode (vm_cd 289) 523 = .ok (.aload_n 0, 1) := (congrArg (fun b => decode b 523) cd289).trans (by decide +kernel)
theorem d289_524 : decode (vm_cd 289) 524 = .ok (.iload_n 3, 1) := (congrArg (fun b => decode b 524) cd289).trans (by decide +kernel)
theorem d289_525 : decode (vm_cd 289) 525 = .ok (.iconst 1, 1) := (congrArg (fun b => decode b 525) cd289).trans (by decide +kernel)
theorem d289_526 : decode (vm_cd 289) 526 = .ok (.iadd, 1) := (congrArg (fun b => decode b 526) cd289).trans (by decide +kernel)
theorem d289_527 : decode (vm_cd 289) 527 = .ok (.iaload, 1) := (congrArg (fun b => decode b 527) cd289).trans (by decide +kernel)
theorem d289_528 : decode (vm_cd 289) 528 = .ok (.aload_n 0, 1) := (congrArg (fun b => decode b 528) cd289).trans (by decide +kernel)
theorem d289_529 : decode (vm_cd 289) 529 = .ok (.iload_n 3, 1) := (congrArg (fun b => decode b 529) cd289).trans (by decide +kernel)
theorem d289_530 : decode (vm_cd 289) 530 = .ok (.iconst 2, 1) := (congrArg (fun b => decode b 530) cd289).trans (by decide +kernel)
theorem d289_531 : decode (vm_cd 289) 531 = .ok (.iadd, 1) := (congrArg (fun b => decode b 531) cd289).trans (by decide +kernel)
theorem d289_532 : decode (vm_cd 289) 532 = .ok (.iaload, 1) := (congrArg (fun b => decode b 532) cd289).trans (by decide +kernel)
theorem d289_533 : decode (vm_cd 289) 533 = .ok (.aload_n 0, 1) := (congrArg (fun b => decode b 533) cd289).trans (by decide +kernel)
theorem d289_534 : decode (vm_cd 289) 534 = .ok (.iload_n 3, 1) := (congrArg (fun b => decode b 534) cd289).trans (by decide +kernel)
theorem d289_535 : decode (vm_cd 289) 535 = .ok (.iconst 3, 1) := (congrArg (fun b => decode b 535) cd289).trans (by decide +kernel)
theorem d289_536 : decode (vm_cd 289) 536 = .ok (.iadd, 1) := (congrArg (fun b => decode b 536) cd289).trans (by decide +kernel)
theorem d289_537 : decode (vm_cd 289) 537 = .ok (.iaload, 1) := (congrArg (fun b => decode b 537) cd289).trans (by decide +kernel)
theorem d289_538 : decode (vm_cd 289) 538 = .ok (.aload_n 0, 1) := (congrArg (fun b => decode b 538) cd289).trans (by decide +kernel)
theorem d289_539 : decode (vm_cd 289) 539 = .ok (.iload_n 3, 1) := (congrArg (fun b => decode b 539) cd289).trans (by decide +kernel)
theorem d289_540 : decode (vm_cd 289) 540 = .ok (.iconst 4, 1) := (congrArg (fun b => decode b 540) cd289).trans (by decide +kernel)
theorem d289_541 : decode (vm_cd 289) 541 = .ok (.iadd, 1) := (congrArg (fun b => decode b 541) cd289).trans (by decide +kernel)
theorem d289_542 : decode (vm_cd 289) 542 = .ok (.iaload, 1) := (congrArg (fun b => decode b 542) cd289).trans (by decide +kernel)
theorem d289_543 : decode (vm_cd 289) 543 = .ok (.invokevirtual 61, 3) := (congrArg (fun b => decode b 543) cd289).trans (by decide +kernel)
theorem d289_546 : decode (vm_cd 289) 546 = .ok (.aload_n 2, 1) := (congrArg (fun b => decode b 546) cd289).trans (by decide +kernel)
theorem d289_547 : decode (vm_cd 289) 547 = .ok (.aload_n 0, 1) := (congrArg (fun b => decode b 547) cd289).trans (by decide +kernel)
theorem d289_548 : decode (vm_cd 289) 548 = .ok (.iload_n 3, 1) := (congrArg (fun b => decode b 548) cd289).trans (by decide +kernel)
theorem d289_549 : decode (vm_cd 289) 549 = .ok (.iconst 1, 1) := (congrArg (fun b => decode b 549) cd289).trans (by decide +kernel)
theorem d289_550 : decode (vm_cd 289) 550 = .ok (.iadd, 1) := (congrArg (fun b => decode b 550) cd289).trans (by decide +kernel)
theorem d289_551 : decode (vm_cd 289) 551 = .ok (.iaload, 1) := (congrArg (fun b => decode b 551) cd289).trans (by decide +kernel)
theorem d289_552 : decode (vm_cd 289) 552 = .ok (.aload_n 0, 1) := (congrArg (fun b => decode b 552) cd289).trans (by decide +kernel)
theorem d289_553 : decode (vm_cd 289) 553 = .ok (.iload_n 3, 1) := (congrArg (fun b => decode b 553) cd289).trans (by decide +kernel)
theorem d289_554 : decode (vm_cd 289) 554 = .ok (.iconst 2, 1) := (congrArg (fun b => decode b 554) cd289).trans (by decide +kernel)
theorem d289_555 : decode (vm_cd 289) 555 = .ok (.iadd, 1) := (congrArg (fun b => decode b 555) cd289).trans (by decide +kernel)
theorem d289_556 : decode (vm_cd 289) 556 = .ok (.iaload, 1) := (congrArg (fun b => decode b 556) cd289).trans (by decide +kernel)
theorem d289_557 : decode (vm_cd 289) 557 = .ok (.aload_n 0, 1) := (congrArg (fun b => decode b 557) cd289).trans (by decide +kernel)
theorem d289_558 : decode (vm_cd 289) 558 = .ok (.iload_n 3, 1) := (congrArg (fun b => decode b 558) cd289).trans (by decide +kernel)
theorem d289_559 : decode (vm_cd 289) 559 = .ok (.iconst 3, 1) := (congrArg (fun b => decode b 559) cd289).trans (by decide +kernel)
theorem d289_560 : decode (vm_cd 289) 560 = .ok (.iadd, 1) := (congrArg (fun b => decode b 560) cd289).trans (by decide +kernel)
theorem d289_561 : decode (vm_cd 289) 561 = .ok (.iaload, 1) := (congrArg (fun b => decode b 561) cd289).trans (by decide +kernel)
theorem d289_562 : decode (vm_cd 289) 562 = .ok (.aload_n 0, 1) := (congrArg (fun b => decode b 562) cd289).trans (by decide +kernel)
theorem d289_563 : decode (vm_cd 289) 563 = .ok (.iload_n 3, 1) := (congrArg (fun b => decode b 563) cd289).trans (by decide +kernel)
theorem d289_564 : decode (vm_cd 289) 564 = .ok (.iconst 4, 1) := (congrArg (fun b => decode b 564) cd289).trans (by decide +kernel)
theorem d289_565 : decode (vm_cd 289) 565 = .ok (.iadd, 1) := (congrArg (fun b => decode b 565) cd289).trans (by decide +kernel)
theorem d289_566 : decode (vm_cd 289) 566 = .ok (.iaload, 1) := (congrArg (fun b => decode b 566) cd289).trans (by decide +kernel)
theorem d289_567 : decode (vm_cd 289) 567 = .ok (.invokevirtual 65, 3) := (congrArg (fun b => decode b 567) cd289).trans (by decide +kernel)
theorem d289_570 : decode (vm_cd 289) 570 = .ok (.lcmp, 1) := (congrArg (fun b => decode b 570) cd289).trans (by decide +kernel)
theorem d289_571 : decode (vm_cd 289) 571 = .ok (.ifCond .eq 1315, 3) := (congrArg (fun b => decode b 571) cd289).trans (by decide +kernel)
theorem d289_576 : decode (vm_cd 289) 576 = .ok (.aload_n 1, 1) := (congrArg (fun b => decode b 576) cd289).trans (by decide +kernel)
theorem d289_577 : decode (vm_cd 289) 577 = .ok (.aload_n 0, 1) := (congrArg (fun b => decode b 577) cd289).trans (by decide +kernel)
theorem d289_578 : decode (vm_cd 289) 578 = .ok (.iload_n 3, 1) := (congrArg (fun b => decode b 578) cd289).trans (by decide +kernel)
theorem d289_579 : decode (vm_cd 289) 579 = .ok (.iconst 1, 1) := (congrArg (fun b => decode b 579) cd289).trans (by decide +kernel)
theorem d289_580 : decode (vm_cd 289) 580 = .ok (.iadd, 1) := (congrArg (fun b => decode b 580) cd289).trans (by decide +kernel)
theorem d289_581 : decode (vm_cd 289) 581 = .ok (.iaload, 1) := (congrArg (fun b => decode b 581) cd289).trans (by decide +kernel)
theorem d289_582 : decode (vm_cd 289) 582 = .ok (.aload_n 0, 1) := (congrArg (fun b => decode b 582) cd289).trans (by decide +kernel)
theorem d289_583 : decode (vm_cd 289) 583 = .ok (.iload_n 3, 1) := (congrArg (fun b => decode b 583) cd289).trans (by decide +kernel)
theorem d289_584 : decode (vm_cd 289) 584 = .ok (.iconst 2, 1) := (congrArg (fun b => decode b 584) cd289).trans (by decide +kernel)
theorem d289_585 : decode (vm_cd 289) 585 = .ok (.iadd, 1) := (congrArg (fun b => decode b 585) cd289).trans (by decide +kernel)
theorem d289_586 : decode (vm_cd 289) 586 = .ok (.iaload, 1) := (congrArg (fun b => decode b 586) cd289).trans (by decide +kernel)
theorem d289_587 : decode (vm_cd 289) 587 = .ok (.aload_n 0, 1) := (congrArg (fun b => decode b 587) cd289).trans (by decide +kernel)
theorem d289_588 : decode (vm_cd 289) 588 = .ok (.iload_n 3, 1) := (congrArg (fun b => decode b 588) cd289).trans (by decide +kernel)
theorem d289_589 : decode (vm_cd 289) 589 = .ok (.iconst 3, 1) := (congrArg (fun b => decode b 589) cd289).trans (by decide +kernel)
theorem d289_590 : decode (vm_cd 289) 590 = .ok (.iadd, 1) := (congrArg (fun b => decode b 590) cd289).trans (by decide +kernel)
theorem d289_591 : decode (vm_cd 289) 591 = .ok (.iaload, 1) := (congrArg (fun b => decode b 591) cd289).trans (by decide +kernel)
theorem d289_592 : decode (vm_cd 289) 592 = .ok (.aload_n 0, 1) := (congrArg (fun b => decode b 592) cd289).trans (by decide +kernel)
theorem d289_593 : decode (vm_cd 289) 593 = .ok (.iload_n 3, 1) := (congrArg (fun b => decode b 593) cd289).trans (by decide +kernel)
theorem d289_594 : decode (vm_cd 289) 594 = .ok (.iconst 4, 1) := (congrArg (fun b => decode b 594) cd289).trans (by decide +kernel)
theorem d289_595 : decode (vm_cd 289) 595 = .ok (.iadd, 1) := (congrArg (fun b => decode b 595) cd289).trans (by decide +kernel)
theorem d289_596 : decode (vm_cd 289) 596 = .ok (.iaload, 1) := (congrArg (fun b => decode b 596) cd289).trans (by decide +kernel)
theorem d289_597 : decode (vm_cd 289) 597 = .ok (.invokevirtual 66, 3) := (congrArg (fun b => decode b 597) cd289).trans (by decide +kernel)
theorem d289_600 : decode (vm_cd 289) 600 = .ok (.aload_n 2, 1) := (congrArg (fun b => decode b 600) cd289).trans (by decide +kernel)
theorem d289_601 : decode (vm_cd 289) 601 = .ok (.aload_n 0, 1) := (congrArg (fun b => decode b 601) cd289).trans (by decide +kernel)
theorem d289_602 : decode (vm_cd 289) 602 = .ok (.iload_n 3, 1) := (congrArg (fun b => decode b 602) cd289).trans (by decide +kernel)
theorem d289_603 : decode (vm_cd 289) 603 = .ok (.iconst 1, 1) := (congrArg (fun b => decode b 603) cd289).trans (by decide +kernel)
theorem d289_604 : decode (vm_cd 289) 604 = .ok (.iadd, 1) := (congrArg (fun b => decode b 604) cd289).trans (by decide +kernel)
theorem d289_605 : decode (vm_cd 289) 605 = .ok (.iaload, 1) := (congrArg (fun b => decode b 605) cd289).trans (by decide +kernel)
theorem d289_606 : decode (vm_cd 289) 606 = .ok (.aload_n 0, 1) := (congrArg (fun b => decode b 606) cd289).trans (by decide +kernel)
theorem d289_607 : decode (vm_cd 289) 607 = .ok (.iload_n 3, 1) := (congrArg (fun b => decode b 607) cd289).trans (by decide +kernel)
theorem d289_608 : decode (vm_cd 289) 608 = .ok (.iconst 2, 1) := (congrArg (fun b => decode b 608) cd289).trans (by decide +kernel)
theorem d289_609 : decode (vm_cd 289) 609 = .ok (.iadd, 1) := (congrArg (fun b => decode b 609) cd289).trans (by decide +kernel)
theorem d289_610 : decode (vm_cd 289) 610 = .ok (.iaload, 1) := (congrArg (fun b => decode b 610) cd289).trans (by decide +kernel)
theorem d289_611 : decode (vm_cd 289) 611 = .ok (.aload_n 0, 1) := (congrArg (fun b => decode b 611) cd289).trans (by decide +kernel)
theorem d289_612 : decode (vm_cd 289) 612 = .ok (.iload_n 3, 1) := (congrArg (fun b => decode b 612) cd289).trans (by decide +kernel)
theorem d289_613 : decode (vm_cd 289) 613 = .ok (.iconst 3, 1) := (congrArg (fun b => decode b 613) cd289).trans (by decide +kernel)
theorem d289_614 : decode (vm_cd 289) 614 = .ok (.iadd, 1) := (congrArg (fun b => decode b 614) cd289).trans (by decide +kernel)
theorem d289_615 : decode (vm_cd 289) 615 = .ok (.iaload, 1) := (congrArg (fun b => decode b 615) cd289).trans (by decide +kernel)
theorem d289_616 : decode (vm_cd 289) 616 = .ok (.aload_n 0, 1) := (congrArg (fun b => decode b 616) cd289).trans (by decide +kernel)
theorem d289_617 : decode (vm_cd 289) 617 = .ok (.iload_n 3, 1) := (congrArg (fun b => decode b 617) cd289).trans (by decide +kernel)
theorem d289_618 : decode (vm_cd 289) 618 = .ok (.iconst 4, 1) := (congrArg (fun b => decode b 618) cd289).trans (by decide +kernel)
theorem d289_619 : decode (vm_cd 289) 619 = .ok (.iadd, 1) := (congrArg (fun b => decode b 619) cd289).trans (by decide +kernel)
theorem d289_620 : decode (vm_cd 289) 620 = .ok (.iaload, 1) := (congrArg (fun b => decode b 620) cd289).trans (by decide +kernel)
theorem d289_621 : decode (vm_cd 289) 621 = .ok (.invokevirtual 69, 3) := (congrArg (fun b => decode b 621) cd289).trans (by decide +kernel)
theorem d289_624 : decode (vm_cd 289) 624 = .ok (.lcmp, 1) := (congrArg (fun b => decode b 624) cd289).trans (by decide +kernel)
theorem d289_625 : decode (vm_cd 289) 625 = .ok (.ifCond .eq 1261, 3) := (congrArg (fun b => decode b 625) cd289).trans (by decide +kernel)
theorem d289_630 : decode (vm_cd 289) 630 = .ok (.aload_n 1, 1) := (congrArg (fun b => decode b 630) cd289).trans (by decide +kernel)
theorem d289_631 : decode (vm_cd 289) 631 = .ok (.aload_n 0, 1) := (congrArg (fun b => decode b 631) cd289).trans (by decide +kernel)
theorem d289_632 : decode (vm_cd 289) 632 = .ok (.iload_n 3, 1) := (congrArg (fun b => decode b 632) cd289).trans (by decide +kernel)
theorem d289_633 : decode (vm_cd 289) 633 = .ok (.iconst 1, 1) := (congrArg (fun b => decode b 633) cd289).trans (by decide +kernel)
theorem d289_634 : decode (vm_cd 289) 634 = .ok (.iadd, 1) := (congrArg (fun b => decode b 634) cd289).trans (by decide +kernel)
theorem d289_635 : decode (vm_cd 289) 635 = .ok (.iaload, 1) := (congrArg (fun b => decode b 635) cd289).trans (by decide +kernel)
theorem d289_636 : decode (vm_cd 289) 636 = .ok (.invokevirtual 70, 3) := (congrArg (fun b => decode b 636) cd289).trans (by decide +kernel)
theorem d289_639 : decode (vm_cd 289) 639 = .ok (.aload_n 2, 1) := (congrArg (fun b => decode b 639) cd289).trans (by decide +kernel)
theorem d289_640 : decode (vm_cd 289) 640 = .ok (.aload_n 0, 1) := (congrArg (fun b => decode b 640) cd289).trans (by decide +kernel)
theorem d289_641 : decode (vm_cd 289) 641 = .ok (.iload_n 3, 1) := (congrArg (fun b => decode b 641) cd289).trans (by decide +kernel)
theorem d289_642 : decode (vm_cd 289) 642 = .ok (.iconst 1, 1) := (congrArg (fun b => decode b 642) cd289).trans (by decide +kernel)
theorem d289_643 : decode (vm_cd 289) 643 = .ok (.iadd, 1) := (congrArg (fun b => decode b 643) cd289).trans (by decide +kernel)
theorem d289_644 : decode (vm_cd 289) 644 = .ok (.iaload, 1) := (congrArg (fun b => decode b 644) cd289).trans (by decide +kernel)
theorem d289_645 : decode (vm_cd 289) 645 = .ok (.invokevirtual 73, 3) := (congrArg (fun b => decode b 645) cd289).trans (by decide +kernel)
theorem d289_648 : decode (vm_cd 289) 648 = .ok (.if_icmp .eq 1238, 3) := (congrArg (fun b => decode b 648) cd289).trans (by decide +kernel)
theorem d289_653 : decode (vm_cd 289) 653 = .ok (.aload_n 1, 1) := (congrArg (fun b => decode b 653) cd289).trans (by decide +kernel)
theorem d289_654 : decode (vm_cd 289) 654 = .ok (.aload_n 0, 1) := (congrArg (fun b => decode b 654) cd289).trans (by decide +kernel)
theorem d289_655 : decode (vm_cd 289) 655 = .ok (.iload_n 3, 1) := (congrArg (fun b => decode b 655) cd289).trans (by decide +kernel)
theorem d289_656 : decode (vm_cd 289) 656 = .ok (.iconst 1, 1) := (congrArg (fun b => decode b 656) cd289).trans (by decide +kernel)
theorem d289_657 : decode (vm_cd 289) 657 = .ok (.iadd, 1) := (congrArg (fun b => decode b 657) cd289).trans (by decide +kernel)
theorem d289_658 : decode (vm_cd 289) 658 = .ok (.iaload, 1) := (congrArg (fun b => decode b 658) cd289).trans (by decide +kernel)
theorem d289_659 : decode (vm_cd 289) 659 = .ok (.aload_n 0, 1) := (congrArg (fun b => decode b 659) cd289).trans (by decide +kernel)
theorem d289_660 : decode (vm_cd 289) 660 = .ok (.iload_n 3, 1) := (congrArg (fun b => decode b 660) cd289).trans (by decide +kernel)
theorem d289_661 : decode (vm_cd 289) 661 = .ok (.iconst 2, 1) := (congrArg (fun b => decode b 661) cd289).trans (by decide +kernel)
theorem d289_662 : decode (vm_cd 289) 662 = .ok (.iadd, 1) := (congrArg (fun b => decode b 662) cd289).trans (by decide +kernel)
theorem d289_663 : decode (vm_cd 289) 663 = .ok (.iaload, 1) := (congrArg (fun b => decode b 663) cd289).trans (by decide +kernel)
theorem d289_664 : decode (vm_cd 289) 664 = .ok (.invokevirtual 74, 3) := (congrArg (fun b => decode b 664) cd289).trans (by decide +kernel)
theorem d289_667 : decode (vm_cd 289) 667 = .ok (.aload_n 2, 1) := (congrArg (fun b => decode b 667) cd289).trans (by decide +kernel)
theorem d289_668 : decode (vm_cd 289) 668 = .ok (.aload_n 0, 1) := (congrArg (fun b => decode b 668) cd289).trans (by decide +kernel)
theorem d289_669 : decode (vm_cd 289) 669 = .ok (.iload_n 3, 1) := (congrArg (fun b => decode b 669) cd289).trans (by decide +kernel)
theorem d289_670 : decode (vm_cd 289) 670 = .ok (.iconst 1, 1) := (congrArg (fun b => decode b 670) cd289).trans (by decide +kernel)
theorem d289_671 : decode (vm_cd 289) 671 = .ok (.iadd, 1) := (congrArg (fun b => decode b 671) cd289).trans (by decide +kernel)
theorem d289_672 : decode (vm_cd 289) 672 = .ok (.iaload, 1) := (congrArg (fun b => decode b 672) cd289).trans (by decide +kernel)
theorem d289_673 : decode (vm_cd 289) 673 = .ok (.aload_n 0, 1) := (congrArg (fun b => decode b 673) cd289).trans (by decide +kernel)
theorem d289_674 : decode (vm_cd 289) 674 = .ok (.iload_n 3, 1) := (congrArg (fun b => decode b 674) cd289).trans (by decide +kernel)
theorem d289_675 : decode (vm_cd 289) 675 = .ok (.iconst 2, 1) := (congrArg (fun b => decode b 675) cd289).trans (by decide +kernel)
theorem d289_676 : decode (vm_cd 289) 676 = .ok (.iadd, 1) := (congrArg (fun b => decode b 676) cd289).trans (by decide +kernel)
theorem d289_677 : decode (vm_cd 289) 677 = .ok (.iaload, 1) := (congrArg (fun b => decode b 677) cd289).trans (by decide +kernel)
theorem d289_678 : decode (vm_cd 289) 678 = .ok (.invokevirtual 77, 3) := (congrArg (fun b => decode b 678) cd289).trans (by decide +kernel)
theorem d289_681 : decode (vm_cd 289) 681 = .ok (.lcmp, 1) := (congrArg (fun b => decode b 681) cd289).trans (by decide +kernel)
theorem d289_682 : decode (vm_cd 289) 682 = .ok (.ifCond .eq 1204, 3) := (congrArg (fun b => decode b 682) cd289).trans (by decide +kernel)
theorem d289_687 : decode (vm_cd 289) 687 = .ok (.aload_n 1, 1) := (congrArg (fun b => decode b 687) cd289).trans (by decide +kernel)
theorem d289_688 : decode (vm_cd 289) 688 = .ok (.aload_n 0, 1) := (congrArg (fun b => decode b 688) cd289).trans (by decide +kernel)
theorem d289_689 : decode (vm_cd 289) 689 = .ok (.iload_n 3, 1) := (congrArg (fun b => decode b 689) cd289).trans (by decide +kernel)
theorem d289_690 : decode (vm_cd 289) 690 = .ok (.iconst 1, 1) := (congrArg (fun b => decode b 690) cd289).trans (by decide +kernel)
theorem d289_691 : decode (vm_cd 289) 691 = .ok (.iadd, 1) := (congrArg (fun b => decode b 691) cd289).trans (by decide +kernel)
theorem d289_692 : decode (vm_cd 289) 692 = .ok (.iaload, 1) := (congrArg (fun b => decode b 692) cd289).trans (by decide +kernel)
theorem d289_693 : decode (vm_cd 289) 693 = .ok (.aload_n 0, 1) := (congrArg (fun b => decode b 693) cd289).trans (by decide +kernel)
theorem d289_694 : decode (vm_cd 289) 694 = .ok (.iload_n 3, 1) := (congrArg (fun b => decode b 694) cd289).trans (by decide +kernel)
theorem d289_695 : decode (vm_cd 289) 695 = .ok (.iconst 2, 1) := (congrArg (fun b => decode b 695) cd289).trans (by decide +kernel)
theorem d289_696 : decode (vm_cd 289) 696 = .ok (.iadd, 1) := (congrArg (fun b => decode b 696) cd289).trans (by decide +kernel)
theorem d289_697 : decode (vm_cd 289) 697 = .ok (.iaload, 1) := (congrArg (fun b => decode b 697) cd289).trans (by decide +kernel)
theorem d289_698 : decode (vm_cd 289) 698 = .ok (.aload_n 0, 1) := (congrArg (fun b => decode b 698) cd289).trans (by decide +kernel)
theorem d289_699 : decode (vm_cd 289) 699 = .ok (.iload_n 3, 1) := (congrArg (fun b => decode b 699) cd289).trans (by decide +kernel)
theorem d289_700 : decode (vm_cd 289) 700 = .ok (.iconst 3, 1) := (congrArg (fun b => decode b 700) cd289).trans (by decide +kernel)
theorem d289_701 : decode (vm_cd 289) 701 = .ok (.iadd, 1) := (congrArg (fun b => decode b 701) cd289).trans (by decide +kernel)
theorem d289_702 : decode (vm_cd 289) 702 = .ok (.iaload, 1) := (congrArg (fun b => decode b 702) cd289).trans (by decide +kernel)
theorem d289_703 : decode (vm_cd 289) 703 = .ok (.aload_n 0, 1) := (congrArg (fun b => decode b 703) cd289).trans (by decide +kernel)
theorem d289_704 : decode (vm_cd 289) 704 = .ok (.iload_n 3, 1) := (congrArg (fun b => decode b 704) cd289).trans (by decide +kernel)
theorem d289_705 : decode (vm_cd 289) 705 = .ok (.iconst 4, 1) := (congrArg (fun b => decode b 705) cd289).trans (by decide +kernel)
theorem d289_706 : decode (vm_cd 289) 706 = .ok (.iadd, 1) := (congrArg (fun b => decode b 706) cd289).trans (by decide +kernel)
theorem d289_707 : decode (vm_cd 289) 707 = .ok (.iaload, 1) := (congrArg (fun b => decode b 707) cd289).trans (by decide +kernel)
theorem d289_708 : decode (vm_cd 289) 708 = .ok (.invokevirtual 78, 3) := (congrArg (fun b => decode b 708) cd289).trans (by decide +kernel)
theorem d289_711 : decode (vm_cd 289) 711 = .ok (.aload_n 2, 1) := (congrArg (fun b => decode b 711) cd289).trans (by decide +kernel)
theorem d289_712 : decode (vm_cd 289) 712 = .ok (.aload_n 0, 1) := (congrArg (fun b => decode b 712) cd289).trans (by decide +kernel)
theorem d289_713 : decode (vm_cd 289) 713 = .ok (.iload_n 3, 1) := (congrArg (fun b => decode b 713) cd289).trans (by decide +kernel)
theorem d289_714 : decode (vm_cd 289) 714 = .ok (.iconst 1, 1) := (congrArg (fun b => decode b 714) cd289).trans (by decide +kernel)
theorem d289_715 : decode (vm_cd 289) 715 = .ok (.iadd, 1) := (congrArg (fun b => decode b 715) cd289).trans (by decide +kernel)
theorem d289_716 : decode (vm_cd 289) 716 = .ok (.iaload, 1) := (congrArg (fun b => decode b 716) cd289).trans (by decide +kernel)
theorem d289_717 : decode (vm_cd 289) 717 = .ok (.aload_n 0, 1) := (congrArg (fun b => decode b 717) cd289).trans (by decide +kernel)
theorem d289_718 : decode (vm_cd 289) 718 = .ok (.iload_n 3, 1) := (congrArg (fun b => decode b 718) cd289).trans (by decide +kernel)
theorem d289_719 : decode (vm_cd 289) 719 = .ok (.iconst 2, 1) := (congrArg (fun b => decode b 719) cd289).trans (by decide +kernel)
theorem d289_720 : decode (vm_cd 289) 720 = .ok (.iadd, 1) := (congrArg (fun b => decode b 720) cd289).trans (by decide +kernel)
theorem d289_721 : decode (vm_cd 289) 721 = .ok (.iaload, 1) := (congrArg (fun b => decode b 721) cd289).trans (by decide +kernel)
theorem d289_722 : decode (vm_cd 289) 722 = .ok (.aload_n 0, 1) := (congrArg (fun b => decode b 722) cd289).trans (by decide +kernel)
theorem d289_723 : decode (vm_cd 289) 723 = .ok (.iload_n 3, 1) := (congrArg (fun b => decode b 723) cd289).trans (by decide +kernel)
theorem d289_724 : decode (vm_cd 289) 724 = .ok (.iconst 3, 1) := (congrArg (fun b => decode b 724) cd289).trans (by decide +kernel)
theorem d289_725 : decode (vm_cd 289) 725 = .ok (.iadd, 1) := (congrArg (fun b => decode b 725) cd289).trans (by decide +kernel)
theorem d289_726 : decode (vm_cd 289) 726 = .ok (.iaload, 1) := (congrArg (fun b => decode b 726) cd289).trans (by decide +kernel)
theorem d289_727 : decode (vm_cd 289) 727 = .ok (.aload_n 0, 1) := (congrArg (fun b => decode b 727) cd289).trans (by decide +kernel)
theorem d289_728 : decode (vm_cd 289) 728 = .ok (.iload_n 3, 1) := (congrArg (fun b => decode b 728) cd289).trans (by decide +kernel)
theorem d289_729 : decode (vm_cd 289) 729 = .ok (.iconst 4, 1) := (congrArg (fun b => decode b 729) cd289).trans (by decide +kernel)
theorem d289_730 : decode (vm_cd 289) 730 = .ok (.iadd, 1) := (congrArg (fun b => decode b 730) cd289).trans (by decide +kernel)
theorem d289_731 : decode (vm_cd 289) 731 = .ok (.iaload, 1) := (congrArg (fun b => decode b 731) cd289).trans (by decide +kernel)
theorem d289_732 : decode (vm_cd 289) 732 = .ok (.invokevirtual 81, 3) := (congrArg (fun b => decode b 732) cd289).trans (by decide +kernel)
theorem d289_735 : decode (vm_cd 289) 735 = .ok (.lcmp, 1) := (congrArg (fun b => decode b 735) cd289).trans (by decide +kernel)
theorem d289_736 : decode (vm_cd 289) 736 = .ok (.ifCond .eq 1150, 3) := (congrArg (fun b => decode b 736) cd289).trans (by decide +kernel)
theorem d289_741 : decode (vm_cd 289) 741 = .ok (.aload_n 1, 1) := (congrArg (fun b => decode b 741) cd289).trans (by decide +kernel)
theorem d289_742 : decode (vm_cd 289) 742 = .ok (.aload_n 0, 1) := (congrArg (fun b => decode b 742) cd289).trans (by decide +kernel)
theorem d289_743 : decode (vm_cd 289) 743 = .ok (.iload_n 3, 1) := (congrArg (fun b => decode b 743) cd289).trans (by decide +kernel)
theorem d289_744 : decode (vm_cd 289) 744 = .ok (.iconst 1, 1) := (congrArg (fun b => decode b 744) cd289).trans (by decide +kernel)
theorem d289_745 : decode (vm_cd 289) 745 = .ok (.iadd, 1) := (congrArg (fun b => decode b 745) cd289).trans (by decide +kernel)
theorem d289_746 : decode (vm_cd 289) 746 = .ok (.iaload, 1) := (congrArg (fun b => decode b 746) cd289).trans (by decide +kernel)
theorem d289_747 : decode (vm_cd 289) 747 = .ok (.aload_n 0, 1) := (congrArg (fun b => decode b 747) cd289).trans (by decide +kernel)
theorem d289_748 : decode (vm_cd 289) 748 = .ok (.iload_n 3, 1) := (congrArg (fun b => decode b 748) cd289).trans (by decide +kernel)
theorem d289_749 : decode (vm_cd 289) 749 = .ok (.iconst 2, 1) := (congrArg (fun b => decode b 749) cd289).trans (by decide +kernel)
theorem d289_750 : decode (vm_cd 289) 750 = .ok (.iadd, 1) := (congrArg (fun b => decode b 750) cd289).trans (by decide +kernel)
theorem d289_751 : decode (vm_cd 289) 751 = .ok (.iaload, 1) := (congrArg (fun b => decode b 751) cd289).trans (by decide +kernel)
theorem d289_752 : decode (vm_cd 289) 752 = .ok (.invokevirtual 82, 3) := (congrArg (fun b => decode b 752) cd289).trans (by decide +kernel)
theorem d289_755 : decode (vm_cd 289) 755 = .ok (.aload_n 2, 1) := (congrArg (fun b => decode b 755) cd289).trans (by decide +kernel)
theorem d289_756 : decode (vm_cd 289) 756 = .ok (.aload_n 0, 1) := (congrArg (fun b => decode b 756) cd289).trans (by decide +kernel)
theorem d289_757 : decode (vm_cd 289) 757 = .ok (.iload_n 3, 1) := (congrArg (fun b => decode b 757) cd289).trans (by decide +kernel)
theorem d289_758 : decode (vm_cd 289) 758 = .ok (.iconst 1, 1) := (congrArg (fun b => decode b 758) cd289).trans (by decide +kernel)
theorem d289_759 : decode (vm_cd 289) 759 = .ok (.iadd, 1) := (congrArg (fun b => decode b 759) cd289).trans (by decide +kernel)
theorem d289_760 : decode (vm_cd 289) 760 = .ok (.iaload, 1) := (congrArg (fun b => decode b 760) cd289).trans (by decide +kernel)
theorem d289_761 : decode (vm_cd 289) 761 = .ok (.aload_n 0, 1) := (congrArg (fun b => decode b 761) cd289).trans (by decide +kernel)
theorem d289_762 : decode (vm_cd 289) 762 = .ok (.iload_n 3, 1) := (congrArg (fun b => decode b 762) cd289).trans (by decide +kernel)
theorem d289_763 : decode (vm_cd 289) 763 = .ok (.iconst 2, 1) := (congrArg (fun b => decode b 763) cd289).trans (by decide +kernel)
theorem d289_764 : decode (vm_cd 289) 764 = .ok (.iadd, 1) := (congrArg (fun b => decode b 764) cd289).trans (by decide +kernel)
theorem d289_765 : decode (vm_cd 289) 765 = .ok (.iaload, 1) := (congrArg (fun b => decode b 765) cd289).trans (by decide +kernel)
theorem d289_766 : decode (vm_cd 289) 766 = .ok (.invokevirtual 85, 3) := (congrArg (fun b => decode b 766) cd289).trans (by decide +kernel)
theorem d289_769 : decode (vm_cd 289) 769 = .ok (.if_icmp .eq 1117, 3) := (congrArg (fun b => decode b 769) cd289).trans (by decide +kernel)
theorem d289_774 : decode (vm_cd 289) 774 = .ok (.aload_n 1, 1) := (congrArg (fun b => decode b 774) cd289).trans (by decide +kernel)
theorem d289_775 : decode (vm_cd 289) 775 = .ok (.aload_n 0, 1) := (congrArg (fun b => decode b 775) cd289).trans (by decide +kernel)
theorem d289_776 : decode (vm_cd 289) 776 = .ok (.iload_n 3, 1) := (congrArg (fun b => decode b 776) cd289).trans (by decide +kernel)
theorem d289_777 : decode (vm_cd 289) 777 = .ok (.iconst 1, 1) := (congrArg (fun b => decode b 777) cd289).trans (by decide +kernel)
theorem d289_778 : decode (vm_cd 289) 778 = .ok (.iadd, 1) := (congrArg (fun b => decode b 778) cd289).trans (by decide +kernel)
theorem d289_779 : decode (vm_cd 289) 779 = .ok (.iaload, 1) := (congrArg (fun b => decode b 779) cd289).trans (by decide +kernel)
theorem d289_780 : decode (vm_cd 289) 780 = .ok (.aload_n 0, 1) := (congrArg (fun b => decode b 780) cd289).trans (by decide +kernel)
theorem d289_781 : decode (vm_cd 289) 781 = .ok (.iload_n 3, 1) := (congrArg (fun b => decode b 781) cd289).trans (by decide +kernel)
theorem d289_782 : decode (vm_cd 289) 782 = .ok (.iconst 2, 1) := (congrArg (fun b => decode b 782) cd289).trans (by decide +kernel)
theorem d289_783 : decode (vm_cd 289) 783 = .ok (.iadd, 1) := (congrArg (fun b => decode b 783) cd289).trans (by decide +kernel)
theorem d289_784 : decode (vm_cd 289) 784 = .ok (.iaload, 1) := (congrArg (fun b => decode b 784) cd289).trans (by decide +kernel)
theorem d289_785 : decode (vm_cd 289) 785 = .ok (.aload_n 0, 1) := (congrArg (fun b => decode b 785) cd289).trans (by decide +kernel)
theorem d289_786 : decode (vm_cd 289) 786 = .ok (.iload_n 3, 1) := (congrArg (fun b => decode b 786) cd289).trans (by decide +kernel)
theorem d289_787 : decode (vm_cd 289) 787 = .ok (.iconst 3, 1) := (congrArg (fun b => decode b 787) cd289).trans (by decide +kernel)
theorem d289_788 : decode (vm_cd 289) 788 = .ok (.iadd, 1) := (congrArg (fun b => decode b 788) cd289).trans (by decide +kernel)
theorem d289_789 : decode (vm_cd 289) 789 = .ok (.iaload, 1) := (congrArg (fun b => decode b 789) cd289).trans (by decide +kernel)
theorem d289_790 : decode (vm_cd 289) 790 = .ok (.aload_n 0, 1) := (congrArg (fun b => decode b 790) cd289).trans (by decide +kernel)
theorem d289_791 : decode (vm_cd 289) 791 = .ok (.iload_n 3, 1) := (congrArg (fun b => decode b 791) cd289).trans (by decide +kernel)
theorem d289_792 : decode (vm_cd 289) 792 = .ok (.iconst 4, 1) := (congrArg (fun b => decode b 792) cd289).trans (by decide +kernel)
theorem d289_793 : decode (vm_cd 289) 793 = .ok (.iadd, 1) := (congrArg (fun b => decode b 793) cd289).trans (by decide +kernel)
theorem d289_794 : decode (vm_cd 289) 794 = .ok (.iaload, 1) := (congrArg (fun b => decode b 794) cd289).trans (by decide +kernel)
theorem d289_795 : decode (vm_cd 289) 795 = .ok (.aload_n 0, 1) := (congrArg (fun b => decode b 795) cd289).trans (by decide +kernel)
theorem d289_796 : decode (vm_cd 289) 796 = .ok (.iload_n 3, 1) := (congrArg (fun b => decode b 796) cd289).trans (by decide +kernel)
theorem d289_797 : decode (vm_cd 289) 797 = .ok (.iconst 5, 1) := (congrArg (fun b => decode b 797) cd289).trans (by decide +kernel)
theorem d289_798 : decode (vm_cd 289) 798 = .ok (.iadd, 1) := (congrArg (fun b => decode b 798) cd289).trans (by decide +kernel)
theorem d289_799 : decode (vm_cd 289) 799 = .ok (.iaload, 1) := (congrArg (fun b => decode b 799) cd289).trans (by decide +kernel)
theorem d289_800 : decode (vm_cd 289) 800 = .ok (.invokevirtual 86, 3) := (congrArg (fun b => decode b 800) cd289).trans (by decide +kernel)
theorem d289_803 : decode (vm_cd 289) 803 = .ok (.aload_n 2, 1) := (congrArg (fun b => decode b 803) cd289).trans (by decide +kernel)
theorem d289_804 : decode (vm_cd 289) 804 = .ok (.aload_n 0, 1) := (congrArg (fun b => decode b 804) cd289).trans (by decide +kernel)
theorem d289_805 : decode (vm_cd 289) 805 = .ok (.iload_n 3, 1) := (congrArg (fun b => decode b 805) cd289).trans (by decide +kernel)
theorem d289_806 : decode (vm_cd 289) 806 = .ok (.iconst 1, 1) := (congrArg (fun b => decode b 806) cd289).trans (by decide +kernel)
theorem d289_807 : decode (vm_cd 289) 807 = .ok (.iadd, 1) := (congrArg (fun b => decode b 807) cd289).trans (by decide +kernel)
theorem d289_808 : decode (vm_cd 289) 808 = .ok (.iaload, 1) := (congrArg (fun b => decode b 808) cd289).trans (by decide +kernel)
theorem d289_809 : decode (vm_cd 289) 809 = .ok (.aload_n 0, 1) := (congrArg (fun b => decode b 809) cd289).trans (by decide +kernel)
theorem d289_810 : decode (vm_cd 289) 810 = .ok (.iload_n 3, 1) := (congrArg (fun b => decode b 810) cd289).trans (by decide +kernel)
theorem d289_811 : decode (vm_cd 289) 811 = .ok (.iconst 2, 1) := (congrArg (fun b => decode b 811) cd289).trans (by decide +kernel)
theorem d289_812 : decode (vm_cd 289) 812 = .ok (.iadd, 1) := (congrArg (fun b => decode b 812) cd289).trans (by decide +kernel)
theorem d289_813 : decode (vm_cd 289) 813 = .ok (.iaload, 1) := (congrArg (fun b => decode b 813) cd289).trans (by decide +kernel)
theorem d289_814 : decode (vm_cd 289) 814 = .ok (.aload_n 0, 1) := (congrArg (fun b => decode b 814) cd289).trans (by decide +kernel)
theorem d289_815 : decode (vm_cd 289) 815 = .ok (.iload_n 3, 1) := (congrArg (fun b => decode b 815) cd289).trans (by decide +kernel)
theorem d289_816 : decode (vm_cd 289) 816 = .ok (.iconst 3, 1) := (congrArg (fun b => decode b 816) cd289).trans (by decide +kernel)
theorem d289_817 : decode (vm_cd 289) 817 = .ok (.iadd, 1) := (congrArg (fun b => decode b 817) cd289).trans (by decide +kernel)
theorem d289_818 : decode (vm_cd 289) 818 = .ok (.iaload, 1) := (congrArg (fun b => decode b 818) cd289).trans (by decide +kernel)
theorem d289_819 : decode (vm_cd 289) 819 = .ok (.aload_n 0, 1) := (congrArg (fun b => decode b 819) cd289).trans (by decide +kernel)
theorem d289_820 : decode (vm_cd 289) 820 = .ok (.iload_n 3, 1) := (congrArg (fun b => decode b 820) cd289).trans (by decide +kernel)
theorem d289_821 : decode (vm_cd 289) 821 = .ok (.iconst 4, 1) := (congrArg (fun b => decode b 821) cd289).trans (by decide +kernel)
theorem d289_822 : decode (vm_cd 289) 822 = .ok (.iadd, 1) := (congrArg (fun b => decode b 822) cd289).trans (by decide +kernel)
theorem d289_823 : decode (vm_cd 289) 823 = .ok (.iaload, 1) := (congrArg (fun b => decode b 823) cd289).trans (by decide +kernel)
theorem d289_824 : decode (vm_cd 289) 824 = .ok (.aload_n 0, 1) := (congrArg (fun b => decode b 824) cd289).trans (by decide +kernel)
theorem d289_825 : decode (vm_cd 289) 825 = .ok (.iload_n 3, 1) := (congrArg (fun b => decode b 825) cd289).trans (by decide +kernel)
theorem d289_826 : decode (vm_cd 289) 826 = .ok (.iconst 5, 1) := (congrArg (fun b => decode b 826) cd289).trans (by decide +kernel)
theorem d289_827 : decode (vm_cd 289) 827 = .ok (.iadd, 1) := (congrArg (fun b => decode b 827) cd289).trans (by decide +kernel)
theorem d289_828 : decode (vm_cd 289) 828 = .ok (.iaload, 1) := (congrArg (fun b => decode b 828) cd289).trans (by decide +kernel)
theorem d289_829 : decode (vm_cd 289) 829 = .ok (.invokevirtual 90, 3) := (congrArg (fun b => decode b 829) cd289).trans (by decide +kernel)
theorem d289_832 : decode (vm_cd 289) 832 = .ok (.if_icmp .eq 1054, 3) := (congrArg (fun b => decode b 832) cd289).trans (by decide +kernel)
theorem d289_837 : decode (vm_cd 289) 837 = .ok (.aload_n 1, 1) := (congrArg (fun b => decode b 837) cd289).trans (by decide +kernel)
theorem d289_838 : decode (vm_cd 289) 838 = .ok (.aload_n 0, 1) := (congrArg (fun b => decode b 838) cd289).trans (by decide +kernel)
theorem d289_839 : decode (vm_cd 289) 839 = .ok (.iload_n 3, 1) := (congrArg (fun b => decode b 839) cd289).trans (by decide +kernel)
theorem d289_840 : decode (vm_cd 289) 840 = .ok (.iconst 1, 1) := (congrArg (fun b => decode b 840) cd289).trans (by decide +kernel)
theorem d289_841 : decode (vm_cd 289) 841 = .ok (.iadd, 1) := (congrArg (fun b => decode b 841) cd289).trans (by decide +kernel)
theorem d289_842 : decode (vm_cd 289) 842 = .ok (.iaload, 1) := (congrArg (fun b => decode b 842) cd289).trans (by decide +kernel)
theorem d289_843 : decode (vm_cd 289) 843 = .ok (.aload_n 0, 1) := (congrArg (fun b => decode b 843) cd289).trans (by decide +kernel)
theorem d289_844 : decode (vm_cd 289) 844 = .ok (.iload_n 3, 1) := (congrArg (fun b => decode b 844) cd289).trans (by decide +kernel)
theorem d289_845 : decode (vm_cd 289) 845 = .ok (.iconst 2, 1) := (congrArg (fun b => decode b 845) cd289).trans (by decide +kernel)
theorem d289_846 : decode (vm_cd 289) 846 = .ok (.iadd, 1) := (congrArg (fun b => decode b 846) cd289).trans (by decide +kernel)
theorem d289_847 : decode (vm_cd 289) 847 = .ok (.iaload, 1) := (congrArg (fun b => decode b 847) cd289).trans (by decide +kernel)
theorem d289_848 : decode (vm_cd 289) 848 = .ok (.aload_n 0, 1) := (congrArg (fun b => decode b 848) cd289).trans (by decide +kernel)
theorem d289_849 : decode (vm_cd 289) 849 = .ok (.iload_n 3, 1) := (congrArg (fun b => decode b 849) cd289).trans (by decide +kernel)
theorem d289_850 : decode (vm_cd 289) 850 = .ok (.iconst 3, 1) := (congrArg (fun b => decode b 850) cd289).trans (by decide +kernel)
theorem d289_851 : decode (vm_cd 289) 851 = .ok (.iadd, 1) := (congrArg (fun b => decode b 851) cd289).trans (by decide +kernel)
theorem d289_852 : decode (vm_cd 289) 852 = .ok (.iaload, 1) := (congrArg (fun b => decode b 852) cd289).trans (by decide +kernel)
theorem d289_853 : decode (vm_cd 289) 853 = .ok (.aload_n 0, 1) := (congrArg (fun b => decode b 853) cd289).trans (by decide +kernel)
theorem d289_854 : decode (vm_cd 289) 854 = .ok (.iload_n 3, 1) := (congrArg (fun b => decode b 854) cd289).trans (by decide +kernel)
theorem d289_855 : decode (vm_cd 289) 855 = .ok (.iconst 4, 1) := (congrArg (fun b => decode b 855) cd289).trans (by decide +kernel)
theorem d289_856 : decode (vm_cd 289) 856 = .ok (.iadd, 1) := (congrArg (fun b => decode b 856) cd289).trans (by decide +kernel)
theorem d289_857 : decode (vm_cd 289) 857 = .ok (.iaload, 1) := (congrArg (fun b => decode b 857) cd289).trans (by decide +kernel)
theorem d289_858 : decode (vm_cd 289) 858 = .ok (.aload_n 0, 1) := (congrArg (fun b => decode b 858) cd289).trans (by decide +kernel)
theorem d289_859 : decode (vm_cd 289) 859 = .ok (.iload_n 3, 1) := (congrArg (fun b => decode b 859) cd289).trans (by decide +kernel)
theorem d289_860 : decode (vm_cd 289) 860 = .ok (.iconst 5, 1) := (congrArg (fun b => decode b 860) cd289).trans (by decide +kernel)
theorem d289_861 : decode (vm_cd 289) 861 = .ok (.iadd, 1) := (congrArg (fun b => decode b 861) cd289).trans (by decide +kernel)
theorem d289_862 : decode (vm_cd 289) 862 = .ok (.iaload, 1) := (congrArg (fun b => decode b 862) cd289).trans (by decide +kernel)
theorem d289_863 : decode (vm_cd 289) 863 = .ok (.aload_n 0, 1) := (congrArg (fun b => decode b 863) cd289).trans (by decide +kernel)
theorem d289_864 : decode (vm_cd 289) 864 = .ok (.iload_n 3, 1) := (congrArg (fun b => decode b 864) cd289).trans (by decide +kernel)
theorem d289_865 : decode (vm_cd 289) 865 = .ok (.bipush 6, 2) := (congrArg (fun b => decode b 865) cd289).trans (by decide +kernel)
theorem d289_867 : decode (vm_cd 289) 867 = .ok (.iadd, 1) := (congrArg (fun b => decode b 867) cd289).trans (by decide +kernel)
theorem d289_868 : decode (vm_cd 289) 868 = .ok (.iaload, 1) := (congrArg (fun b => decode b 868) cd289).trans (by decide +kernel)
theorem d289_869 : decode (vm_cd 289) 869 = .ok (.invokevirtual 91, 3) := (congrArg (fun b => decode b 869) cd289).trans (by decide +kernel)
theorem d289_872 : decode (vm_cd 289) 872 = .ok (.aload_n 2, 1) := (congrArg (fun b => decode b 872) cd289).trans (by decide +kernel)
theorem d289_873 : decode (vm_cd 289) 873 = .ok (.aload_n 0, 1) := (congrArg (fun b => decode b 873) cd289).trans (by decide +kernel)
theorem d289_874 : decode (vm_cd 289) 874 = .ok (.iload_n 3, 1) := (congrArg (fun b => decode b 874) cd289).trans (by decide +kernel)
theorem d289_875 : decode (vm_cd 289) 875 = .ok (.iconst 1, 1) := (congrArg (fun b => decode b 875) cd289).trans (by decide +kernel)
theorem d289_876 : decode (vm_cd 289) 876 = .ok (.iadd, 1) := (congrArg (fun b => decode b 876) cd289).trans (by decide +kernel)
theorem d289_877 : decode (vm_cd 289) 877 = .ok (.iaload, 1) := (congrArg (fun b => decode b 877) cd289).trans (by decide +kernel)
theorem d289_878 : decode (vm_cd 289) 878 = .ok (.aload_n 0, 1) := (congrArg (fun b => decode b 878) cd289).trans (by decide +kernel)
theorem d289_879 : decode (vm_cd 289) 879 = .ok (.iload_n 3, 1) := (congrArg (fun b => decode b 879) cd289).trans (by decide +kernel)
theorem d289_880 : decode (vm_cd 289) 880 = .ok (.iconst 2, 1) := (congrArg (fun b => decode b 880) cd289).trans (by decide +kernel)
theorem d289_881 : decode (vm_cd 289) 881 = .ok (.iadd, 1) := (congrArg (fun b => decode b 881) cd289).trans (by decide +kernel)
theorem d289_882 : decode (vm_cd 289) 882 = .ok (.iaload, 1) := (congrArg (fun b => decode b 882) cd289).trans (by decide +kernel)
theorem d289_883 : decode (vm_cd 289) 883 = .ok (.aload_n 0, 1) := (congrArg (fun b => decode b 883) cd289).trans (by decide +kernel)
theorem d289_884 : decode (vm_cd 289) 884 = .ok (.iload_n 3, 1) := (congrArg (fun b => decode b 884) cd289).trans (by decide +kernel)
theorem d289_885 : decode (vm_cd 289) 885 = .ok (.iconst 3, 1) := (congrArg (fun b => decode b 885) cd289).trans (by decide +kernel)
theorem d289_886 : decode (vm_cd 289) 886 = .ok (.iadd, 1) := (congrArg (fun b => decode b 886) cd289).trans (by decide +kernel)
theorem d289_887 : decode (vm_cd 289) 887 = .ok (.iaload, 1) := (congrArg (fun b => decode b 887) cd289).trans (by decide +kernel)
theorem d289_888 : decode (vm_cd 289) 888 = .ok (.aload_n 0, 1) := (congrArg (fun b => decode b 888) cd289).trans (by decide +kernel)
theorem d289_889 : decode (vm_cd 289) 889 = .ok (.iload_n 3, 1) := (congrArg (fun b => decode b 889) cd289).trans (by decide +kernel)
theorem d289_890 : decode (vm_cd 289) 890 = .ok (.iconst 4, 1) := (congrArg (fun b => decode b 890) cd289).trans (by decide +kernel)
theorem d289_891 : decode (vm_cd 289) 891 = .ok (.iadd, 1) := (congrArg (fun b => decode b 891) cd289).trans (by decide +kernel)
theorem d289_892 : decode (vm_cd 289) 892 = .ok (.iaload, 1) := (congrArg (fun b => decode b 892) cd289).trans (by decide +kernel)
theorem d289_893 : decode (vm_cd 289) 893 = .ok (.aload_n 0, 1) := (congrArg (fun b => decode b 893) cd289).trans (by decide +kernel)
theorem d289_894 : decode (vm_cd 289) 894 = .ok (.iload_n 3, 1) := (congrArg (fun b => decode b 894) cd289).trans (by decide +kernel)
theorem d289_895 : decode (vm_cd 289) 895 = .ok (.iconst 5, 1) := (congrArg (fun b => decode b 895) cd289).trans (by decide +kernel)
theorem d289_896 : decode (vm_cd 289) 896 = .ok (.iadd, 1) := (congrArg (fun b => decode b 896) cd289).trans (by decide +kernel)
theorem d289_897 : decode (vm_cd 289) 897 = .ok (.iaload, 1) := (congrArg (fun b => decode b 897) cd289).trans (by decide +kernel)
theorem d289_898 : decode (vm_cd 289) 898 = .ok (.aload_n 0, 1) := (congrArg (fun b => decode b 898) cd289).trans (by decide +kernel)
theorem d289_899 : decode (vm_cd 289) 899 = .ok (.iload_n 3, 1) := (congrArg (fun b => decode b 899) cd289).trans (by decide +kernel)
theorem d289_900 : decode (vm_cd 289) 900 = .ok (.bipush 6, 2) := (congrArg (fun b => decode b 900) cd289).trans (by decide +kernel)
theorem d289_902 : decode (vm_cd 289) 902 = .ok (.iadd, 1) := (congrArg (fun b => decode b 902) cd289).trans (by decide +kernel)
theorem d289_903 : decode (vm_cd 289) 903 = .ok (.iaload, 1) := (congrArg (fun b => decode b 903) cd289).trans (by decide +kernel)
theorem d289_904 : decode (vm_cd 289) 904 = .ok (.invokevirtual 95, 3) := (congrArg (fun b => decode b 904) cd289).trans (by decide +kernel)
theorem d289_907 : decode (vm_cd 289) 907 = .ok (.if_icmp .eq 979, 3) := (congrArg (fun b => decode b 907) cd289).trans (by decide +kernel)
theorem d289_912 : decode (vm_cd 289) 912 = .ok (.aload_n 1, 1) := (congrArg (fun b => decode b 912) cd289).trans (by decide +kernel)
theorem d289_913 : decode (vm_cd 289) 913 = .ok (.aload_n 0, 1) := (congrArg (fun b => decode b 913) cd289).trans (by decide +kernel)
theorem d289_914 : decode (vm_cd 289) 914 = .ok (.iload_n 3, 1) := (congrArg (fun b => decode b 914) cd289).trans (by decide +kernel)
theorem d289_915 : decode (vm_cd 289) 915 = .ok (.iconst 1, 1) := (congrArg (fun b => decode b 915) cd289).trans (by decide +kernel)
theorem d289_916 : decode (vm_cd 289) 916 = .ok (.iadd, 1) := (congrArg (fun b => decode b 916) cd289).trans (by decide +kernel)
theorem d289_917 : decode (vm_cd 289) 917 = .ok (.iaload, 1) := (congrArg (fun b => decode b 917) cd289).trans (by decide +kernel)
theorem d289_918 : decode (vm_cd 289) 918 = .ok (.aload_n 0, 1) := (congrArg (fun b => decode b 918) cd289).trans (by decide +kernel)
theorem d289_919 : decode (vm_cd 289) 919 = .ok (.iload_n 3, 1) := (congrArg (fun b => decode b 919) cd289).trans (by decide +kernel)
theorem d289_920 : decode (vm_cd 289) 920 = .ok (.iconst 2, 1) := (congrArg (fun b => decode b 920) cd289).trans (by decide +kernel)
theorem d289_921 : decode (vm_cd 289) 921 = .ok (.iadd, 1) := (congrArg (fun b => decode b 921) cd289).trans (by decide +kernel)
theorem d289_922 : decode (vm_cd 289) 922 = .ok (.iaload, 1) := (congrArg (fun b => decode b 922) cd289).trans (by decide +kernel)
theorem d289_923 : decode (vm_cd 289) 923 = .ok (.aload_n 0, 1) := (congrArg (fun b => decode b 923) cd289).trans (by decide +kernel)
theorem d289_924 : decode (vm_cd 289) 924 = .ok (.iload_n 3, 1) := (congrArg (fun b => decode b 924) cd289).trans (by decide +kernel)
theorem d289_925 : decode (vm_cd 289) 925 = .ok (.iconst 3, 1) := (congrArg (fun b => decode b 925) cd289).trans (by decide +kernel)
theorem d289_926 : decode (vm_cd 289) 926 = .ok (.iadd, 1) := (congrArg (fun b => decode b 926) cd289).trans (by decide +kernel)
theorem d289_927 : decode (vm_cd 289) 927 = .ok (.iaload, 1) := (congrArg (fun b => decode b 927) cd289).trans (by decide +kernel)
theorem d289_928 : decode (vm_cd 289) 928 = .ok (.aload_n 0, 1) := (congrArg (fun b => decode b 928) cd289).trans (by decide +kernel)
theorem d289_929 : decode (vm_cd 289) 929 = .ok (.iload_n 3, 1) := (congrArg (fun b => decode b 929) cd289).trans (by decide +kernel)
theorem d289_930 : decode (vm_cd 289) 930 = .ok (.iconst 4, 1) := (congrArg (fun b => decode b 930) cd289).trans (by decide +kernel)
theorem d289_931 : decode (vm_cd 289) 931 = .ok (.iadd, 1) := (congrArg (fun b => decode b 931) cd289).trans (by decide +kernel)
theorem d289_932 : decode (vm_cd 289) 932 = .ok (.iaload, 1) := (congrArg (fun b => decode b 932) cd289).trans (by decide +kernel)
theorem d289_933 : decode (vm_cd 289) 933 = .ok (.aload_n 0, 1) := (congrArg (fun b => decode b 933) cd289).trans (by decide +kernel)
theorem d289_934 : decode (vm_cd 289) 934 = .ok (.iload_n 3, 1) := (congrArg (fun b => decode b 934) cd289).trans (by decide +kernel)
theorem d289_935 : decode (vm_cd 289) 935 = .ok (.iconst 5, 1) := (congrArg (fun b => decode b 935) cd289).trans (by decide +kernel)
theorem d289_936 : decode (vm_cd 289) 936 = .ok (.iadd, 1) := (congrArg (fun b => decode b 936) cd289).trans (by decide +kernel)
theorem d289_937 : decode (vm_cd 289) 937 = .ok (.iaload, 1) := (congrArg (fun b => decode b 937) cd289).trans (by decide +kernel)
theorem d289_938 : decode (vm_cd 289) 938 = .ok (.invokevirtual 96, 3) := (congrArg (fun b => decode b 938) cd289).trans (by decide +kernel)
theorem d289_941 : decode (vm_cd 289) 941 = .ok (.aload_n 2, 1) := (congrArg (fun b => decode b 941) cd289).trans (by decide +kernel)
theorem d289_942 : decode (vm_cd 289) 942 = .ok (.aload_n 0, 1) := (congrArg (fun b => decode b 942) cd289).trans (by decide +kernel)
theorem d289_943 : decode (vm_cd 289) 943 = .ok (.iload_n 3, 1) := (congrArg (fun b => decode b 943) cd289).trans (by decide +kernel)
theorem d289_944 : decode (vm_cd 289) 944 = .ok (.iconst 1, 1) := (congrArg (fun b => decode b 944) cd289).trans (by decide +kernel)
theorem d289_945 : decode (vm_cd 289) 945 = .ok (.iadd, 1) := (congrArg (fun b => decode b 945) cd289).trans (by decide +kernel)
theorem d289_946 : decode (vm_cd 289) 946 = .ok (.iaload, 1) := (congrArg (fun b => decode b 946) cd289).trans (by decide +kernel)
theorem d289_947 : decode (vm_cd 289) 947 = .ok (.aload_n 0, 1) := (congrArg (fun b => decode b 947) cd289).trans (by decide +kernel)
theorem d289_948 : decode (vm_cd 289) 948 = .ok (.iload_n 3, 1) := (congrArg (fun b => decode b 948) cd289).trans (by decide +kernel)
theorem d289_949 : decode (vm_cd 289) 949 = .ok (.iconst 2, 1) := (congrArg (fun b => decode b 949) cd289).trans (by decide +kernel)
theorem d289_950 : decode (vm_cd 289) 950 = .ok (.iadd, 1) := (congrArg (fun b => decode b 950) cd289).trans (by decide +kernel)
theorem d289_951 : decode (vm_cd 289) 951 = .ok (.iaload, 1) := (congrArg (fun b => decode b 951) cd289).trans (by decide +kernel)
theorem d289_952 : decode (vm_cd 289) 952 = .ok (.aload_n 0, 1) := (congrArg (fun b => decode b 952) cd289).trans (by decide +kernel)
theorem d289_953 : decode (vm_cd 289) 953 = .ok (.iload_n 3, 1) := (congrArg (fun b => decode b 953) cd289).trans (by decide +kernel)
theorem d289_954 : decode (vm_cd 289) 954 = .ok (.iconst 3, 1) := (congrArg (fun b => decode b 954) cd289).trans (by decide +kernel)
theorem d289_955 : decode (vm_cd 289) 955 = .ok (.iadd, 1) := (congrArg (fun b => decode b 955) cd289).trans (by decide +kernel)
theorem d289_956 : decode (vm_cd 289) 956 = .ok (.iaload, 1) := (congrArg (fun b => decode b 956) cd289).trans (by decide +kernel)
theorem d289_957 : decode (vm_cd 289) 957 = .ok (.aload_n 0, 1) := (congrArg (fun b => decode b 957) cd289).trans (by decide +kernel)
theorem d289_958 : decode (vm_cd 289) 958 = .ok (.iload_n 3, 1) := (congrArg (fun b => decode b 958) cd289).trans (by decide +kernel)
theorem d289_959 : decode (vm_cd 289) 959 = .ok (.iconst 4, 1) := (congrArg (fun b => decode b 959) cd289).trans (by decide +kernel)
theorem d289_960 : decode (vm_cd 289) 960 = .ok (.iadd, 1) := (congrArg (fun b => decode b 960) cd289).trans (by decide +kernel)
theorem d289_961 : decode (vm_cd 289) 961 = .ok (.iaload, 1) := (congrArg (fun b => decode b 961) cd289).trans (by decide +kernel)
theorem d289_962 : decode (vm_cd 289) 962 = .ok (.aload_n 0, 1) := (congrArg (fun b => decode b 962) cd289).trans (by decide +kernel)
theorem d289_963 : decode (vm_cd 289) 963 = .ok (.iload_n 3, 1) := (congrArg (fun b => decode b 963) cd289).trans (by decide +kernel)
theorem d289_964 : decode (vm_cd 289) 964 = .ok (.iconst 5, 1) := (congrArg (fun b => decode b 964) cd289).trans (by decide +kernel)
theorem d289_965 : decode (vm_cd 289) 965 = .ok (.iadd, 1) := (congrArg (fun b => decode b 965) cd289).trans (by decide +kernel)
theorem d289_966 : decode (vm_cd 289) 966 = .ok (.iaload, 1) := (congrArg (fun b => decode b 966) cd289).trans (by decide +kernel)
theorem d289_967 : decode (vm_cd 289) 967 = .ok (.invokevirtual 99, 3) := (congrArg (fun b => decode b 967) cd289).trans (by decide +kernel)
theorem d289_970 : decode (vm_cd 289) 970 = .ok (.if_icmp .eq 916, 3) := (congrArg (fun b => decode b 970) cd289).trans (by decide +kernel)
theorem d289_975 : decode (vm_cd 289) 975 = .ok (.aload_n 1, 1) := (congrArg (fun b => decode b 975) cd289).trans (by decide +kernel)
theorem d289_976 : decode (vm_cd 289) 976 = .ok (.aload_n 0, 1) := (congrArg (fun b => decode b 976) cd289).trans (by decide +kernel)
theorem d289_977 : decode (vm_cd 289) 977 = .ok (.iload_n 3, 1) := (congrArg (fun b => decode b 977) cd289).trans (by decide +kernel)
theorem d289_978 : decode (vm_cd 289) 978 = .ok (.iconst 1, 1) := (congrArg (fun b => decode b 978) cd289).trans (by decide +kernel)
theorem d289_979 : decode (vm_cd 289) 979 = .ok (.iadd, 1) := (congrArg (fun b => decode b 979) cd289).trans (by decide +kernel)
theorem d289_980 : decode (vm_cd 289) 980 = .ok (.iaload, 1) := (congrArg (fun b => decode b 980) cd289).trans (by decide +kernel)
theorem d289_981 : decode (vm_cd 289) 981 = .ok (.aload_n 0, 1) := (congrArg (fun b => decode b 981) cd289).trans (by decide +kernel)
theorem d289_982 : decode (vm_cd 289) 982 = .ok (.iload_n 3, 1) := (congrArg (fun b => decode b 982) cd289).trans (by decide +kernel)
theorem d289_983 : decode (vm_cd 289) 983 = .ok (.iconst 2, 1) := (congrArg (fun b => decode b 983) cd289).trans (by decide +kernel)
theorem d289_984 : decode (vm_cd 289) 984 = .ok (.iadd, 1) := (congrArg (fun b => decode b 984) cd289).trans (by decide +kernel)
theorem d289_985 : decode (vm_cd 289) 985 = .ok (.iaload, 1) := (congrArg (fun b => decode b 985) cd289).trans (by decide +kernel)
theorem d289_986 : decode (vm_cd 289) 986 = .ok (.invokevirtual 100, 3) := (congrArg (fun b => decode b 986) cd289).trans (by decide +kernel)
theorem d289_989 : decode (vm_cd 289) 989 = .ok (.aload_n 2, 1) := (congrArg (fun b => decode b 989) cd289).trans (by decide +kernel)
theorem d289_990 : decode (vm_cd 289) 990 = .ok (.aload_n 0, 1) := (congrArg (fun b => decode b 990) cd289).trans (by decide +kernel)
theorem d289_991 : decode (vm_cd 289) 991 = .ok (.iload_n 3, 1) := (congrArg (fun b => decode b 991) cd289).trans (by decide +kernel)
theorem d289_992 : decode (vm_cd 289) 992 = .ok (.iconst 1, 1) := (congrArg (fun b => decode b 992) cd289).trans (by decide +kernel)
theorem d289_993 : decode (vm_cd 289) 993 = .ok (.iadd, 1) := (congrArg (fun b => decode b 993) cd289).trans (by decide +kernel)
theorem d289_994 : decode (vm_cd 289) 994 = .ok (.iaload, 1) := (congrArg (fun b => decode b 994) cd289).trans (by decide +kernel)
theorem d289_995 : decode (vm_cd 289) 995 = .ok (.aload_n 0, 1) := (congrArg (fun b => decode b 995) cd289).trans (by decide +kernel)
theorem d289_996 : decode (vm_cd 289) 996 = .ok (.iload_n 3, 1) := (congrArg (fun b => decode b 996) cd289).trans (by decide +kernel)
theorem d289_997 : decode (vm_cd 289) 997 = .ok (.iconst 2, 1) := (congrArg (fun b => decode b 997) cd289).trans (by decide +kernel)
theorem d289_998 : decode (vm_cd 289) 998 = .ok (.iadd, 1) := (congrArg (fun b => decode b 998) cd289).trans (by decide +kernel)
theorem d289_999 : decode (vm_cd 289) 999 = .ok (.iaload, 1) := (congrArg (fun b => decode b 999) cd289).trans (by decide +kernel)
theorem d289_1000 : decode (vm_cd 289) 1000 = .ok (.invokevirtual 103, 3) := (congrArg (fun b => decode b 1000) cd289).trans (by decide +kernel)
theorem d289_1003 : decode (vm_cd 289) 1003 = .ok (.lcmp, 1) := (congrArg (fun b => decode b 1003) cd289).trans (by decide +kernel)
theorem d289_1004 : decode (vm_cd 289) 1004 = .ok (.ifCond .eq 882, 3) := (congrArg (fun b => decode b 1004) cd289).trans (by decide +kernel)
theorem d289_1009 : decode (vm_cd 289) 1009 = .ok (.aload_n 1, 1) := (congrArg (fun b => decode b 1009) cd289).trans (by decide +kernel)
theorem d289_1010 : decode (vm_cd 289) 1010 = .ok (.aload_n 0, 1) := (congrArg (fun b => decode b 1010) cd289).trans (by decide +kernel)
theorem d289_1011 : decode (vm_cd 289) 1011 = .ok (.iload_n 3, 1) := (congrArg (fun b => decode b 1011) cd289).trans (by decide +kernel)
theorem d289_1012 : decode (vm_cd 289) 1012 = .ok (.iconst 1, 1) := (congrArg (fun b => decode b 1012) cd289).trans (by decide +kernel)
theorem d289_1013 : decode (vm_cd 289) 1013 = .ok (.iadd, 1) := (congrArg (fun b => decode b 1013) cd289).trans (by decide +kernel)
theorem d289_1014 : decode (vm_cd 289) 1014 = .ok (.iaload, 1) := (congrArg (fun b => decode b 1014) cd289).trans (by decide +kernel)
theorem d289_1015 : decode (vm_cd 289) 1015 = .ok (.aload_n 0, 1) := (congrArg (fun b => decode b 1015) cd289).trans (by decide +kernel)
theorem d289_1016 : decode (vm_cd 289) 1016 = .ok (.iload_n 3, 1) := (congrArg (fun b => decode b 1016) cd289).trans (by decide +kernel)
theorem d289_1017 : decode (vm_cd 289) 1017 = .ok (.iconst 2, 1) := (congrArg (fun b => decode b 1017) cd289).trans (by decide +kernel)
theorem d289_1018 : decode (vm_cd 289) 1018 = .ok (.iadd, 1) := (congrArg (fun b => decode b 1018) cd289).trans (by decide +kernel)
theorem d289_1019 : decode (vm_cd 289) 1019 = .ok (.iaload, 1) := (congrArg (fun b => decode b 1019) cd289).trans (by decide +kernel)
theorem d289_1020 : decode (vm_cd 289) 1020 = .ok (.aload_n 0, 1) := (congrArg (fun b => decode b 1020) cd289).trans (by decide +kernel)
theorem d289_1021 : decode (vm_cd 289) 1021 = .ok (.iload_n 3, 1) := (congrArg (fun b => decode b 1021) cd289).trans (by decide +kernel)
theorem d289_1022 : decode (vm_cd 289) 1022 = .ok (.iconst 3, 1) := (congrArg (fun b => decode b 1022) cd289).trans (by decide +kernel)
theorem d289_1023 : decode (vm_cd 289) 1023 = .ok (.iadd, 1) := (congrArg (fun b => decode b 1023) cd289).trans (by decide +kernel)
theorem d289_1024 : decode (vm_cd 289) 1024 = .ok (.iaload, 1) := (congrArg (fun b => decode b 1024) cd289).trans (by decide +kernel)
theorem d289_1025 : decode (vm_cd 289) 1025 = .ok (.invokevirtual 104, 3) := (congrArg (fun b => decode b 1025) cd289).trans (by decide +kernel)
theorem d289_1028 : decode (vm_cd 289) 1028 = .ok (.aload_n 2, 1) := (congrArg (fun b => decode b 1028) cd289).trans (by decide +kernel)
theorem d289_1029 : decode (vm_cd 289) 1029 = .ok (.aload_n 0, 1) := (congrArg (fun b => decode b 1029) cd289).trans (by decide +kernel)
theorem d289_1030 : decode (vm_cd 289) 1030 = .ok (.iload_n 3, 1) := (congrArg (fun b => decode b 1030) cd289).trans (by decide +kernel)
theorem d289_1031 : decode (vm_cd 289) 1031 = .ok (.iconst 1, 1) := (congrArg (fun b => decode b 1031) cd289).trans (by decide +kernel)
theorem d289_1032 : decode (vm_cd 289) 1032 = .ok (.iadd, 1) := (congrArg (fun b => decode b 1032) cd289).trans (by decide +kernel)
theorem d289_1033 : decode (vm_cd 289) 1033 = .ok (.iaload, 1) := (congrArg (fun b => decode b 1033) cd289).trans (by decide +kernel)
theorem d289_1034 : decode (vm_cd 289) 1034 = .ok (.aload_n 0, 1) := (congrArg (fun b => decode b 1034) cd289).trans (by decide +kernel)
theorem d289_1035 : decode (vm_cd 289) 1035 = .ok (.iload_n 3, 1) := (congrArg (fun b => decode b 1035) cd289).trans (by decide +kernel)
theorem d289_1036 : decode (vm_cd 289) 1036 = .ok (.iconst 2, 1) := (congrArg (fun b => decode b 1036) cd289).trans (by decide +kernel)
theorem d289_1037 : decode (vm_cd 289) 1037 = .ok (.iadd, 1) := (congrArg (fun b => decode b 1037) cd289).trans (by decide +kernel)
theorem d289_1038 : decode (vm_cd 289) 1038 = .ok (.iaload, 1) := (congrArg (fun b => decode b 1038) cd289).trans (by decide +kernel)
theorem d289_1039 : decode (vm_cd 289) 1039 = .ok (.aload_n 0, 1) := (congrArg (fun b => decode b 1039) cd289).trans (by decide +kernel)
theorem d289_1040 : decode (vm_cd 289) 1040 = .ok (.iload_n 3, 1) := (congrArg (fun b => decode b 1040) cd289).trans (by decide +kernel)
theorem d289_1041 : decode (vm_cd 289) 1041 = .ok (.iconst 3, 1) := (congrArg (fun b => decode b 1041) cd289).trans (by decide +kernel)
theorem d289_1042 : decode (vm_cd 289) 1042 = .ok (.iadd, 1) := (congrArg (fun b => decode b 1042) cd289).trans (by decide +kernel)
theorem d289_1043 : decode (vm_cd 289) 1043 = .ok (.iaload, 1) := (congrArg (fun b => decode b 1043) cd289).trans (by decide +kernel)
theorem d289_1044 : decode (vm_cd 289) 1044 = .ok (.invokevirtual 107, 3) := (congrArg (fun b => decode b 1044) cd289).trans (by decide +kernel)
theorem d289_1047 : decode (vm_cd 289) 1047 = .ok (.if_icmp .eq 839, 3) := (congrArg (fun b => decode b 1047) cd289).trans (by decide +kernel)
theorem d289_1052 : decode (vm_cd 289) 1052 = .ok (.aload_n 1, 1) := (congrArg (fun b => decode b 1052) cd289).trans (by decide +kernel)
theorem d289_1053 : decode (vm_cd 289) 1053 = .ok (.aload_n 0, 1) := (congrArg (fun b => decode b 1053) cd289).trans (by decide +kernel)
theorem d289_1054 : decode (vm_cd 289) 1054 = .ok (.iload_n 3, 1) := (congrArg (fun b => decode b 1054) cd289).trans (by decide +kernel)
theorem d289_1055 : decode (vm_cd 289) 1055 = .ok (.iconst 1, 1) := (congrArg (fun b => decode b 1055) cd289).trans (by decide +kernel)
theorem d289_1056 : decode (vm_cd 289) 1056 = .ok (.iadd, 1) := (congrArg (fun b => decode b 1056) cd289).trans (by decide +kernel)
theorem d289_1057 : decode (vm_cd 289) 1057 = .ok (.iaload, 1) := (congrArg (fun b => decode b 1057) cd289).trans (by decide +kernel)
theorem d289_1058 : decode (vm_cd 289) 1058 = .ok (.invokevirtual 108, 3) := (congrArg (fun b => decode b 1058) cd289).trans (by decide +kernel)
theorem d289_1061 : decode (vm_cd 289) 1061 = .ok (.aload_n 2, 1) := (congrArg (fun b => decode b 1061) cd289).trans (by decide +kernel)
theorem d289_1062 : decode (vm_cd 289) 1062 = .ok (.aload_n 0, 1) := (congrArg (fun b => decode b 1062) cd289).trans (by decide +kernel)
theorem d289_1063 : decode (vm_cd 289) 1063 = .ok (.iload_n 3, 1) := (congrArg (fun b => decode b 1063) cd289).trans (by decide +kernel)
theorem d289_1064 : decode (vm_cd 289) 1064 = .ok (.iconst 1, 1) := (congrArg (fun b => decode b 1064) cd289).trans (by decide +kernel)
theorem d289_1065 : decode (vm_cd 289) 1065 = .ok (.iadd, 1) := (congrArg (fun b => decode b 1065) cd289).trans (by decide +kernel)
theorem d289_1066 : decode (vm_cd 289) 1066 = .ok (.iaload, 1) := (congrArg (fun b => decode b 1066) cd289).trans (by decide +kernel)
theorem d289_1067 : decode (vm_cd 289) 1067 = .ok (.invokevirtual 111, 3) := (congrArg (fun b => decode b 1067) cd289).trans (by decide +kernel)
theorem d289_1070 : decode (vm_cd 289) 1070 = .ok (.if_icmp .eq 816, 3) := (congrArg (fun b => decode b 1070) cd289).trans (by decide +kernel)
theorem d289_1075 : decode (vm_cd 289) 1075 = .ok (.aload_n 1, 1) := (congrArg (fun b => decode b 1075) cd289).trans (by decide +kernel)
theorem d289_1076 : decode (vm_cd 289) 1076 = .ok (.aload_n 0, 1) := (congrArg (fun b => decode b 1076) cd289).trans (by decide +kernel)
theorem d289_1077 : decode (vm_cd 289) 1077 = .ok (.iload_n 3, 1) := (congrArg (fun b => decode b 1077) cd289).trans (by decide +kernel)
theorem d289_1078 : decode (vm_cd 289) 1078 = .ok (.iconst 1, 1) := (congrArg (fun b => decode b 1078) cd289).trans (by decide +kernel)
theorem d289_1079 : decode (vm_cd 289) 1079 = .ok (.iadd, 1) := (congrArg (fun b => decode b 1079) cd289).trans (by decide +kernel)
theorem d289_1080 : decode (vm_cd 289) 1080 = .ok (.iaload, 1) := (congrArg (fun b => decode b 1080) cd289).trans (by decide +kernel)
theorem d289_1081 : decode (vm_cd 289) 1081 = .ok (.aload_n 0, 1) := (congrArg (fun b => decode b 1081) cd289).trans (by decide +kernel)
theorem d289_1082 : decode (vm_cd 289) 1082 = .ok (.iload_n 3, 1) := (congrArg (fun b => decode b 1082) cd289).trans (by decide +kernel)
theorem d289_1083 : decode (vm_cd 289) 1083 = .ok (.iconst 2, 1) := (congrArg (fun b => decode b 1083) cd289).trans (by decide +kernel)
theorem d289_1084 : decode (vm_cd 289) 1084 = .ok (.iadd, 1) := (congrArg (fun b => decode b 1084) cd289).trans (by decide +kernel)
theorem d289_1085 : decode (vm_cd 289) 1085 = .ok (.iaload, 1) := (congrArg (fun b => decode b 1085) cd289).trans (by decide +kernel)
theorem d289_1086 : decode (vm_cd 289) 1086 = .ok (.aload_n 0, 1) := (congrArg (fun b => decode b 1086) cd289).trans (by decide +kernel)
theorem d289_1087 : decode (vm_cd 289) 1087 = .ok (.iload_n 3, 1) := (congrArg (fun b => decode b 1087) cd289).trans (by decide +kernel)
theorem d289_1088 : decode (vm_cd 289) 1088 = .ok (.iconst 3, 1) := (congrArg (fun b => decode b 1088) cd289).trans (by decide +kernel)
theorem d289_1089 : decode (vm_cd 289) 1089 = .ok (.iadd, 1) := (congrArg (fun b => decode b 1089) cd289).trans (by decide +kernel)
theorem d289_1090 : decode (vm_cd 289) 1090 = .ok (.iaload, 1) := (congrArg (fun b => decode b 1090) cd289).trans (by decide +kernel)
theorem d289_1091 : decode (vm_cd 289) 1091 = .ok (.invokevirtual 112, 3) := (congrArg (fun b => decode b 1091) cd289).trans (by decide +kernel)
theorem d289_1094 : decode (vm_cd 289) 1094 = .ok (.aload_n 2, 1) := (congrArg (fun b => decode b 1094) cd289).trans (by decide +kernel)
theorem d289_1095 : decode (vm_cd 289) 1095 = .ok (.aload_n 0, 1) := (congrArg (fun b => decode b 1095) cd289).trans (by decide +kernel)
theorem d289_1096 : decode (vm_cd 289) 1096 = .ok (.iload_n 3, 1) := (congrArg (fun b => decode b 1096) cd289).trans (by decide +kernel)
theorem d289_1097 : decode (vm_cd 289) 1097 = .ok (.iconst 1, 1) := (congrArg (fun b => decode b 1097) cd289).trans (by decide +kernel)
theorem d289_1098 : decode (vm_cd 289) 1098 = .ok (.iadd, 1) := (congrArg (fun b => decode b 1098) cd289).trans (by decide +kernel)
theorem d289_1099 : decode (vm_cd 289) 1099 = .ok (.iaload, 1) := (congrArg (fun b => decode b 1099) cd289).trans (by decide +kernel)
theorem d289_1100 : decode (vm_cd 289) 1100 = .ok (.aload_n 0, 1) := (congrArg (fun b => decode b 1100) cd289).trans (by decide +kernel)
theorem d289_1101 : decode (vm_cd 289) 1101 = .ok (.iload_n 3, 1) := (congrArg (fun b => decode b 1101) cd289).trans (by decide +kernel)
theorem d289_1102 : decode (vm_cd 289) 1102 = .ok (.iconst 2, 1) := (congrArg (fun b => decode b 1102) cd289).trans (by decide +kernel)
theorem d289_1103 : decode (vm_cd 289) 1103 = .ok (.iadd, 1) := (congrArg (fun b => decode b 1103) cd289).trans (by decide +kernel)
theorem d289_1104 : decode (vm_cd 289) 1104 = .ok (.iaload, 1) := (congrArg (fun b => decode b 1104) cd289).trans (by decide +kernel)
theorem d289_1105 : decode (vm_cd 289) 1105 = .ok (.aload_n 0, 1) := (congrArg (fun b => decode b 1105) cd289).trans (by decide +kernel)
theorem d289_1106 : decode (vm_cd 289) 1106 = .ok (.iload_n 3, 1) := (congrArg (fun b => decode b 1106) cd289).trans (by decide +kernel)
theorem d289_1107 : decode (vm_cd 289) 1107 = .ok (.iconst 3, 1) := (congrArg (fun b => decode b 1107) cd289).trans (by decide +kernel)
theorem d289_1108 : decode (vm_cd 289) 1108 = .ok (.iadd, 1) := (congrArg (fun b => decode b 1108) cd289).trans (by decide +kernel)
theorem d289_1109 : decode (vm_cd 289) 1109 = .ok (.iaload, 1) := (congrArg (fun b => decode b 1109) cd289).trans (by decide +kernel)
theorem d289_1110 : decode (vm_cd 289) 1110 = .ok (.invokevirtual 115, 3) := (congrArg (fun b => decode b 1110) cd289).trans (by decide +kernel)
theorem d289_1113 : decode (vm_cd 289) 1113 = .ok (.if_icmp .eq 773, 3) := (congrArg (fun b => decode b 1113) cd289).trans (by decide +kernel)
theorem d289_1118 : decode (vm_cd 289) 1118 = .ok (.aload_n 1, 1) := (congrArg (fun b => decode b 1118) cd289).trans (by decide +kernel)
theorem d289_1119 : decode (vm_cd 289) 1119 = .ok (.aload_n 0, 1) := (congrArg (fun b => decode b 1119) cd289).trans (by decide +kernel)
theorem d289_1120 : decode (vm_cd 289) 1120 = .ok (.iload_n 3, 1) := (congrArg (fun b => decode b 1120) cd289).trans (by decide +kernel)
theorem d289_1121 : decode (vm_cd 289) 1121 = .ok (.iconst 1, 1) := (congrArg (fun b => decode b 1121) cd289).trans (by decide +kernel)
theorem d289_1122 : decode (vm_cd 289) 1122 = .ok (.iadd, 1) := (congrArg (fun b => decode b 1122) cd289).trans (by decide +kernel)
theorem d289_1123 : decode (vm_cd 289) 1123 = .ok (.iaload, 1) := (congrArg (fun b => decode b 1123) cd289).trans (by decide +kernel)
theorem d289_1124 : decode (vm_cd 289) 1124 = .ok (.aload_n 0, 1) := (congrArg (fun b => decode b 1124) cd289).trans (by decide +kernel)
theorem d289_1125 : decode (vm_cd 289) 1125 = .ok (.iload_n 3, 1) := (congrArg (fun b => decode b 1125) cd289).trans (by decide +kernel)
theorem d289_1126 : decode (vm_cd 289) 1126 = .ok (.iconst 2, 1) := (congrArg (fun b => decode b 1126) cd289).trans (by decide +kernel)
theorem d289_1127 : decode (vm_cd 289) 1127 = .ok (.iadd, 1) := (congrArg (fun b => decode b 1127) cd289).trans (by decide +kernel)
theorem d289_1128 : decode (vm_cd 289) 1128 = .ok (.iaload, 1) := (congrArg (fun b => decode b 1128) cd289).trans (by decide +kernel)
theorem d289_1129 : decode (vm_cd 289) 1129 = .ok (.invokevirtual 116, 3) := (congrArg (fun b => decode b 1129) cd289).trans (by decide +kernel)
theorem d289_1132 : decode (vm_cd 289) 1132 = .ok (.aload_n 2, 1) := (congrArg (fun b => decode b 1132) cd289).trans (by decide +kernel)
theorem d289_1133 : decode (vm_cd 289) 1133 = .ok (.aload_n 0, 1) := (congrArg (fun b => decode b 1133) cd289).trans (by decide +kernel)
theorem d289_1134 : decode (vm_cd 289) 1134 = .ok (.iload_n 3, 1) := (congrArg (fun b => decode b 1134) cd289).trans (by decide +kernel)
theorem d289_1135 : decode (vm_cd 289) 1135 = .ok (.iconst 1, 1) := (congrArg (fun b => decode b 1135) cd289).trans (by decide +kernel)
theorem d289_1136 : decode (vm_cd 289) 1136 = .ok (.iadd, 1) := (congrArg (fun b => decode b 1136) cd289).trans (by decide +kernel)
theorem d289_1137 : decode (vm_cd 289) 1137 = .ok (.iaload, 1) := (congrArg (fun b => decode b 1137) cd289).trans (by decide +kernel)
theorem d289_1138 : decode (vm_cd 289) 1138 = .ok (.aload_n 0, 1) := (congrArg (fun b => decode b 1138) cd289).trans (by decide +kernel)
theorem d289_1139 : decode (vm_cd 289) 1139 = .ok (.iload_n 3, 1) := (congrArg (fun b => decode b 1139) cd289).trans (by decide +kernel)
theorem d289_1140 : decode (vm_cd 289) 1140 = .ok (.iconst 2, 1) := (congrArg (fun b => decode b 1140) cd289).trans (by decide +kernel)
theorem d289_1141 : decode (vm_cd 289) 1141 = .ok (.iadd, 1) := (congrArg (fun b => decode b 1141) cd289).trans (by decide +kernel)
theorem d289_1142 : decode (vm_cd 289) 1142 = .ok (.iaload, 1) := (congrArg (fun b => decode b 1142) cd289).trans (by decide +kernel)
theorem d289_1143 : decode (vm_cd 289) 1143 = .ok (.invokevirtual 119, 3) := (congrArg (fun b => decode b 1143) cd289).trans (by decide +kernel)
theorem d289_1146 : decode (vm_cd 289) 1146 = .ok (.if_icmp .eq 740, 3) := (congrArg (fun b => decode b 1146) cd289).trans (by decide +kernel)
theorem d289_1151 : decode (vm_cd 289) 1151 = .ok (.aload_n 1, 1) := (congrArg (fun b => decode b 1151) cd289).trans (by decide +kernel)
theorem d289_1152 : decode (vm_cd 289) 1152 = .ok (.aload_n 0, 1) := (congrArg (fun b => decode b 1152) cd289).trans (by decide +kernel)
theorem d289_1153 : decode (vm_cd 289) 1153 = .ok (.iload_n 3, 1) := (congrArg (fun b => decode b 1153) cd289).trans (by decide +kernel)
theorem d289_1154 : decode (vm_cd 289) 1154 = .ok (.iconst 1, 1) := (congrArg (fun b => decode b 1154) cd289).trans (by decide +kernel)
theorem d289_1155 : decode (vm_cd 289) 1155 = .ok (.iadd, 1) := (congrArg (fun b => decode b 1155) cd289).trans (by decide +kernel)
theorem d289_1156 : decode (vm_cd 289) 1156 = .ok (.iaload, 1) := (congrArg (fun b => decode b 1156) cd289).trans (by decide +kernel)
theorem d289_1157 : decode (vm_cd 289) 1157 = .ok (.aload_n 0, 1) := (congrArg (fun b => decode b 1157) cd289).trans (by decide +kernel)
theorem d289_1158 : decode (vm_cd 289) 1158 = .ok (.iload_n 3, 1) := (congrArg (fun b => decode b 1158) cd289).trans (by decide +kernel)
theorem d289_1159 : decode (vm_cd 289) 1159 = .ok (.iconst 2, 1) := (congrArg (fun b => decode b 1159) cd289).trans (by decide +kernel)
theorem d289_1160 : decode (vm_cd 289) 1160 = .ok (.iadd, 1) := (congrArg (fun b => decode b 1160) cd289).trans (by decide +kernel)
theorem d289_1161 : decode (vm_cd 289) 1161 = .ok (.iaload, 1) := (congrArg (fun b => decode b 1161) cd289).trans (by decide +kernel)
theorem d289_1162 : decode (vm_cd 289) 1162 = .ok (.invokevirtual 120, 3) := (congrArg (fun b => decode b 1162) cd289).trans (by decide +kernel)
theorem d289_1165 : decode (vm_cd 289) 1165 = .ok (.aload_n 2, 1) := (congrArg (fun b => decode b 1165) cd289).trans (by decide +kernel)
theorem d289_1166 : decode (vm_cd 289) 1166 = .ok (.aload_n 0, 1) := (congrArg (fun b => decode b 1166) cd289).trans (by decide +kernel)
theorem d289_1167 : decode (vm_cd 289) 1167 = .ok (.iload_n 3, 1) := (congrArg (fun b => decode b 1167) cd289).trans (by decide +kernel)
theorem d289_1168 : decode (vm_cd 289) 1168 = .ok (.iconst 1, 1) := (congrArg (fun b => decode b 1168) cd289).trans (by decide +kernel)
theorem d289_1169 : decode (vm_cd 289) 1169 = .ok (.iadd, 1) := (congrArg (fun b => decode b 1169) cd289).trans (by decide +kernel)
theorem d289_1170 : decode (vm_cd 289) 1170 = .ok (.iaload, 1) := (congrArg (fun b => decode b 1170) cd289).trans (by decide +kernel)
theorem d289_1171 : decode (vm_cd 289) 1171 = .ok (.aload_n 0, 1) := (congrArg (fun b => decode b 1171) cd289).trans (by decide +kernel)
theorem d289_1172 : decode (vm_cd 289) 1172 = .ok (.iload_n 3, 1) := (congrArg (fun b => decode b 1172) cd289).trans (by decide +kernel)
theorem d289_1173 : decode (vm_cd 289) 1173 = .ok (.iconst 2, 1) := (congrArg (fun b => decode b 1173) cd289).trans (by decide +kernel)
theorem d289_1174 : decode (vm_cd 289) 1174 = .ok (.iadd, 1) := (congrArg (fun b => decode b 1174) cd289).trans (by decide +kernel)
theorem d289_1175 : decode (vm_cd 289) 1175 = .ok (.iaload, 1) := (congrArg (fun b => decode b 1175) cd289).trans (by decide +kernel)
theorem d289_1176 : decode (vm_cd 289) 1176 = .ok (.invokevirtual 123, 3) := (congrArg (fun b => decode b 1176) cd289).trans (by decide +kernel)
theorem d289_1179 : decode (vm_cd 289) 1179 = .ok (.if_icmp .eq 707, 3) := (congrArg (fun b => decode b 1179) cd289).trans (by decide +kernel)
theorem d289_1184 : decode (vm_cd 289) 1184 = .ok (.aload_n 1, 1) := (congrArg (fun b => decode b 1184) cd289).trans (by decide +kernel)
theorem d289_1185 : decode (vm_cd 289) 1185 = .ok (.aload_n 0, 1) := (congrArg (fun b => decode b 1185) cd289).trans (by decide +kernel)
theorem d289_1186 : decode (vm_cd 289) 1186 = .ok (.iload_n 3, 1) := (congrArg (fun b => decode b 1186) cd289).trans (by decide +kernel)
theorem d289_1187 : decode (vm_cd 289) 1187 = .ok (.iconst 1, 1) := (congrArg (fun b => decode b 1187) cd289).trans (by decide +kernel)
theorem d289_1188 : decode (vm_cd 289) 1188 = .ok (.iadd, 1) := (congrArg (fun b => decode b 1188) cd289).trans (by decide +kernel)
theorem d289_1189 : decode (vm_cd 289) 1189 = .ok (.iaload, 1) := (congrArg (fun b => decode b 1189) cd289).trans (by decide +kernel)
theorem d289_1190 : decode (vm_cd 289) 1190 = .ok (.aload_n 0, 1) := (congrArg (fun b => decode b 1190) cd289).trans (by decide +kernel)
theorem d289_1191 : decode (vm_cd 289) 1191 = .ok (.iload_n 3, 1) := (congrArg (fun b => decode b 1191) cd289).trans (by decide +kernel)
theorem d289_1192 : decode (vm_cd 289) 1192 = .ok (.iconst 2, 1) := (congrArg (fun b => decode b 1192) cd289).trans (by decide +kernel)
theorem d289_1193 : decode (vm_cd 289) 1193 = .ok (.iadd, 1) := (congrArg (fun b => decode b 1193) cd289).trans (by decide +kernel)
theorem d289_1194 : decode (vm_cd 289) 1194 = .ok (.iaload, 1) := (congrArg (fun b => decode b 1194) cd289).trans (by decide +kernel)
theorem d289_1195 : decode (vm_cd 289) 1195 = .ok (.invokevirtual 124, 3) := (congrArg (fun b => decode b 1195) cd289).trans (by decide +kernel)
theorem d289_1198 : decode (vm_cd 289) 1198 = .ok (.aload_n 2, 1) := (congrArg (fun b => decode b 1198) cd289).trans (by decide +kernel)
theorem d289_1199 : decode (vm_cd 289) 1199 = .ok (.aload_n 0, 1) := (congrArg (fun b => decode b 1199) cd289).trans (by decide +kernel)
theorem d289_1200 : decode (vm_cd 289) 1200 = .ok (.iload_n 3, 1) := (congrArg (fun b => decode b 1200) cd289).trans (by decide +kernel)
theorem d289_1201 : decode (vm_cd 289) 1201 = .ok (.iconst 1, 1) := (congrArg (fun b => decode b 1201) cd289).trans (by decide +kernel)
theorem d289_1202 : decode (vm_cd 289) 1202 = .ok (.iadd, 1) := (congrArg (fun b => decode b 1202) cd289).trans (by decide +kernel)
theorem d289_1203 : decode (vm_cd 289) 1203 = .ok (.iaload, 1) := (congrArg (fun b => decode b 1203) cd289).trans (by decide +kernel)
theorem d289_1204 : decode (vm_cd 289) 1204 = .ok (.aload_n 0, 1) := (congrArg (fun b => decode b 1204) cd289).trans (by decide +kernel)
theorem d289_1205 : decode (vm_cd 289) 1205 = .ok (.iload_n 3, 1) := (congrArg (fun b => decode b 1205) cd289).trans (by decide +kernel)
theorem d289_1206 : decode (vm_cd 289) 1206 = .ok (.iconst 2, 1) := (congrArg (fun b => decode b 1206) cd289).trans (by decide +kernel)
theorem d289_1207 : decode (vm_cd 289) 1207 = .ok (.iadd, 1) := (congrArg (fun b => decode b 1207) cd289).trans (by decide +kernel)
theorem d289_1208 : decode (vm_cd 289) 1208 = .ok (.iaload, 1) := (congrArg (fun b => decode b 1208) cd289).trans (by decide +kernel)
theorem d289_1209 : decode (vm_cd 289) 1209 = .ok (.invokevirtual 127, 3) := (congrArg (fun b => decode b 1209) cd289).trans (by decide +kernel)
theorem d289_1212 : decode (vm_cd 289) 1212 = .ok (.if_icmp .eq 674, 3) := (congrArg (fun b => decode b 1212) cd289).trans (by decide +kernel)
theorem d289_1217 : decode (vm_cd 289) 1217 = .ok (.aload_n 1, 1) := (congrArg (fun b => decode b 1217) cd289).trans (by decide +kernel)
theorem d289_1218 : decode (vm_cd 289) 1218 = .ok (.aload_n 0, 1) := (congrArg (fun b => decode b 1218) cd289).trans (by decide +kernel)
theorem d289_1219 : decode (vm_cd 289) 1219 = .ok (.iload_n 3, 1) := (congrArg (fun b => decode b 1219) cd289).trans (by decide +kernel)
theorem d289_1220 : decode (vm_cd 289) 1220 = .ok (.iconst 1, 1) := (congrArg (fun b => decode b 1220) cd289).trans (by decide +kernel)
theorem d289_1221 : decode (vm_cd 289) 1221 = .ok (.iadd, 1) := (congrArg (fun b => decode b 1221) cd289).trans (by decide +kernel)
theorem d289_1222 : decode (vm_cd 289) 1222 = .ok (.iaload, 1) := (congrArg (fun b => decode b 1222) cd289).trans (by decide +kernel)
theorem d289_1223 : decode (vm_cd 289) 1223 = .ok (.invokevirtual 128, 3) := (congrArg (fun b => decode b 1223) cd289).trans (by decide +kernel)
theorem d289_1226 : decode (vm_cd 289) 1226 = .ok (.aload_n 2, 1) := (congrArg (fun b => decode b 1226) cd289).trans (by decide +kernel)
theorem d289_1227 : decode (vm_cd 289) 1227 = .ok (.aload_n 0, 1) := (congrArg (fun b => decode b 1227) cd289).trans (by decide +kernel)
theorem d289_1228 : decode (vm_cd 289) 1228 = .ok (.iload_n 3, 1) := (congrArg (fun b => decode b 1228) cd289).trans (by decide +kernel)
theorem d289_1229 : decode (vm_cd 289) 1229 = .ok (.iconst 1, 1) := (congrArg (fun b => decode b 1229) cd289).trans (by decide +kernel)
theorem d289_1230 : decode (vm_cd 289) 1230 = .ok (.iadd, 1) := (congrArg (fun b => decode b 1230) cd289).trans (by decide +kernel)
theorem d289_1231 : decode (vm_cd 289) 1231 = .ok (.iaload, 1) := (congrArg (fun b => decode b 1231) cd289).trans (by decide +kernel)
theorem d289_1232 : decode (vm_cd 289) 1232 = .ok (.invokevirtual 131, 3) := (congrArg (fun b => decode b 1232) cd289).trans (by decide +kernel)
theorem d289_1235 : decode (vm_cd 289) 1235 = .ok (.if_icmp .eq 651, 3) := (congrArg (fun b => decode b 1235) cd289).trans (by decide +kernel)
theorem d289_1240 : decode (vm_cd 289) 1240 = .ok (.aload_n 1, 1) := (congrArg (fun b => decode b 1240) cd289).trans (by decide +kernel)
theorem d289_1241 : decode (vm_cd 289) 1241 = .ok (.aload_n 0, 1) := (congrArg (fun b => decode b 1241) cd289).trans (by decide +kernel)
theorem d289_1242 : decode (vm_cd 289) 1242 = .ok (.iload_n 3, 1) := (congrArg (fun b => decode b 1242) cd289).trans (by decide +kernel)
theorem d289_1243 : decode (vm_cd 289) 1243 = .ok (.iconst 1, 1) := (congrArg (fun b => decode b 1243) cd289).trans (by decide +kernel)
theorem d289_1244 : decode (vm_cd 289) 1244 = .ok (.iadd, 1) := (congrArg (fun b => decode b 1244) cd289).trans (by decide +kernel)
theorem d289_1245 : decode (vm_cd 289) 1245 = .ok (.iaload, 1) := (congrArg (fun b => decode b 1245) cd289).trans (by decide +kernel)
theorem d289_1246 : decode (vm_cd 289) 1246 = .ok (.aload_n 0, 1) := (congrArg (fun b => decode b 1246) cd289).trans (by decide +kernel)
theorem d289_1247 : decode (vm_cd 289) 1247 = .ok (.iload_n 3, 1) := (congrArg (fun b => decode b 1247) cd289).trans (by decide +kernel)
theorem d289_1248 : decode (vm_cd 289) 1248 = .ok (.iconst 2, 1) := (congrArg (fun b => decode b 1248) cd289).trans (by decide +kernel)
theorem d289_1249 : decode (vm_cd 289) 1249 = .ok (.iadd, 1) := (congrArg (fun b => decode b 1249) cd289).trans (by decide +kernel)
theorem d289_1250 : decode (vm_cd 289) 1250 = .ok (.iaload, 1) := (congrArg (fun b => decode b 1250) cd289).trans (by decide +kernel)
theorem d289_1251 : decode (vm_cd 289) 1251 = .ok (.aload_n 0, 1) := (congrArg (fun b => decode b 1251) cd289).trans (by decide +kernel)
theorem d289_1252 : decode (vm_cd 289) 1252 = .ok (.iload_n 3, 1) := (congrArg (fun b => decode b 1252) cd289).trans (by decide +kernel)
theorem d289_1253 : decode (vm_cd 289) 1253 = .ok (.iconst 3, 1) := (congrArg (fun b => decode b 1253) cd289).trans (by decide +kernel)
theorem d289_1254 : decode (vm_cd 289) 1254 = .ok (.iadd, 1) := (congrArg (fun b => decode b 1254) cd289).trans (by decide +kernel)
theorem d289_1255 : decode (vm_cd 289) 1255 = .ok (.iaload, 1) := (congrArg (fun b => decode b 1255) cd289).trans (by decide +kernel)
theorem d289_1256 : decode (vm_cd 289) 1256 = .ok (.invokevirtual 132, 3) := (congrArg (fun b => decode b 1256) cd289).trans (by decide +kernel)
theorem d289_1259 : decode (vm_cd 289) 1259 = .ok (.aload_n 2, 1) := (congrArg (fun b => decode b 1259) cd289).trans (by decide +kernel)
theorem d289_1260 : decode (vm_cd 289) 1260 = .ok (.aload_n 0, 1) := (congrArg (fun b => decode b 1260) cd289).trans (by decide +kernel)
theorem d289_1261 : decode (vm_cd 289) 1261 = .ok (.iload_n 3, 1) := (congrArg (fun b => decode b 1261) cd289).trans (by decide +kernel)
theorem d289_1262 : decode (vm_cd 289) 1262 = .ok (.iconst 1, 1) := (congrArg (fun b => decode b 1262) cd289).trans (by decide +kernel)
theorem d289_1263 : decode (vm_cd 289) 1263 = .ok (.iadd, 1) := (congrArg (fun b => decode b 1263) cd289).trans (by decide +kernel)
theorem d289_1264 : decode (vm_cd 289) 1264 = .ok (.iaload, 1) := (congrArg (fun b => decode b 1264) cd289).trans (by decide +kernel)
theorem d289_1265 : decode (vm_cd 289) 1265 = .ok (.aload_n 0, 1) := (congrArg (fun b => decode b 1265) cd289).trans (by decide +kernel)
theorem d289_1266 : decode (vm_cd 289) 1266 = .ok (.iload_n 3, 1) := (congrArg (fun b => decode b 1266) cd289).trans (by decide +kernel)
theorem d289_1267 : decode (vm_cd 289) 1267 = .ok (.iconst 2, 1) := (congrArg (fun b => decode b 1267) cd289).trans (by decide +kernel)
theorem d289_1268 : decode (vm_cd 289) 1268 = .ok (.iadd, 1) := (congrArg (fun b => decode b 1268) cd289).trans (by decide +kernel)
theorem d289_1269 : decode (vm_cd 289) 1269 = .ok (.iaload, 1) := (congrArg (fun b => decode b 1269) cd289).trans (by decide +kernel)
theorem d289_1270 : decode (vm_cd 289) 1270 = .ok (.aload_n 0, 1) := (congrArg (fun b => decode b 1270) cd289).trans (by decide +kernel)
theorem d289_1271 : decode (vm_cd 289) 1271 = .ok (.iload_n 3, 1) := (congrArg (fun b => decode b 1271) cd289).trans (by decide +kernel)
theorem d289_1272 : decode (vm_cd 289) 1272 = .ok (.iconst 3, 1) := (congrArg (fun b => decode b 1272) cd289).trans (by decide +kernel)
theorem d289_1273 : decode (vm_cd 289) 1273 = .ok (.iadd, 1) := (congrArg (fun b => decode b 1273) cd289).trans (by decide +kernel)
theorem d289_1274 : decode (vm_cd 289) 1274 = .ok (.iaload, 1) := (congrArg (fun b => decode b 1274) cd289).trans (by decide +kernel)
theorem d289_1275 : decode (vm_cd 289) 1275 = .ok (.invokevirtual 136, 3) := (congrArg (fun b => decode b 1275) cd289).trans (by decide +kernel)
theorem d289_1278 : decode (vm_cd 289) 1278 = .ok (.lcmp, 1) := (congrArg (fun b => decode b 1278) cd289).trans (by decide +kernel)
theorem d289_1279 : decode (vm_cd 289) 1279 = .ok (.ifCond .eq 607, 3) := (congrArg (fun b => decode b 1279) cd289).trans (by decide +kernel)
theorem d289_1284 : decode (vm_cd 289) 1284 = .ok (.aload_n 1, 1) := (congrArg (fun b => decode b 1284) cd289).trans (by decide +kernel)
theorem d289_1285 : decode (vm_cd 289) 1285 = .ok (.aload_n 0, 1) := (congrArg (fun b => decode b 1285) cd289).trans (by decide +kernel)
theorem d289_1286 : decode (vm_cd 289) 1286 = .ok (.iload_n 3, 1) := (congrArg (fun b => decode b 1286) cd289).trans (by decide +kernel)
theorem d289_1287 : decode (vm_cd 289) 1287 = .ok (.iconst 1, 1) := (congrArg (fun b => decode b 1287) cd289).trans (by decide +kernel)
theorem d289_1288 : decode (vm_cd 289) 1288 = .ok (.iadd, 1) := (congrArg (fun b => decode b 1288) cd289).trans (by decide +kernel)
theorem d289_1289 : decode (vm_cd 289) 1289 = .ok (.iaload, 1) := (congrArg (fun b => decode b 1289) cd289).trans (by decide +kernel)
theorem d289_1290 : decode (vm_cd 289) 1290 = .ok (.aload_n 0, 1) := (congrArg (fun b => decode b 1290) cd289).trans (by decide +kernel)
theorem d289_1291 : decode (vm_cd 289) 1291 = .ok (.iload_n 3, 1) := (congrArg (fun b => decode b 1291) cd289).trans (by decide +kernel)
theorem d289_1292 : decode (vm_cd 289) 1292 = .ok (.iconst 2, 1) := (congrArg (fun b => decode b 1292) cd289).trans (by decide +kernel)
theorem d289_1293 : decode (vm_cd 289) 1293 = .ok (.iadd, 1) := (congrArg (fun b => decode b 1293) cd289).trans (by decide +kernel)
theorem d289_1294 : decode (vm_cd 289) 1294 = .ok (.iaload, 1) := (congrArg (fun b => decode b 1294) cd289).trans (by decide +kernel)
theorem d289_1295 : decode (vm_cd 289) 1295 = .ok (.aload_n 0, 1) := (congrArg (fun b => decode b 1295) cd289).trans (by decide +kernel)
theorem d289_1296 : decode (vm_cd 289) 1296 = .ok (.iload_n 3, 1) := (congrArg (fun b => decode b 1296) cd289).trans (by decide +kernel)
theorem d289_1297 : decode (vm_cd 289) 1297 = .ok (.iconst 3, 1) := (congrArg (fun b => decode b 1297) cd289).trans (by decide +kernel)
theorem d289_1298 : decode (vm_cd 289) 1298 = .ok (.iadd, 1) := (congrArg (fun b => decode b 1298) cd289).trans (by decide +kernel)
theorem d289_1299 : decode (vm_cd 289) 1299 = .ok (.iaload, 1) := (congrArg (fun b => decode b 1299) cd289).trans (by decide +kernel)
theorem d289_1300 : decode (vm_cd 289) 1300 = .ok (.invokevirtual 137, 3) := (congrArg (fun b => decode b 1300) cd289).trans (by decide +kernel)
theorem d289_1303 : decode (vm_cd 289) 1303 = .ok (.aload_n 2, 1) := (congrArg (fun b => decode b 1303) cd289).trans (by decide +kernel)
theorem d289_1304 : decode (vm_cd 289) 1304 = .ok (.aload_n 0, 1) := (congrArg (fun b => decode b 1304) cd289).trans (by decide +kernel)
theorem d289_1305 : decode (vm_cd 289) 1305 = .ok (.iload_n 3, 1) := (congrArg (fun b => decode b 1305) cd289).trans (by decide +kernel)
theorem d289_1306 : decode (vm_cd 289) 1306 = .ok (.iconst 1, 1) := (congrArg (fun b => decode b 1306) cd289).trans (by decide +kernel)
theorem d289_1307 : decode (vm_cd 289) 1307 = .ok (.iadd, 1) := (congrArg (fun b => decode b 1307) cd289).trans (by decide +kernel)
theorem d289_1308 : decode (vm_cd 289) 1308 = .ok (.iaload, 1) := (congrArg (fun b => decode b 1308) cd289).trans (by decide +kernel)
theorem d289_1309 : decode (vm_cd 289) 1309 = .ok (.aload_n 0, 1) := (congrArg (fun b => decode b 1309) cd289).trans (by decide +kernel)
theorem d289_1310 : decode (vm_cd 289) 1310 = .ok (.iload_n 3, 1) := (congrArg (fun b => decode b 1310) cd289).trans (by decide +kernel)
theorem d289_1311 : decode (vm_cd 289) 1311 = .ok (.iconst 2, 1) := (congrArg (fun b => decode b 1311) cd289).trans (by decide +kernel)
theorem d289_1312 : decode (vm_cd 289) 1312 = .ok (.iadd, 1) := (congrArg (fun b => decode b 1312) cd289).trans (by decide +kernel)
theorem d289_1313 : decode (vm_cd 289) 1313 = .ok (.iaload, 1) := (congrArg (fun b => decode b 1313) cd289).trans (by decide +kernel)
theorem d289_1314 : decode (vm_cd 289) 1314 = .ok (.aload_n 0, 1) := (congrArg (fun b => decode b 1314) cd289).trans (by decide +kernel)
theorem d289_1315 : decode (vm_cd 289) 1315 = .ok (.iload_n 3, 1) := (congrArg (fun b => decode b 1315) cd289).trans (by decide +kernel)
theorem d289_1316 : decode (vm_cd 289) 1316 = .ok (.iconst 3, 1) := (congrArg (fun b => decode b 1316) cd289).trans (by decide +kernel)
theorem d289_1317 : decode (vm_cd 289) 1317 = .ok (.iadd, 1) := (congrArg (fun b => decode b 1317) cd289).trans (by decide +kernel)
theorem d289_1318 : decode (vm_cd 289) 1318 = .ok (.iaload, 1) := (congrArg (fun b => decode b 1318) cd289).trans (by decide +kernel)
theorem d289_1319 : decode (vm_cd 289) 1319 = .ok (.invokevirtual 140, 3) := (congrArg (fun b => decode b 1319) cd289).trans (by decide +kernel)
theorem d289_1322 : decode (vm_cd 289) 1322 = .ok (.if_icmp .eq 564, 3) := (congrArg (fun b => decode b 1322) cd289).trans (by decide +kernel)
theorem d289_1327 : decode (vm_cd 289) 1327 = .ok (.aload_n 1, 1) := (congrArg (fun b => decode b 1327) cd289).trans (by decide +kernel)
theorem d289_1328 : decode (vm_cd 289) 1328 = .ok (.invokevirtual 141, 3) := (congrArg (fun b => decode b 1328) cd289).trans (by decide +kernel)
theorem d289_1331 : decode (vm_cd 289) 1331 = .ok (.aload_n 2, 1) := (congrArg (fun b => decode b 1331) cd289).trans (by decide +kernel)
theorem d289_1332 : decode (vm_cd 289) 1332 = .ok (.invokevirtual 145, 3) := (congrArg (fun b => decode b 1332) cd289).trans (by decide +kernel)
theorem d289_1335 : decode (vm_cd 289) 1335 = .ok (.if_icmp .eq 551, 3) := (congrArg (fun b => decode b 1335) cd289).trans (by decide +kernel)
theorem d289_1340 : decode (vm_cd 289) 1340 = .ok (.aload_n 1, 1) := (congrArg (fun b => decode b 1340) cd289).trans (by decide +kernel)
theorem d289_1341 : decode (vm_cd 289) 1341 = .ok (.aload_n 0, 1) := (congrArg (fun b => decode b 1341) cd289).trans (by decide +kernel)
theorem d289_1342 : decode (vm_cd 289) 1342 = .ok (.iload_n 3, 1) := (congrArg (fun b => decode b 1342) cd289).trans (by decide +kernel)
theorem d289_1343 : decode (vm_cd 289) 1343 = .ok (.iconst 1, 1) := (congrArg (fun b => decode b 1343) cd289).trans (by decide +kernel)
theorem d289_1344 : decode (vm_cd 289) 1344 = .ok (.iadd, 1) := (congrArg (fun b => decode b 1344) cd289).trans (by decide +kernel)
theorem d289_1345 : decode (vm_cd 289) 1345 = .ok (.iaload, 1) := (congrArg (fun b => decode b 1345) cd289).trans (by decide +kernel)
theorem d289_1346 : decode (vm_cd 289) 1346 = .ok (.invokevirtual 146, 3) := (congrArg (fun b => decode b 1346) cd289).trans (by decide +kernel)
theorem d289_1349 : decode (vm_cd 289) 1349 = .ok (.aload_n 2, 1) := (congrArg (fun b => decode b 1349) cd289).trans (by decide +kernel)
theorem d289_1350 : decode (vm_cd 289) 1350 = .ok (.aload_n 0, 1) := (congrArg (fun b => decode b 1350) cd289).trans (by decide +kernel)
theorem d289_1351 : decode (vm_cd 289) 1351 = .ok (.iload_n 3, 1) := (congrArg (fun b => decode b 1351) cd289).trans (by decide +kernel)
theorem d289_1352 : decode (vm_cd 289) 1352 = .ok (.iconst 1, 1) := (congrArg (fun b => decode b 1352) cd289).trans (by decide +kernel)
theorem d289_1353 : decode (vm_cd 289) 1353 = .ok (.iadd, 1) := (congrArg (fun b => decode b 1353) cd289).trans (by decide +kernel)
theorem d289_1354 : decode (vm_cd 289) 1354 = .ok (.iaload, 1) := (congrArg (fun b => decode b 1354) cd289).trans (by decide +kernel)
theorem d289_1355 : decode (vm_cd 289) 1355 = .ok (.invokevirtual 149, 3) := (congrArg (fun b => decode b 1355) cd289).trans (by decide +kernel)
theorem d289_1358 : decode (vm_cd 289) 1358 = .ok (.if_icmp .eq 528, 3) := (congrArg (fun b => decode b 1358) cd289).trans (by decide +kernel)
theorem d289_1363 : decode (vm_cd 289) 1363 = .ok (.aload_n 1, 1) := (congrArg (fun b => decode b 1363) cd289).trans (by decide +kernel)
theorem d289_1364 : decode (vm_cd 289) 1364 = .ok (.aload_n 0, 1) := (congrArg (fun b => decode b 1364) cd289).trans (by decide +kernel)
theorem d289_1365 : decode (vm_cd 289) 1365 = .ok (.iload_n 3, 1) := (congrArg (fun b => decode b 1365) cd289).trans (by decide +kernel)
theorem d289_1366 : decode (vm_cd 289) 1366 = .ok (.iconst 1, 1) := (congrArg (fun b => decode b 1366) cd289).trans (by decide +kernel)
theorem d289_1367 : decode (vm_cd 289) 1367 = .ok (.iadd, 1) := (congrArg (fun b => decode b 1367) cd289).trans (by decide +kernel)
theorem d289_1368 : decode (vm_cd 289) 1368 = .ok (.iaload, 1) := (congrArg (fun b => decode b 1368) cd289).trans (by decide +kernel)
theorem d289_1369 : decode (vm_cd 289) 1369 = .ok (.i2l, 1) := (congrArg (fun b => decode b 1369) cd289).trans (by decide +kernel)
theorem d289_1370 : decode (vm_cd 289) 1370 = .ok (.bipush 32, 2) := (congrArg (fun b => decode b 1370) cd289).trans (by decide +kernel)
theorem d289_1372 : decode (vm_cd 289) 1372 = .ok (.lshl, 1) := (congrArg (fun b => decode b 1372) cd289).trans (by decide +kernel)
theorem d289_1373 : decode (vm_cd 289) 1373 = .ok (.aload_n 0, 1) := (congrArg (fun b => decode b 1373) cd289).trans (by decide +kernel)
theorem d289_1374 : decode (vm_cd 289) 1374 = .ok (.iload_n 3, 1) := (congrArg (fun b => decode b 1374) cd289).trans (by decide +kernel)
theorem d289_1375 : decode (vm_cd 289) 1375 = .ok (.iconst 2, 1) := (congrArg (fun b => decode b 1375) cd289).trans (by decide +kernel)
theorem d289_1376 : decode (vm_cd 289) 1376 = .ok (.iadd, 1) := (congrArg (fun b => decode b 1376) cd289).trans (by decide +kernel)
theorem d289_1377 : decode (vm_cd 289) 1377 = .ok (.iaload, 1) := (congrArg (fun b => decode b 1377) cd289).trans (by decide +kernel)
theorem d289_1378 : decode (vm_cd 289) 1378 = .ok (.i2l, 1) := (congrArg (fun b => decode b 1378) cd289).trans (by decide +kernel)
theorem d289_1379 : decode (vm_cd 289) 1379 = .ok (.ldc2_w 150, 3) := (congrArg (fun b => decode b 1379) cd289).trans (by decide +kernel)
theorem d289_1382 : decode (vm_cd 289) 1382 = .ok (.land, 1) := (congrArg (fun b => decode b 1382) cd289).trans (by decide +kernel)
theorem d289_1383 : decode (vm_cd 289) 1383 = .ok (.lor, 1) := (congrArg (fun b => decode b 1383) cd289).trans (by decide +kernel)
theorem d289_1384 : decode (vm_cd 289) 1384 = .ok (.aload_n 0, 1) := (congrArg (fun b => decode b 1384) cd289).trans (by decide +kernel)
theorem d289_1385 : decode (vm_cd 289) 1385 = .ok (.iload_n 3, 1) := (congrArg (fun b => decode b 1385) cd289).trans (by decide +kernel)
theorem d289_1386 : decode (vm_cd 289) 1386 = .ok (.iconst 3, 1) := (congrArg (fun b => decode b 1386) cd289).trans (by decide +kernel)
theorem d289_1387 : decode (vm_cd 289) 1387 = .ok (.iadd, 1) := (congrArg (fun b => decode b 1387) cd289).trans (by decide +kernel)
theorem d289_1388 : decode (vm_cd 289) 1388 = .ok (.iaload, 1) := (congrArg (fun b => decode b 1388) cd289).trans (by decide +kernel)
theorem d289_1389 : decode (vm_cd 289) 1389 = .ok (.invokevirtual 152, 3) := (congrArg (fun b => decode b 1389) cd289).trans (by decide +kernel)
theorem d289_1392 : decode (vm_cd 289) 1392 = .ok (.aload_n 2, 1) := (congrArg (fun b => decode b 1392) cd289).trans (by decide +kernel)
theorem d289_1393 : decode (vm_cd 289) 1393 = .ok (.aload_n 0, 1) := (congrArg (fun b => decode b 1393) cd289).trans (by decide +kernel)
theorem d289_1394 : decode (vm_cd 289) 1394 = .ok (.iload_n 3, 1) := (congrArg (fun b => decode b 1394) cd289).trans (by decide +kernel)
theorem d289_1395 : decode (vm_cd 289) 1395 = .ok (.iconst 1, 1) := (congrArg (fun b => decode b 1395) cd289).trans (by decide +kernel)
theorem d289_1396 : decode (vm_cd 289) 1396 = .ok (.iadd, 1) := (congrArg (fun b => decode b 1396) cd289).trans (by decide +kernel)
theorem d289_1397 : decode (vm_cd 289) 1397 = .ok (.iaload, 1) := (congrArg (fun b => decode b 1397) cd289).trans (by decide +kernel)
theorem d289_1398 : decode (vm_cd 289) 1398 = .ok (.i2l, 1) := (congrArg (fun b => decode b 1398) cd289).trans (by decide +kernel)
theorem d289_1399 : decode (vm_cd 289) 1399 = .ok (.bipush 32, 2) := (congrArg (fun b => decode b 1399) cd289).trans (by decide +kernel)
theorem d289_1401 : decode (vm_cd 289) 1401 = .ok (.lshl, 1) := (congrArg (fun b => decode b 1401) cd289).trans (by decide +kernel)
theorem d289_1402 : decode (vm_cd 289) 1402 = .ok (.aload_n 0, 1) := (congrArg (fun b => decode b 1402) cd289).trans (by decide +kernel)
theorem d289_1403 : decode (vm_cd 289) 1403 = .ok (.iload_n 3, 1) := (congrArg (fun b => decode b 1403) cd289).trans (by decide +kernel)
theorem d289_1404 : decode (vm_cd 289) 1404 = .ok (.iconst 2, 1) := (congrArg (fun b => decode b 1404) cd289).trans (by decide +kernel)
theorem d289_1405 : decode (vm_cd 289) 1405 = .ok (.iadd, 1) := (congrArg (fun b => decode b 1405) cd289).trans (by decide +kernel)
theorem d289_1406 : decode (vm_cd 289) 1406 = .ok (.iaload, 1) := (congrArg (fun b => decode b 1406) cd289).trans (by decide +kernel)
theorem d289_1407 : decode (vm_cd 289) 1407 = .ok (.i2l, 1) := (congrArg (fun b => decode b 1407) cd289).trans (by decide +kernel)
theorem d289_1408 : decode (vm_cd 289) 1408 = .ok (.ldc2_w 150, 3) := (congrArg (fun b => decode b 1408) cd289).trans (by decide +kernel)
theorem d289_1411 : decode (vm_cd 289) 1411 = .ok (.land, 1) := (congrArg (fun b => decode b 1411) cd289).trans (by decide +kernel)
theorem d289_1412 : decode (vm_cd 289) 1412 = .ok (.lor, 1) := (congrArg (fun b => decode b 1412) cd289).trans (by decide +kernel)
theorem d289_1413 : decode (vm_cd 289) 1413 = .ok (.aload_n 0, 1) := (congrArg (fun b => decode b 1413) cd289).trans (by decide +kernel)
theorem d289_1414 : decode (vm_cd 289) 1414 = .ok (.iload_n 3, 1) := (congrArg (fun b => decode b 1414) cd289).trans (by decide +kernel)
theorem d289_1415 : decode (vm_cd 289) 1415 = .ok (.iconst 3, 1) := (congrArg (fun b => decode b 1415) cd289).trans (by decide +kernel)
theorem d289_1416 : decode (vm_cd 289) 1416 = .ok (.iadd, 1) := (congrArg (fun b => decode b 1416) cd289).trans (by decide +kernel)
theorem d289_1417 : decode (vm_cd 289) 1417 = .ok (.iaload, 1) := (congrArg (fun b => decode b 1417) cd289).trans (by decide +kernel)
theorem d289_1418 : decode (vm_cd 289) 1418 = .ok (.invokevirtual 156, 3) := (congrArg (fun b => decode b 1418) cd289).trans (by decide +kernel)
theorem d289_1421 : decode (vm_cd 289) 1421 = .ok (.if_icmp .eq 465, 3) := (congrArg (fun b => decode b 1421) cd289).trans (by decide +kernel)
theorem d289_1426 : decode (vm_cd 289) 1426 = .ok (.aload_n 1, 1) := (congrArg (fun b => decode b 1426) cd289).trans (by decide +kernel)
theorem d289_1427 : decode (vm_cd 289) 1427 = .ok (.invokevirtual 157, 3) := (congrArg (fun b => decode b 1427) cd289).trans (by decide +kernel)
theorem d289_1430 : decode (vm_cd 289) 1430 = .ok (.aload_n 2, 1) := (congrArg (fun b => decode b 1430) cd289).trans (by decide +kernel)
theorem d289_1431 : decode (vm_cd 289) 1431 = .ok (.invokevirtual 160, 3) := (congrArg (fun b => decode b 1431) cd289).trans (by decide +kernel)
theorem d289_1434 : decode (vm_cd 289) 1434 = .ok (.if_icmp .eq 452, 3) := (congrArg (fun b => decode b 1434) cd289).trans (by decide +kernel)
theorem d289_1439 : decode (vm_cd 289) 1439 = .ok (.aload_n 1, 1) := (congrArg (fun b => decode b 1439) cd289).trans (by decide +kernel)
theorem d289_1440 : decode (vm_cd 289) 1440 = .ok (.aload_n 0, 1) := (congrArg (fun b => decode b 1440) cd289).trans (by decide +kernel)
theorem d289_1441 : decode (vm_cd 289) 1441 = .ok (.iload_n 3, 1) := (congrArg (fun b => decode b 1441) cd289).trans (by decide +kernel)
theorem d289_1442 : decode (vm_cd 289) 1442 = .ok (.iconst 1, 1) := (congrArg (fun b => decode b 1442) cd289).trans (by decide +kernel)
theorem d289_1443 : decode (vm_cd 289) 1443 = .ok (.iadd, 1) := (congrArg (fun b => decode b 1443) cd289).trans (by decide +kernel)
theorem d289_1444 : decode (vm_cd 289) 1444 = .ok (.iaload, 1) := (congrArg (fun b => decode b 1444) cd289).trans (by decide +kernel)
theorem d289_1445 : decode (vm_cd 289) 1445 = .ok (.aload_n 0, 1) := (congrArg (fun b => decode b 1445) cd289).trans (by decide +kernel)
theorem d289_1446 : decode (vm_cd 289) 1446 = .ok (.iload_n 3, 1) := (congrArg (fun b => decode b 1446) cd289).trans (by decide +kernel)
theorem d289_1447 : decode (vm_cd 289) 1447 = .ok (.iconst 2, 1) := (congrArg (fun b => decode b 1447) cd289).trans (by decide +kernel)
theorem d289_1448 : decode (vm_cd 289) 1448 = .ok (.iadd, 1) := (congrArg (fun b => decode b 1448) cd289).trans (by decide +kernel)
theorem d289_1449 : decode (vm_cd 289) 1449 = .ok (.iaload, 1) := (congrArg (fun b => decode b 1449) cd289).trans (by decide +kernel)
theorem d289_1450 : decode (vm_cd 289) 1450 = .ok (.invokevirtual 161, 3) := (congrArg (fun b => decode b 1450) cd289).trans (by decide +kernel)
theorem d289_1453 : decode (vm_cd 289) 1453 = .ok (.aload_n 2, 1) := (congrArg (fun b => decode b 1453) cd289).trans (by decide +kernel)
theorem d289_1454 : decode (vm_cd 289) 1454 = .ok (.aload_n 0, 1) := (congrArg (fun b => decode b 1454) cd289).trans (by decide +kernel)
theorem d289_1455 : decode (vm_cd 289) 1455 = .ok (.iload_n 3, 1) := (congrArg (fun b => decode b 1455) cd289).trans (by decide +kernel)
theorem d289_1456 : decode (vm_cd 289) 1456 = .ok (.iconst 1, 1) := (congrArg (fun b => decode b 1456) cd289).trans (by decide +kernel)
theorem d289_1457 : decode (vm_cd 289) 1457 = .ok (.iadd, 1) := (congrArg (fun b => decode b 1457) cd289).trans (by decide +kernel)
theorem d289_1458 : decode (vm_cd 289) 1458 = .ok (.iaload, 1) := (congrArg (fun b => decode b 1458) cd289).trans (by decide +kernel)
theorem d289_1459 : decode (vm_cd 289) 1459 = .ok (.aload_n 0, 1) := (congrArg (fun b => decode b 1459) cd289).trans (by decide +kernel)
theorem d289_1460 : decode (vm_cd 289) 1460 = .ok (.iload_n 3, 1) := (congrArg (fun b => decode b 1460) cd289).trans (by decide +kernel)
theorem d289_1461 : decode (vm_cd 289) 1461 = .ok (.iconst 2, 1) := (congrArg (fun b => decode b 1461) cd289).trans (by decide +kernel)
theorem d289_1462 : decode (vm_cd 289) 1462 = .ok (.iadd, 1) := (congrArg (fun b => decode b 1462) cd289).trans (by decide +kernel)
theorem d289_1463 : decode (vm_cd 289) 1463 = .ok (.iaload, 1) := (congrArg (fun b => decode b 1463) cd289).trans (by decide +kernel)
theorem d289_1464 : decode (vm_cd 289) 1464 = .ok (.invokevirtual 164, 3) := (congrArg (fun b => decode b 1464) cd289).trans (by decide +kernel)
theorem d289_1467 : decode (vm_cd 289) 1467 = .ok (.if_icmp .eq 419, 3) := (congrArg (fun b => decode b 1467) cd289).trans (by decide +kernel)
theorem d289_1472 : decode (vm_cd 289) 1472 = .ok (.aload_n 1, 1) := (congrArg (fun b => decode b 1472) cd289).trans (by decide +kernel)
theorem d289_1473 : decode (vm_cd 289) 1473 = .ok (.aload_n 0, 1) := (congrArg (fun b => decode b 1473) cd289).trans (by decide +kernel)
theorem d289_1474 : decode (vm_cd 289) 1474 = .ok (.iload_n 3, 1) := (congrArg (fun b => decode b 1474) cd289).trans (by decide +kernel)
theorem d289_1475 : decode (vm_cd 289) 1475 = .ok (.iconst 1, 1) := (congrArg (fun b => decode b 1475) cd289).trans (by decide +kernel)
theorem d289_1476 : decode (vm_cd 289) 1476 = .ok (.iadd, 1) := (congrArg (fun b => decode b 1476) cd289).trans (by decide +kernel)
theorem d289_1477 : decode (vm_cd 289) 1477 = .ok (.iaload, 1) := (congrArg (fun b => decode b 1477) cd289).trans (by decide +kernel)
theorem d289_1478 : decode (vm_cd 289) 1478 = .ok (.invokevirtual 165, 3) := (congrArg (fun b => decode b 1478) cd289).trans (by decide +kernel)
theorem d289_1481 : decode (vm_cd 289) 1481 = .ok (.aload_n 2, 1) := (congrArg (fun b => decode b 1481) cd289).trans (by decide +kernel)
theorem d289_1482 : decode (vm_cd 289) 1482 = .ok (.aload_n 0, 1) := (congrArg (fun b => decode b 1482) cd289).trans (by decide +kernel)
theorem d289_1483 : decode (vm_cd 289) 1483 = .ok (.iload_n 3, 1) := (congrArg (fun b => decode b 1483) cd289).trans (by decide +kernel)
theorem d289_1484 : decode (vm_cd 289) 1484 = .ok (.iconst 1, 1) := (congrArg (fun b => decode b 1484) cd289).trans (by decide +kernel)
theorem d289_1485 : decode (vm_cd 289) 1485 = .ok (.iadd, 1) := (congrArg (fun b => decode b 1485) cd289).trans (by decide +kernel)
theorem d289_1486 : decode (vm_cd 289) 1486 = .ok (.iaload, 1) := (congrArg (fun b => decode b 1486) cd289).trans (by decide +kernel)
theorem d289_1487 : decode (vm_cd 289) 1487 = .ok (.invokevirtual 168, 3) := (congrArg (fun b => decode b 1487) cd289).trans (by decide +kernel)
theorem d289_1490 : decode (vm_cd 289) 1490 = .ok (.if_icmp .eq 396, 3) := (congrArg (fun b => decode b 1490) cd289).trans (by decide +kernel)
theorem d289_1495 : decode (vm_cd 289) 1495 = .ok (.aload_n 1, 1) := (congrArg (fun b => decode b 1495) cd289).trans (by decide +kernel)
theorem d289_1496 : decode (vm_cd 289) 1496 = .ok (.aload_n 0, 1) := (congrArg (fun b => decode b 1496) cd289).trans (by decide +kernel)
theorem d289_1497 : decode (vm_cd 289) 1497 = .ok (.iload_n 3, 1) := (congrArg (fun b => decode b 1497) cd289).trans (by decide +kernel)
theorem d289_1498 : decode (vm_cd 289) 1498 = .ok (.iconst 1, 1) := (congrArg (fun b => decode b 1498) cd289).trans (by decide +kernel)
theorem d289_1499 : decode (vm_cd 289) 1499 = .ok (.iadd, 1) := (congrArg (fun b => decode b 1499) cd289).trans (by decide +kernel)
theorem d289_1500 : decode (vm_cd 289) 1500 = .ok (.iaload, 1) := (congrArg (fun b => decode b 1500) cd289).trans (by decide +kernel)
theorem d289_1501 : decode (vm_cd 289) 1501 = .ok (.invokevirtual 169, 3) := (congrArg (fun b => decode b 1501) cd289).trans (by decide +kernel)
theorem d289_1504 : decode (vm_cd 289) 1504 = .ok (.aload_n 2, 1) := (congrArg (fun b => decode b 1504) cd289).trans (by decide +kernel)
theorem d289_1505 : decode (vm_cd 289) 1505 = .ok (.aload_n 0, 1) := (congrArg (fun b => decode b 1505) cd289).trans (by decide +kernel)
theorem d289_1506 : decode (vm_cd 289) 1506 = .ok (.iload_n 3, 1) := (congrArg (fun b => decode b 1506) cd289).trans (by decide +kernel)
theorem d289_1507 : decode (vm_cd 289) 1507 = .ok (.iconst 1, 1) := (congrArg (fun b => decode b 1507) cd289).trans (by decide +kernel)
theorem d289_1508 : decode (vm_cd 289) 1508 = .ok (.iadd, 1) := (congrArg (fun b => decode b 1508) cd289).trans (by decide +kernel)
theorem d289_1509 : decode (vm_cd 289) 1509 = .ok (.iaload, 1) := (congrArg (fun b => decode b 1509) cd289).trans (by decide +kernel)
theorem d289_1510 : decode (vm_cd 289) 1510 = .ok (.invokevirtual 172, 3) := (congrArg (fun b => decode b 1510) cd289).trans (by decide +kernel)
theorem d289_1513 : decode (vm_cd 289) 1513 = .ok (.if_icmp .eq 373, 3) := (congrArg (fun b => decode b 1513) cd289).trans (by decide +kernel)
theorem d289_1518 : decode (vm_cd 289) 1518 = .ok (.aload_n 1, 1) := (congrArg (fun b => decode b 1518) cd289).trans (by decide +kernel)
theorem d289_1519 : decode (vm_cd 289) 1519 = .ok (.aload_n 0, 1) := (congrArg (fun b => decode b 1519) cd289).trans (by decide +kernel)
theorem d289_1520 : decode (vm_cd 289) 1520 = .ok (.iload_n 3, 1) := (congrArg (fun b => decode b 1520) cd289).trans (by decide +kernel)
theorem d289_1521 : decode (vm_cd 289) 1521 = .ok (.iconst 1, 1) := (congrArg (fun b => decode b 1521) cd289).trans (by decide +kernel)
theorem d289_1522 : decode (vm_cd 289) 1522 = .ok (.iadd, 1) := (congrArg (fun b => decode b 1522) cd289).trans (by decide +kernel)
theorem d289_1523 : decode (vm_cd 289) 1523 = .ok (.iaload, 1) := (congrArg (fun b => decode b 1523) cd289).trans (by decide +kernel)
theorem d289_1524 : decode (vm_cd 289) 1524 = .ok (.invokevirtual 173, 3) := (congrArg (fun b => decode b 1524) cd289).trans (by decide +kernel)
theorem d289_1527 : decode (vm_cd 289) 1527 = .ok (.aload_n 2, 1) := (congrArg (fun b => decode b 1527) cd289).trans (by decide +kernel)
theorem d289_1528 : decode (vm_cd 289) 1528 = .ok (.aload_n 0, 1) := (congrArg (fun b => decode b 1528) cd289).trans (by decide +kernel)
theorem d289_1529 : decode (vm_cd 289) 1529 = .ok (.iload_n 3, 1) := (congrArg (fun b => decode b 1529) cd289).trans (by decide +kernel)
theorem d289_1530 : decode (vm_cd 289) 1530 = .ok (.iconst 1, 1) := (congrArg (fun b => decode b 1530) cd289).trans (by decide +kernel)
theorem d289_1531 : decode (vm_cd 289) 1531 = .ok (.iadd, 1) := (congrArg (fun b => decode b 1531) cd289).trans (by decide +kernel)
theorem d289_1532 : decode (vm_cd 289) 1532 = .ok (.iaload, 1) := (congrArg (fun b => decode b 1532) cd289).trans (by decide +kernel)
theorem d289_1533 : decode (vm_cd 289) 1533 = .ok (.invokevirtual 176, 3) := (congrArg (fun b => decode b 1533) cd289).trans (by decide +kernel)
theorem d289_1536 : decode (vm_cd 289) 1536 = .ok (.if_icmp .eq 350, 3) := (congrArg (fun b => decode b 1536) cd289).trans (by decide +kernel)
theorem d289_1541 : decode (vm_cd 289) 1541 = .ok (.aload_n 1, 1) := (congrArg (fun b => decode b 1541) cd289).trans (by decide +kernel)
theorem d289_1542 : decode (vm_cd 289) 1542 = .ok (.aload_n 0, 1) := (congrArg (fun b => decode b 1542) cd289).trans (by decide +kernel)
theorem d289_1543 : decode (vm_cd 289) 1543 = .ok (.iload_n 3, 1) := (congrArg (fun b => decode b 1543) cd289).trans (by decide +kernel)
theorem d289_1544 : decode (vm_cd 289) 1544 = .ok (.iconst 1, 1) := (congrArg (fun b => decode b 1544) cd289).trans (by decide +kernel)
theorem d289_1545 : decode (vm_cd 289) 1545 = .ok (.iadd, 1) := (congrArg (fun b => decode b 1545) cd289).trans (by decide +kernel)
theorem d289_1546 : decode (vm_cd 289) 1546 = .ok (.iaload, 1) := (congrArg (fun b => decode b 1546) cd289).trans (by decide +kernel)
theorem d289_1547 : decode (vm_cd 289) 1547 = .ok (.invokevirtual 177, 3) := (congrArg (fun b => decode b 1547) cd289).trans (by decide +kernel)
theorem d289_1550 : decode (vm_cd 289) 1550 = .ok (.aload_n 2, 1) := (congrArg (fun b => decode b 1550) cd289).trans (by decide +kernel)
theorem d289_1551 : decode (vm_cd 289) 1551 = .ok (.aload_n 0, 1) := (congrArg (fun b => decode b 1551) cd289).trans (by decide +kernel)
theorem d289_1552 : decode (vm_cd 289) 1552 = .ok (.iload_n 3, 1) := (congrArg (fun b => decode b 1552) cd289).trans (by decide +kernel)
theorem d289_1553 : decode (vm_cd 289) 1553 = .ok (.iconst 1, 1) := (congrArg (fun b => decode b 1553) cd289).trans (by decide +kernel)
theorem d289_1554 : decode (vm_cd 289) 1554 = .ok (.iadd, 1) := (congrArg (fun b => decode b 1554) cd289).trans (by decide +kernel)
theorem d289_1555 : decode (vm_cd 289) 1555 = .ok (.iaload, 1) := (congrArg (fun b => decode b 1555) cd289).trans (by decide +kernel)
theorem d289_1556 : decode (vm_cd 289) 1556 = .ok (.invokevirtual 180, 3) := (congrArg (fun b => decode b 1556) cd289).trans (by decide +kernel)
theorem d289_1559 : decode (vm_cd 289) 1559 = .ok (.if_icmp .eq 327, 3) := (congrArg (fun b => decode b 1559) cd289).trans (by decide +kernel)
theorem d289_1564 : decode (vm_cd 289) 1564 = .ok (.aload_n 1, 1) := (congrArg (fun b => decode b 1564) cd289).trans (by decide +kernel)
theorem d289_1565 : decode (vm_cd 289) 1565 = .ok (.invokevirtual 181, 3) := (congrArg (fun b => decode b 1565) cd289).trans (by decide +kernel)
theorem d289_1568 : decode (vm_cd 289) 1568 = .ok (.aload_n 2, 1) := (congrArg (fun b => decode b 1568) cd289).trans (by decide +kernel)
theorem d289_1569 : decode (vm_cd 289) 1569 = .ok (.invokevirtual 184, 3) := (congrArg (fun b => decode b 1569) cd289).trans (by decide +kernel)
theorem d289_1572 : decode (vm_cd 289) 1572 = .ok (.if_icmp .eq 314, 3) := (congrArg (fun b => decode b 1572) cd289).trans (by decide +kernel)
theorem d289_1577 : decode (vm_cd 289) 1577 = .ok (.aload_n 1, 1) := (congrArg (fun b => decode b 1577) cd289).trans (by decide +kernel)
theorem d289_1578 : decode (vm_cd 289) 1578 = .ok (.aload_n 0, 1) := (congrArg (fun b => decode b 1578) cd289).trans (by decide +kernel)
theorem d289_1579 : decode (vm_cd 289) 1579 = .ok (.iload_n 3, 1) := (congrArg (fun b => decode b 1579) cd289).trans (by decide +kernel)
theorem d289_1580 : decode (vm_cd 289) 1580 = .ok (.iconst 1, 1) := (congrArg (fun b => decode b 1580) cd289).trans (by decide +kernel)
theorem d289_1581 : decode (vm_cd 289) 1581 = .ok (.iadd, 1) := (congrArg (fun b => decode b 1581) cd289).trans (by decide +kernel)
theorem d289_1582 : decode (vm_cd 289) 1582 = .ok (.iaload, 1) := (congrArg (fun b => decode b 1582) cd289).trans (by decide +kernel)
theorem d289_1583 : decode (vm_cd 289) 1583 = .ok (.aload_n 0, 1) := (congrArg (fun b => decode b 1583) cd289).trans (by decide +kernel)
theorem d289_1584 : decode (vm_cd 289) 1584 = .ok (.iload_n 3, 1) := (congrArg (fun b => decode b 1584) cd289).trans (by decide +kernel)
theorem d289_1585 : decode (vm_cd 289) 1585 = .ok (.iconst 2, 1) := (congrArg (fun b => decode b 1585) cd289).trans (by decide +kernel)
theorem d289_1586 : decode (vm_cd 289) 1586 = .ok (.iadd, 1) := (congrArg (fun b => decode b 1586) cd289).trans (by decide +kernel)
theorem d289_1587 : decode (vm_cd 289) 1587 = .ok (.iaload, 1) := (congrArg (fun b => decode b 1587) cd289).trans (by decide +kernel)
theorem d289_1588 : decode (vm_cd 289) 1588 = .ok (.invokevirtual 185, 3) := (congrArg (fun b => decode b 1588) cd289).trans (by decide +kernel)
theorem d289_1591 : decode (vm_cd 289) 1591 = .ok (.aload_n 2, 1) := (congrArg (fun b => decode b 1591) cd289).trans (by decide +kernel)
theorem d289_1592 : decode (vm_cd 289) 1592 = .ok (.aload_n 0, 1) := (congrArg (fun b => decode b 1592) cd289).trans (by decide +kernel)
theorem d289_1593 : decode (vm_cd 289) 1593 = .ok (.iload_n 3, 1) := (congrArg (fun b => decode b 1593) cd289).trans (by decide +kernel)
theorem d289_1594 : decode (vm_cd 289) 1594 = .ok (.iconst 1, 1) := (congrArg (fun b => decode b 1594) cd289).trans (by decide +kernel)
theorem d289_1595 : decode (vm_cd 289) 1595 = .ok (.iadd, 1) := (congrArg (fun b => decode b 1595) cd289).trans (by decide +kernel)
theorem d289_1596 : decode (vm_cd 289) 1596 = .ok (.iaload, 1) := (congrArg (fun b => decode b 1596) cd289).trans (by decide +kernel)
theorem d289_1597 : decode (vm_cd 289) 1597 = .ok (.aload_n 0, 1) := (congrArg (fun b => decode b 1597) cd289).trans (by decide +kernel)
theorem d289_1598 : decode (vm_cd 289) 1598 = .ok (.iload_n 3, 1) := (congrArg (fun b => decode b 1598) cd289).trans (by decide +kernel)
theorem d289_1599 : decode (vm_cd 289) 1599 = .ok (.iconst 2, 1) := (congrArg (fun b => decode b 1599) cd289).trans (by decide +kernel)
theorem d289_1600 : decode (vm_cd 289) 1600 = .ok (.iadd, 1) := (congrArg (fun b => decode b 1600) cd289).trans (by decide +kernel)
theorem d289_1601 : decode (vm_cd 289) 1601 = .ok (.iaload, 1) := (congrArg (fun b => decode b 1601) cd289).trans (by decide +kernel)
theorem d289_1602 : decode (vm_cd 289) 1602 = .ok (.invokevirtual 188, 3) := (congrArg (fun b => decode b 1602) cd289).trans (by decide +kernel)
theorem d289_1605 : decode (vm_cd 289) 1605 = .ok (.if_icmp .eq 281, 3) := (congrArg (fun b => decode b 1605) cd289).trans (by decide +kernel)
theorem d289_1610 : decode (vm_cd 289) 1610 = .ok (.aload_n 1, 1) := (congrArg (fun b => decode b 1610) cd289).trans (by decide +kernel)
theorem d289_1611 : decode (vm_cd 289) 1611 = .ok (.aload_n 0, 1) := (congrArg (fun b => decode b 1611) cd289).trans (by decide +kernel)
theorem d289_1612 : decode (vm_cd 289) 1612 = .ok (.iload_n 3, 1) := (congrArg (fun b => decode b 1612) cd289).trans (by decide +kernel)
theorem d289_1613 : decode (vm_cd 289) 1613 = .ok (.iconst 1, 1) := (congrArg (fun b => decode b 1613) cd289).trans (by decide +kernel)
theorem d289_1614 : decode (vm_cd 289) 1614 = .ok (.iadd, 1) := (congrArg (fun b => decode b 1614) cd289).trans (by decide +kernel)
theorem d289_1615 : decode (vm_cd 289) 1615 = .ok (.iaload, 1) := (congrArg (fun b => decode b 1615) cd289).trans (by decide +kernel)
theorem d289_1616 : decode (vm_cd 289) 1616 = .ok (.invokevirtual 189, 3) := (congrArg (fun b => decode b 1616) cd289).trans (by decide +kernel)
theorem d289_1619 : decode (vm_cd 289) 1619 = .ok (.aload_n 2, 1) := (congrArg (fun b => decode b 1619) cd289).trans (by decide +kernel)
theorem d289_1620 : decode (vm_cd 289) 1620 = .ok (.aload_n 0, 1) := (congrArg (fun b => decode b 1620) cd289).trans (by decide +kernel)
theorem d289_1621 : decode (vm_cd 289) 1621 = .ok (.iload_n 3, 1) := (congrArg (fun b => decode b 1621) cd289).trans (by decide +kernel)
theorem d289_1622 : decode (vm_cd 289) 1622 = .ok (.iconst 1, 1) := (congrArg (fun b => decode b 1622) cd289).trans (by decide +kernel)
theorem d289_1623 : decode (vm_cd 289) 1623 = .ok (.iadd, 1) := (congrArg (fun b => decode b 1623) cd289).trans (by decide +kernel)
theorem d289_1624 : decode (vm_cd 289) 1624 = .ok (.iaload, 1) := (congrArg (fun b => decode b 1624) cd289).trans (by decide +kernel)
theorem d289_1625 : decode (vm_cd 289) 1625 = .ok (.invokevirtual 193, 3) := (congrArg (fun b => decode b 1625) cd289).trans (by decide +kernel)
theorem d289_1628 : decode (vm_cd 289) 1628 = .ok (.lcmp, 1) := (congrArg (fun b => decode b 1628) cd289).trans (by decide +kernel)
theorem d289_1629 : decode (vm_cd 289) 1629 = .ok (.ifCond .eq 257, 3) := (congrArg (fun b => decode b 1629) cd289).trans (by decide +kernel)
theorem d289_1634 : decode (vm_cd 289) 1634 = .ok (.aload_n 1, 1) := (congrArg (fun b => decode b 1634) cd289).trans (by decide +kernel)
theorem d289_1635 : decode (vm_cd 289) 1635 = .ok (.aload_n 0, 1) := (congrArg (fun b => decode b 1635) cd289).trans (by decide +kernel)
theorem d289_1636 : decode (vm_cd 289) 1636 = .ok (.iload_n 3, 1) := (congrArg (fun b => decode b 1636) cd289).trans (by decide +kernel)
theorem d289_1637 : decode (vm_cd 289) 1637 = .ok (.iconst 1, 1) := (congrArg (fun b => decode b 1637) cd289).trans (by decide +kernel)
theorem d289_1638 : decode (vm_cd 289) 1638 = .ok (.iadd, 1) := (congrArg (fun b => decode b 1638) cd289).trans (by decide +kernel)
theorem d289_1639 : decode (vm_cd 289) 1639 = .ok (.iaload, 1) := (congrArg (fun b => decode b 1639) cd289).trans (by decide +kernel)
theorem d289_1640 : decode (vm_cd 289) 1640 = .ok (.aload_n 0, 1) := (congrArg (fun b => decode b 1640) cd289).trans (by decide +kernel)
theorem d289_1641 : decode (vm_cd 289) 1641 = .ok (.iload_n 3, 1) := (congrArg (fun b => decode b 1641) cd289).trans (by decide +kernel)
theorem d289_1642 : decode (vm_cd 289) 1642 = .ok (.iconst 2, 1) := (congrArg (fun b => decode b 1642) cd289).trans (by decide +kernel)
theorem d289_1643 : decode (vm_cd 289) 1643 = .ok (.iadd, 1) := (congrArg (fun b => decode b 1643) cd289).trans (by decide +kernel)
theorem d289_1644 : decode (vm_cd 289) 1644 = .ok (.iaload, 1) := (congrArg (fun b => decode b 1644) cd289).trans (by decide +kernel)
theorem d289_1645 : decode (vm_cd 289) 1645 = .ok (.aload_n 0, 1) := (congrArg (fun b => decode b 1645) cd289).trans (by decide +kernel)
theorem d289_1646 : decode (vm_cd 289) 1646 = .ok (.iload_n 3, 1) := (congrArg (fun b => decode b 1646) cd289).trans (by decide +kernel)
theorem d289_1647 : decode (vm_cd 289) 1647 = .ok (.iconst 3, 1) := (congrArg (fun b => decode b 1647) cd289).trans (by decide +kernel)
theorem d289_1648 : decode (vm_cd 289) 1648 = .ok (.iadd, 1) := (congrArg (fun b => decode b 1648) cd289).trans (by decide +kernel)
theorem d289_1649 : decode (vm_cd 289) 1649 = .ok (.iaload, 1) := (congrArg (fun b => decode b 1649) cd289).trans (by decide +kernel)
theorem d289_1650 : decode (vm_cd 289) 1650 = .ok (.invokevirtual 194, 3) := (congrArg (fun b => decode b 1650) cd289).trans (by decide +kernel)
theorem d289_1653 : decode (vm_cd 289) 1653 = .ok (.aload_n 2, 1) := (congrArg (fun b => decode b 1653) cd289).trans (by decide +kernel)
theorem d289_1654 : decode (vm_cd 289) 1654 = .ok (.aload_n 0, 1) := (congrArg (fun b => decode b 1654) cd289).trans (by decide +kernel)
theorem d289_1655 : decode (vm_cd 289) 1655 = .ok (.iload_n 3, 1) := (congrArg (fun b => decode b 1655) cd289).trans (by decide +kernel)
theorem d289_1656 : decode (vm_cd 289) 1656 = .ok (.iconst 1, 1) := (congrArg (fun b => decode b 1656) cd289).trans (by decide +kernel)
theorem d289_1657 : decode (vm_cd 289) 1657 = .ok (.iadd, 1) := (congrArg (fun b => decode b 1657) cd289).trans (by decide +kernel)
theorem d289_1658 : decode (vm_cd 289) 1658 = .ok (.iaload, 1) := (congrArg (fun b => decode b 1658) cd289).trans (by decide +kernel)
theorem d289_1659 : decode (vm_cd 289) 1659 = .ok (.aload_n 0, 1) := (congrArg (fun b => decode b 1659) cd289).trans (by decide +kernel)
theorem d289_1660 : decode (vm_cd 289) 1660 = .ok (.iload_n 3, 1) := (congrArg (fun b => decode b 1660) cd289).trans (by decide +kernel)
theorem d289_1661 : decode (vm_cd 289) 1661 = .ok (.iconst 2, 1) := (congrArg (fun b => decode b 1661) cd289).trans (by decide +kernel)
theorem d289_1662 : decode (vm_cd 289) 1662 = .ok (.iadd, 1) := (congrArg (fun b => decode b 1662) cd289).trans (by decide +kernel)
theorem d289_1663 : decode (vm_cd 289) 1663 = .ok (.iaload, 1) := (congrArg (fun b => decode b 1663) cd289).trans (by decide +kernel)
theorem d289_1664 : decode (vm_cd 289) 1664 = .ok (.aload_n 0, 1) := (congrArg (fun b => decode b 1664) cd289).trans (by decide +kernel)
theorem d289_1665 : decode (vm_cd 289) 1665 = .ok (.iload_n 3, 1) := (congrArg (fun b => decode b 1665) cd289).trans (by decide +kernel)
theorem d289_1666 : decode (vm_cd 289) 1666 = .ok (.iconst 3, 1) := (congrArg (fun b => decode b 1666) cd289).trans (by decide +kernel)
theorem d289_1667 : decode (vm_cd 289) 1667 = .ok (.iadd, 1) := (congrArg (fun b => decode b 1667) cd289).trans (by decide +kernel)
theorem d289_1668 : decode (vm_cd 289) 1668 = .ok (.iaload, 1) := (congrArg (fun b => decode b 1668) cd289).trans (by decide +kernel)
theorem d289_1669 : decode (vm_cd 289) 1669 = .ok (.invokevirtual 197, 3) := (congrArg (fun b => decode b 1669) cd289).trans (by decide +kernel)
theorem d289_1672 : decode (vm_cd 289) 1672 = .ok (.lcmp, 1) := (congrArg (fun b => decode b 1672) cd289).trans (by decide +kernel)
theorem d289_1673 : decode (vm_cd 289) 1673 = .ok (.ifCond .eq 213, 3) := (congrArg (fun b => decode b 1673) cd289).trans (by decide +kernel)
theorem d289_1678 : decode (vm_cd 289) 1678 = .ok (.aload_n 1, 1) := (congrArg (fun b => decode b 1678) cd289).trans (by decide +kernel)
theorem d289_1679 : decode (vm_cd 289) 1679 = .ok (.aload_n 0, 1) := (congrArg (fun b => decode b 1679) cd289).trans (by decide +kernel)
theorem d289_1680 : decode (vm_cd 289) 1680 = .ok (.iload_n 3, 1) := (congrArg (fun b => decode b 1680) cd289).trans (by decide +kernel)
theorem d289_1681 : decode (vm_cd 289) 1681 = .ok (.iconst 1, 1) := (congrArg (fun b => decode b 1681) cd289).trans (by decide +kernel)
theorem d289_1682 : decode (vm_cd 289) 1682 = .ok (.iadd, 1) := (congrArg (fun b => decode b 1682) cd289).trans (by decide +kernel)
theorem d289_1683 : decode (vm_cd 289) 1683 = .ok (.iaload, 1) := (congrArg (fun b => decode b 1683) cd289).trans (by decide +kernel)
theorem d289_1684 : decode (vm_cd 289) 1684 = .ok (.aload_n 0, 1) := (congrArg (fun b => decode b 1684) cd289).trans (by decide +kernel)
theorem d289_1685 : decode (vm_cd 289) 1685 = .ok (.iload_n 3, 1) := (congrArg (fun b => decode b 1685) cd289).trans (by decide +kernel)
theorem d289_1686 : decode (vm_cd 289) 1686 = .ok (.iconst 2, 1) := (congrArg (fun b => decode b 1686) cd289).trans (by decide +kernel)
theorem d289_1687 : decode (vm_cd 289) 1687 = .ok (.iadd, 1) := (congrArg (fun b => decode b 1687) cd289).trans (by decide +kernel)
theorem d289_1688 : decode (vm_cd 289) 1688 = .ok (.iaload, 1) := (congrArg (fun b => decode b 1688) cd289).trans (by decide +kernel)
theorem d289_1689 : decode (vm_cd 289) 1689 = .ok (.invokevirtual 198, 3) := (congrArg (fun b => decode b 1689) cd289).trans (by decide +kernel)
theorem d289_1692 : decode (vm_cd 289) 1692 = .ok (.aload_n 2, 1) := (congrArg (fun b => decode b 1692) cd289).trans (by decide +kernel)
theorem d289_1693 : decode (vm_cd 289) 1693 = .ok (.aload_n 0, 1) := (congrArg (fun b => decode b 1693) cd289).trans (by decide +kernel)
theorem d289_1694 : decode (vm_cd 289) 1694 = .ok (.iload_n 3, 1) := (congrArg (fun b => decode b 1694) cd289).trans (by decide +kernel)
theorem d289_1695 : decode (vm_cd 289) 1695 = .ok (.iconst 1, 1) := (congrArg (fun b => decode b 1695) cd289).trans (by decide +kernel)
theorem d289_1696 : decode (vm_cd 289) 1696 = .ok (.iadd, 1) := (congrArg (fun b => decode b 1696) cd289).trans (by decide +kernel)
theorem d289_1697 : decode (vm_cd 289) 1697 = .ok (.iaload, 1) := (congrArg (fun b => decode b 1697) cd289).trans (by decide +kernel)
theorem d289_1698 : decode (vm_cd 289) 1698 = .ok (.aload_n 0, 1) := (congrArg (fun b => decode b 1698) cd289).trans (by decide +kernel)
theorem d289_1699 : decode (vm_cd 289) 1699 = .ok (.iload_n 3, 1) := (congrArg (fun b => decode b 1699) cd289).trans (by decide +kernel)
theorem d289_1700 : decode (vm_cd 289) 1700 = .ok (.iconst 2, 1) := (congrArg (fun b => decode b 1700) cd289).trans (by decide +kernel)
theorem d289_1701 : decode (vm_cd 289) 1701 = .ok (.iadd, 1) := (congrArg (fun b => decode b 1701) cd289).trans (by decide +kernel)
theorem d289_1702 : decode (vm_cd 289) 1702 = .ok (.iaload, 1) := (congrArg (fun b => decode b 1702) cd289).trans (by decide +kernel)
theorem d289_1703 : decode (vm_cd 289) 1703 = .ok (.invokevirtual 201, 3) := (congrArg (fun b => decode b 1703) cd289).trans (by decide +kernel)
theorem d289_1706 : decode (vm_cd 289) 1706 = .ok (.if_icmp .eq 180, 3) := (congrArg (fun b => decode b 1706) cd289).trans (by decide +kernel)
theorem d289_1711 : decode (vm_cd 289) 1711 = .ok (.aload_n 1, 1) := (congrArg (fun b => decode b 1711) cd289).trans (by decide +kernel)
theorem d289_1712 : decode (vm_cd 289) 1712 = .ok (.aload_n 0, 1) := (congrArg (fun b => decode b 1712) cd289).trans (by decide +kernel)
theorem d289_1713 : decode (vm_cd 289) 1713 = .ok (.iload_n 3, 1) := (congrArg (fun b => decode b 1713) cd289).trans (by decide +kernel)
theorem d289_1714 : decode (vm_cd 289) 1714 = .ok (.iconst 1, 1) := (congrArg (fun b => decode b 1714) cd289).trans (by decide +kernel)
theorem d289_1715 : decode (vm_cd 289) 1715 = .ok (.iadd, 1) := (congrArg (fun b => decode b 1715) cd289).trans (by decide +kernel)
theorem d289_1716 : decode (vm_cd 289) 1716 = .ok (.iaload, 1) := (congrArg (fun b => decode b 1716) cd289).trans (by decide +kernel)
theorem d289_1717 : decode (vm_cd 289) 1717 = .ok (.aload_n 0, 1) := (congrArg (fun b => decode b 1717) cd289).trans (by decide +kernel)
theorem d289_1718 : decode (vm_cd 289) 1718 = .ok (.iload_n 3, 1) := (congrArg (fun b => decode b 1718) cd289).trans (by decide +kernel)
theorem d289_1719 : decode (vm_cd 289) 1719 = .ok (.iconst 2, 1) := (congrArg (fun b => decode b 1719) cd289).trans (by decide +kernel)
theorem d289_1720 : decode (vm_cd 289) 1720 = .ok (.iadd, 1) := (congrArg (fun b => decode b 1720) cd289).trans (by decide +kernel)
theorem d289_1721 : decode (vm_cd 289) 1721 = .ok (.iaload, 1) := (congrArg (fun b => decode b 1721) cd289).trans (by decide +kernel)
theorem d289_1722 : decode (vm_cd 289) 1722 = .ok (.aload_n 0, 1) := (congrArg (fun b => decode b 1722) cd289).trans (by decide +kernel)
theorem d289_1723 : decode (vm_cd 289) 1723 = .ok (.iload_n 3, 1) := (congrArg (fun b => decode b 1723) cd289).trans (by decide +kernel)
theorem d289_1724 : decode (vm_cd 289) 1724 = .ok (.iconst 3, 1) := (congrArg (fun b => decode b 1724) cd289).trans (by decide +kernel)
theorem d289_1725 : decode (vm_cd 289) 1725 = .ok (.iadd, 1) := (congrArg (fun b => decode b 1725) cd289).trans (by decide +kernel)
theorem d289_1726 : decode (vm_cd 289) 1726 = .ok (.iaload, 1) := (congrArg (fun b => decode b 1726) cd289).trans (by decide +kernel)
theorem d289_1727 : decode (vm_cd 289) 1727 = .ok (.invokevirtual 202, 3) := (congrArg (fun b => decode b 1727) cd289).trans (by decide +kernel)
theorem d289_1730 : decode (vm_cd 289) 1730 = .ok (.aload_n 2, 1) := (congrArg (fun b => decode b 1730) cd289).trans (by decide +kernel)
theorem d289_1731 : decode (vm_cd 289) 1731 = .ok (.aload_n 0, 1) := (congrArg (fun b => decode b 1731) cd289).trans (by decide +kernel)
theorem d289_1732 : decode (vm_cd 289) 1732 = .ok (.iload_n 3, 1) := (congrArg (fun b => decode b 1732) cd289).trans (by decide +kernel)
theorem d289_1733 : decode (vm_cd 289) 1733 = .ok (.iconst 1, 1) := (congrArg (fun b => decode b 1733) cd289).trans (by decide +kernel)
theorem d289_1734 : decode (vm_cd 289) 1734 = .ok (.iadd, 1) := (congrArg (fun b => decode b 1734) cd289).trans (by decide +kernel)
theorem d289_1735 : decode (vm_cd 289) 1735 = .ok (.iaload, 1) := (congrArg (fun b => decode b 1735) cd289).trans (by decide +kernel)
theorem d289_1736 : decode (vm_cd 289) 1736 = .ok (.aload_n 0, 1) := (congrArg (fun b => decode b 1736) cd289).trans (by decide +kernel)
theorem d289_1737 : decode (vm_cd 289) 1737 = .ok (.iload_n 3, 1) := (congrArg (fun b => decode b 1737) cd289).trans (by decide +kernel)
theorem d289_1738 : decode (vm_cd 289) 1738 = .ok (.iconst 2, 1) := (congrArg (fun b => decode b 1738) cd289).trans (by decide +kernel)
theorem d289_1739 : decode (vm_cd 289) 1739 = .ok (.iadd, 1) := (congrArg (fun b => decode b 1739) cd289).trans (by decide +kernel)
theorem d289_1740 : decode (vm_cd 289) 1740 = .ok (.iaload, 1) := (congrArg (fun b => decode b 1740) cd289).trans (by decide +kernel)
theorem d289_1741 : decode (vm_cd 289) 1741 = .ok (.aload_n 0, 1) := (congrArg (fun b => decode b 1741) cd289).trans (by decide +kernel)
theorem d289_1742 : decode (vm_cd 289) 1742 = .ok (.iload_n 3, 1) := (congrArg (fun b => decode b 1742) cd289).trans (by decide +kernel)
theorem d289_1743 : decode (vm_cd 289) 1743 = .ok (.iconst 3, 1) := (congrArg (fun b => decode b 1743) cd289).trans (by decide +kernel)
theorem d289_1744 : decode (vm_cd 289) 1744 = .ok (.iadd, 1) := (congrArg (fun b => decode b 1744) cd289).trans (by decide +kernel)
theorem d289_1745 : decode (vm_cd 289) 1745 = .ok (.iaload, 1) := (congrArg (fun b => decode b 1745) cd289).trans (by decide +kernel)
theorem d289_1746 : decode (vm_cd 289) 1746 = .ok (.invokevirtual 205, 3) := (congrArg (fun b => decode b 1746) cd289).trans (by decide +kernel)
theorem d289_1749 : decode (vm_cd 289) 1749 = .ok (.if_icmp .eq 137, 3) := (congrArg (fun b => decode b 1749) cd289).trans (by decide +kernel)
theorem d289_1754 : decode (vm_cd 289) 1754 = .ok (.aload_n 1, 1) := (congrArg (fun b => decode b 1754) cd289).trans (by decide +kernel)
theorem d289_1755 : decode (vm_cd 289) 1755 = .ok (.aload_n 0, 1) := (congrArg (fun b => decode b 1755) cd289).trans (by decide +kernel)
theorem d289_1756 : decode (vm_cd 289) 1756 = .ok (.iload_n 3, 1) := (congrArg (fun b => decode b 1756) cd289).trans (by decide +kernel)
theorem d289_1757 : decode (vm_cd 289) 1757 = .ok (.iconst 1, 1) := (congrArg (fun b => decode b 1757) cd289).trans (by decide +kernel)
theorem d289_1758 : decode (vm_cd 289) 1758 = .ok (.iadd, 1) := (congrArg (fun b => decode b 1758) cd289).trans (by decide +kernel)
theorem d289_1759 : decode (vm_cd 289) 1759 = .ok (.iaload, 1) := (congrArg (fun b => decode b 1759) cd289).trans (by decide +kernel)
theorem d289_1760 : decode (vm_cd 289) 1760 = .ok (.aload_n 0, 1) := (congrArg (fun b => decode b 1760) cd289).trans (by decide +kernel)
theorem d289_1761 : decode (vm_cd 289) 1761 = .ok (.iload_n 3, 1) := (congrArg (fun b => decode b 1761) cd289).trans (by decide +kernel)
theorem d289_1762 : decode (vm_cd 289) 1762 = .ok (.iconst 2, 1) := (congrArg (fun b => decode b 1762) cd289).trans (by decide +kernel)
theorem d289_1763 : decode (vm_cd 289) 1763 = .ok (.iadd, 1) := (congrArg (fun b => decode b 1763) cd289).trans (by decide +kernel)
theorem d289_1764 : decode (vm_cd 289) 1764 = .ok (.iaload, 1) := (congrArg (fun b => decode b 1764) cd289).trans (by decide +kernel)
theorem d289_1765 : decode (vm_cd 289) 1765 = .ok (.invokevirtual 206, 3) := (congrArg (fun b => decode b 1765) cd289).trans (by decide +kernel)
theorem d289_1768 : decode (vm_cd 289) 1768 = .ok (.aload_n 2, 1) := (congrArg (fun b => decode b 1768) cd289).trans (by decide +kernel)
theorem d289_1769 : decode (vm_cd 289) 1769 = .ok (.aload_n 0, 1) := (congrArg (fun b => decode b 1769) cd289).trans (by decide +kernel)
theorem d289_1770 : decode (vm_cd 289) 1770 = .ok (.iload_n 3, 1) := (congrArg (fun b => decode b 1770) cd289).trans (by decide +kernel)
theorem d289_1771 : decode (vm_cd 289) 1771 = .ok (.iconst 1, 1) := (congrArg (fun b => decode b 1771) cd289).trans (by decide +kernel)
theorem d289_1772 : decode (vm_cd 289) 1772 = .ok (.iadd, 1) := (congrArg (fun b => decode b 1772) cd289).trans (by decide +kernel)
theorem d289_1773 : decode (vm_cd 289) 1773 = .ok (.iaload, 1) := (congrArg (fun b => decode b 1773) cd289).trans (by decide +kernel)
theorem d289_1774 : decode (vm_cd 289) 1774 = .ok (.aload_n 0, 1) := (congrArg (fun b => decode b 1774) cd289).trans (by decide +kernel)
theorem d289_1775 : decode (vm_cd 289) 1775 = .ok (.iload_n 3, 1) := (congrArg (fun b => decode b 1775) cd289).trans (by decide +kernel)
theorem d289_1776 : decode (vm_cd 289) 1776 = .ok (.iconst 2, 1) := (congrArg (fun b => decode b 1776) cd289).trans (by decide +kernel)
theorem d289_1777 : decode (vm_cd 289) 1777 = .ok (.iadd, 1) := (congrArg (fun b => decode b 1777) cd289).trans (by decide +kernel)
theorem d289_1778 : decode (vm_cd 289) 1778 = .ok (.iaload, 1) := (congrArg (fun b => decode b 1778) cd289).trans (by decide +kernel)
theorem d289_1779 : decode (vm_cd 289) 1779 = .ok (.invokevirtual 209, 3) := (congrArg (fun b => decode b 1779) cd289).trans (by decide +kernel)
theorem d289_1782 : decode (vm_cd 289) 1782 = .ok (.if_icmp .eq 104, 3) := (congrArg (fun b => decode b 1782) cd289).trans (by decide +kernel)
theorem d289_1787 : decode (vm_cd 289) 1787 = .ok (.aload_n 1, 1) := (congrArg (fun b => decode b 1787) cd289).trans (by decide +kernel)
theorem d289_1788 : decode (vm_cd 289) 1788 = .ok (.aload_n 0, 1) := (congrArg (fun b => decode b 1788) cd289).trans (by decide +kernel)
theorem d289_1789 : decode (vm_cd 289) 1789 = .ok (.iload_n 3, 1) := (congrArg (fun b => decode b 1789) cd289).trans (by decide +kernel)
theorem d289_1790 : decode (vm_cd 289) 1790 = .ok (.iconst 1, 1) := (congrArg (fun b => decode b 1790) cd289).trans (by decide +kernel)
theorem d289_1791 : decode (vm_cd 289) 1791 = .ok (.iadd, 1) := (congrArg (fun b => decode b 1791) cd289).trans (by decide +kernel)
theorem d289_1792 : decode (vm_cd 289) 1792 = .ok (.iaload, 1) := (congrArg (fun b => decode b 1792) cd289).trans (by decide +kernel)
theorem d289_1793 : decode (vm_cd 289) 1793 = .ok (.invokevirtual 210, 3) := (congrArg (fun b => decode b 1793) cd289).trans (by decide +kernel)
theorem d289_1796 : decode (vm_cd 289) 1796 = .ok (.aload_n 2, 1) := (congrArg (fun b => decode b 1796) cd289).trans (by decide +kernel)
theorem d289_1797 : decode (vm_cd 289) 1797 = .ok (.aload_n 0, 1) := (congrArg (fun b => decode b 1797) cd289).trans (by decide +kernel)
theorem d289_1798 : decode (vm_cd 289) 1798 = .ok (.iload_n 3, 1) := (congrArg (fun b => decode b 1798) cd289).trans (by decide +kernel)
theorem d289_1799 : decode (vm_cd 289) 1799 = .ok (.iconst 1, 1) := (congrArg (fun b => decode b 1799) cd289).trans (by decide +kernel)
theorem d289_1800 : decode (vm_cd 289) 1800 = .ok (.iadd, 1) := (congrArg (fun b => decode b 1800) cd289).trans (by decide +kernel)
theorem d289_1801 : decode (vm_cd 289) 1801 = .ok (.iaload, 1) := (congrArg (fun b => decode b 1801) cd289).trans (by decide +kernel)
theorem d289_1802 : decode (vm_cd 289) 1802 = .ok (.invokevirtual 213, 3) := (congrArg (fun b => decode b 1802) cd289).trans (by decide +kernel)
theorem d289_1805 : decode (vm_cd 289) 1805 = .ok (.if_icmp .eq 81, 3) := (congrArg (fun b => decode b 1805) cd289).trans (by decide +kernel)
theorem d289_1810 : decode (vm_cd 289) 1810 = .ok (.aload_n 1, 1) := (congrArg (fun b => decode b 1810) cd289).trans (by decide +kernel)
theorem d289_1811 : decode (vm_cd 289) 1811 = .ok (.aload_n 0, 1) := (congrArg (fun b => decode b 1811) cd289).trans (by decide +kernel)
theorem d289_1812 : decode (vm_cd 289) 1812 = .ok (.iload_n 3, 1) := (congrArg (fun b => decode b 1812) cd289).trans (by decide +kernel)
theorem d289_1813 : decode (vm_cd 289) 1813 = .ok (.iconst 1, 1) := (congrArg (fun b => decode b 1813) cd289).trans (by decide +kernel)
theorem d289_1814 : decode (vm_cd 289) 1814 = .ok (.iadd, 1) := (congrArg (fun b => decode b 1814) cd289).trans (by decide +kernel)
theorem d289_1815 : decode (vm_cd 289) 1815 = .ok (.iaload, 1) := (congrArg (fun b => decode b 1815) cd289).trans (by decide +kernel)
theorem d289_1816 : decode (vm_cd 289) 1816 = .ok (.aload_n 0, 1) := (congrArg (fun b => decode b 1816) cd289).trans (by decide +kernel)
theorem d289_1817 : decode (vm_cd 289) 1817 = .ok (.iload_n 3, 1) := (congrArg (fun b => decode b 1817) cd289).trans (by decide +kernel)
theorem d289_1818 : decode (vm_cd 289) 1818 = .ok (.iconst 2, 1) := (congrArg (fun b => decode b 1818) cd289).trans (by decide +kernel)
theorem d289_1819 : decode (vm_cd 289) 1819 = .ok (.iadd, 1) := (congrArg (fun b => decode b 1819) cd289).trans (by decide +kernel)
theorem d289_1820 : decode (vm_cd 289) 1820 = .ok (.iaload, 1) := (congrArg (fun b => decode b 1820) cd289).trans (by decide +kernel)
theorem d289_1821 : decode (vm_cd 289) 1821 = .ok (.aload_n 0, 1) := (congrArg (fun b => decode b 1821) cd289).trans (by decide +kernel)
theorem d289_1822 : decode (vm_cd 289) 1822 = .ok (.iload_n 3, 1) := (congrArg (fun b => decode b 1822) cd289).trans (by decide +kernel)
theorem d289_1823 : decode (vm_cd 289) 1823 = .ok (.iconst 3, 1) := (congrArg (fun b => decode b 1823) cd289).trans (by decide +kernel)
theorem d289_1824 : decode (vm_cd 289) 1824 = .ok (.iadd, 1) := (congrArg (fun b => decode b 1824) cd289).trans (by decide +kernel)
theorem d289_1825 : decode (vm_cd 289) 1825 = .ok (.iaload, 1) := (congrArg (fun b => decode b 1825) cd289).trans (by decide +kernel)
theorem d289_1826 : decode (vm_cd 289) 1826 = .ok (.aload_n 0, 1) := (congrArg (fun b => decode b 1826) cd289).trans (by decide +kernel)
theorem d289_1827 : decode (vm_cd 289) 1827 = .ok (.iload_n 3, 1) := (congrArg (fun b => decode b 1827) cd289).trans (by decide +kernel)
theorem d289_1828 : decode (vm_cd 289) 1828 = .ok (.iconst 4, 1) := (congrArg (fun b => decode b 1828) cd289).trans (by decide +kernel)
theorem d289_1829 : decode (vm_cd 289) 1829 = .ok (.iadd, 1) := (congrArg (fun b => decode b 1829) cd289).trans (by decide +kernel)
theorem d289_1830 : decode (vm_cd 289) 1830 = .ok (.iaload, 1) := (congrArg (fun b => decode b 1830) cd289).trans (by decide +kernel)
theorem d289_1831 : decode (vm_cd 289) 1831 = .ok (.invokevirtual 214, 3) := (congrArg (fun b => decode b 1831) cd289).trans (by decide +kernel)
theorem d289_1834 : decode (vm_cd 289) 1834 = .ok (.aload_n 2, 1) := (congrArg (fun b => decode b 1834) cd289).trans (by decide +kernel)
theorem d289_1835 : decode (vm_cd 289) 1835 = .ok (.aload_n 0, 1) := (congrArg (fun b => decode b 1835) cd289).trans (by decide +kernel)
theorem d289_1836 : decode (vm_cd 289) 1836 = .ok (.iload_n 3, 1) := (congrArg (fun b => decode b 1836) cd289).trans (by decide +kernel)
theorem d289_1837 : decode (vm_cd 289) 1837 = .ok (.iconst 1, 1) := (congrArg (fun b => decode b 1837) cd289).trans (by decide +kernel)
theorem d289_1838 : decode (vm_cd 289) 1838 = .ok (.iadd, 1) := (congrArg (fun b => decode b 1838) cd289).trans (by decide +kernel)
theorem d289_1839 : decode (vm_cd 289) 1839 = .ok (.iaload, 1) := (congrArg (fun b => decode b 1839) cd289).trans (by decide +kernel)
theorem d289_1840 : decode (vm_cd 289) 1840 = .ok (.aload_n 0, 1) := (congrArg (fun b => decode b 1840) cd289).trans (by decide +kernel)
theorem d289_1841 : decode (vm_cd 289) 1841 = .ok (.iload_n 3, 1) := (congrArg (fun b => decode b 1841) cd289).trans (by decide +kernel)
theorem d289_1842 : decode (vm_cd 289) 1842 = .ok (.iconst 2, 1) := (congrArg (fun b => decode b 1842) cd289).trans (by decide +kernel)
theorem d289_1843 : decode (vm_cd 289) 1843 = .ok (.iadd, 1) := (congrArg (fun b => decode b 1843) cd289).trans (by decide +kernel)
theorem d289_1844 : decode (vm_cd 289) 1844 = .ok (.iaload, 1) := (congrArg (fun b => decode b 1844) cd289).trans (by decide +kernel)
theorem d289_1845 : decode (vm_cd 289) 1845 = .ok (.aload_n 0, 1) := (congrArg (fun b => decode b 1845) cd289).trans (by decide +kernel)
theorem d289_1846 : decode (vm_cd 289) 1846 = .ok (.iload_n 3, 1) := (congrArg (fun b => decode b 1846) cd289).trans (by decide +kernel)
theorem d289_1847 : decode (vm_cd 289) 1847 = .ok (.iconst 3, 1) := (congrArg (fun b => decode b 1847) cd289).trans (by decide +kernel)
theorem d289_1848 : decode (vm_cd 289) 1848 = .ok (.iadd, 1) := (congrArg (fun b => decode b 1848) cd289).trans (by decide +kernel)
theorem d289_1849 : decode (vm_cd 289) 1849 = .ok (.iaload, 1) := (congrArg (fun b => decode b 1849) cd289).trans (by decide +kernel)
theorem d289_1850 : decode (vm_cd 289) 1850 = .ok (.aload_n 0, 1) := (congrArg (fun b => decode b 1850) cd289).trans (by decide +kernel)
theorem d289_1851 : decode (vm_cd 289) 1851 = .ok (.iload_n 3, 1) := (congrArg (fun b => decode b 1851) cd289).trans (by decide +kernel)
theorem d289_1852 : decode (vm_cd 289) 1852 = .ok (.iconst 4, 1) := (congrArg (fun b => decode b 1852) cd289).trans (by decide +kernel)
theorem d289_1853 : decode (vm_cd 289) 1853 = .ok (.iadd, 1) := (congrArg (fun b => decode b 1853) cd289).trans (by decide +kernel)
theorem d289_1854 : decode (vm_cd 289) 1854 = .ok (.iaload, 1) := (congrArg (fun b => decode b 1854) cd289).trans (by decide +kernel)
theorem d289_1855 : decode (vm_cd 289) 1855 = .ok (.invokevirtual 218, 3) := (congrArg (fun b => decode b 1855) cd289).trans (by decide +kernel)
theorem d289_1858 : decode (vm_cd 289) 1858 = .ok (.if_icmp .eq 28, 3) := (congrArg (fun b => decode b 1858) cd289).trans (by decide +kernel)
theorem d289_1863 : decode (vm_cd 289) 1863 = .ok (.aload_n 1, 1) := (congrArg (fun b => decode b 1863) cd289).trans (by decide +kernel)
theorem d289_1864 : decode (vm_cd 289) 1864 = .ok (.aload_n 0, 1) := (congrArg (fun b => decode b 1864) cd289).trans (by decide +kernel)
theorem d289_1865 : decode (vm_cd 289) 1865 = .ok (.iload_n 3, 1) := (congrArg (fun b => decode b 1865) cd289).trans (by decide +kernel)
theorem d289_1866 : decode (vm_cd 289) 1866 = .ok (.iconst 1, 1) := (congrArg (fun b => decode b 1866) cd289).trans (by decide +kernel)
theorem d289_1867 : decode (vm_cd 289) 1867 = .ok (.iadd, 1) := (congrArg (fun b => decode b 1867) cd289).trans (by decide +kernel)
theorem d289_1868 : decode (vm_cd 289) 1868 = .ok (.iaload, 1) := (congrArg (fun b => decode b 1868) cd289).trans (by decide +kernel)
theorem d289_1869 : decode (vm_cd 289) 1869 = .ok (.invokevirtual 219, 3) := (congrArg (fun b => decode b 1869) cd289).trans (by decide +kernel)
theorem d289_1872 : decode (vm_cd 289) 1872 = .ok (.aload_n 2, 1) := (congrArg (fun b => decode b 1872) cd289).trans (by decide +kernel)
theorem d289_1873 : decode (vm_cd 289) 1873 = .ok (.aload_n 0, 1) := (congrArg (fun b => decode b 1873) cd289).trans (by decide +kernel)
theorem d289_1874 : decode (vm_cd 289) 1874 = .ok (.iload_n 3, 1) := (congrArg (fun b => decode b 1874) cd289).trans (by decide +kernel)
theorem d289_1875 : decode (vm_cd 289) 1875 = .ok (.iconst 1, 1) := (congrArg (fun b => decode b 1875) cd289).trans (by decide +kernel)
theorem d289_1876 : decode (vm_cd 289) 1876 = .ok (.iadd, 1) := (congrArg (fun b => decode b 1876) cd289).trans (by decide +kernel)
theorem d289_1877 : decode (vm_cd 289) 1877 = .ok (.iaload, 1) := (congrArg (fun b => decode b 1877) cd289).trans (by decide +kernel)
theorem d289_1878 : decode (vm_cd 289) 1878 = .ok (.invokevirtual 222, 3) := (congrArg (fun b => decode b 1878) cd289).trans (by decide +kernel)
theorem d289_1881 : decode (vm_cd 289) 1881 = .ok (.if_icmp .eq 5, 3) := (congrArg (fun b => decode b 1881) cd289).trans (by decide +kernel)
theorem d289_1886 : decode (vm_cd 289) 1886 = .ok (.iinc 3 7, 3) := (congrArg (fun b => decode b 1886) cd289).trans (by decide +kernel)
theorem d289_1889 : decode (vm_cd 289) 1889 = .ok (.goto (-1861), 3) := (congrArg (fun b => decode b 1889) cd289).trans (by decide +kernel)
theorem d289_1892 : decode (vm_cd 289) 1892 = .ok (.iconst 1, 1) := (congrArg (fun b => decode b 1892) cd289).trans (by decide +kernel)
theorem d289_1893 : decode (vm_cd 289) 1893 = .ok (.ireturn, 1) := (congrArg (fun b => decode b 1893) cd289).trans (by decide +kernel)
theorem c289_9 : vm_ml.lookup (vm_own 289, 9) = some (1, 288, 2, 1018, 1019, 0, 0) := vm_lk (by decide +kernel)
theorem c289_15 : vm_ml.lookup (vm_own 289, 15) = some (2, 127, 1, 19, 20, 0, 1) := vm_lk (by decide +kernel)
theorem c289_20 : vm_ml.lookup (vm_own 289, 20) = some (2, 184, 1, 1023, 1024, 0, 13) := vm_lk (by decide +kernel)
theorem c289_21 : vm_ml.lookup (vm_own 289, 21) = some (0, 128, 1, 287, 288, 362, 1) := vm_lk (by decide +kernel)
theorem c289_25 : vm_ml.lookup (vm_own 289, 25) = some (0, 190, 1, 1205, 1206, 1280, 13) := vm_lk (by decide +kernel)
theorem c289_26 : vm_ml.lookup (vm_own 289, 26) = some (0, 129, 2, 302, 303, 377, 1) := vm_lk (by decide +kernel)
theorem c289_30 : vm_ml.lookup (vm_own 289, 30) = some (0, 191, 2, 1213, 1214, 1288, 13) := vm_lk (by decide +kernel)
theorem c289_31 : vm_ml.lookup (vm_own 289, 31) = some (0, 130, 3, 314, 315, 389, 1) := vm_lk (by decide +kernel)
theorem c289_35 : vm_ml.lookup (vm_own 289, 35) = some (0, 192, 3, 1221, 1222, 1296, 13) := vm_lk (by decide +kernel)
theorem c289_36 : vm_ml.lookup (vm_own 289, 36) = some (0, 131, 2, 325, 326, 400, 1) := vm_lk (by decide +kernel)
theorem c289_39 : vm_ml.lookup (vm_own 289, 39) = some (0, 193, 2, 1228, 1229, 1303, 13) := vm_lk (by decide +kernel)
theorem c289_40 : vm_ml.lookup (vm_own 289, 40) = some (0, 132, 1, 337, 338, 412, 1) := vm_lk (by decide +kernel)
theorem c289_43 : vm_ml.lookup (vm_own 289, 43) = some (0, 194, 1, 1237, 1238, 1312, 13) := vm_lk (by decide +kernel)
theorem c289_44 : vm_ml.lookup (vm_own 289, 44) = some (0, 133, 2, 345, 346, 420, 1) := vm_lk (by decide +kernel)
theorem c289_47 : vm_ml.lookup (vm_own 289, 47) = some (0, 195, 2, 1241, 1242, 1316, 13) := vm_lk (by decide +kernel)
theorem c289_48 : vm_ml.lookup (vm_own 289, 48) = some (0, 134, 2, 349, 350, 424, 1) := vm_lk (by decide +kernel)
theorem c289_52 : vm_ml.lookup (vm_own 289, 52) = some (0, 200, 2, 1246, 1247, 1321, 13) := vm_lk (by decide +kernel)
theorem c289_53 : vm_ml.lookup (vm_own 289, 53) = some (0, 135, 1, 366, 367, 441, 1) := vm_lk (by decide +kernel)
theorem c289_56 : vm_ml.lookup (vm_own 289, 56) = some (0, 201, 1, 1263, 1264, 1338, 13) := vm_lk (by decide +kernel)
theorem c289_57 : vm_ml.lookup (vm_own 289, 57) = some (0, 136, 2, 387, 388, 462, 1) := vm_lk (by decide +kernel)
theorem c289_60 : vm_ml.lookup (vm_own 289, 60) = some (0, 209, 2, 1275, 1276, 1350, 13) := vm_lk (by decide +kernel)
theorem c289_61 : vm_ml.lookup (vm_own 289, 61) = some (0, 137, 4, 454, 455, 529, 1) := vm_lk (by decide +kernel)
theorem c289_65 : vm_ml.lookup (vm_own 289, 65) = some (0, 210, 4, 1301, 1302, 1376, 13) := vm_lk (by decide +kernel)
theorem c289_66 : vm_ml.lookup (vm_own 289, 66) = some (0, 138, 4, 480, 481, 555, 1) := vm_lk (by decide +kernel)
theorem c289_69 : vm_ml.lookup (vm_own 289, 69) = some (0, 216, 4, 1312, 1313, 1387, 13) := vm_lk (by decide +kernel)
theorem c289_70 : vm_ml.lookup (vm_own 289, 70) = some (0, 139, 1, 496, 497, 571, 1) := vm_lk (by decide +kernel)
theorem c289_73 : vm_ml.lookup (vm_own 289, 73) = some (0, 218, 1, 1335, 1336, 1410, 13) := vm_lk (by decide +kernel)
theorem c289_74 : vm_ml.lookup (vm_own 289, 74) = some (0, 140, 2, 509, 510, 584, 1) := vm_lk (by decide +kernel)
theorem c289_77 : vm_ml.lookup (vm_own 289, 77) = some (0, 219, 2, 1343, 1344, 1418, 13) := vm_lk (by decide +kernel)
theorem c289_78 : vm_ml.lookup (vm_own 289, 78) = some (0, 141, 4, 514, 515, 589, 1) := vm_lk (by decide +kernel)
theorem c289_81 : vm_ml.lookup (vm_own 289, 81) = some (0, 220, 4, 1347, 1348, 1422, 13) := vm_lk (by decide +kernel)
theorem c289_82 : vm_ml.lookup (vm_own 289, 82) = some (0, 142, 2, 526, 527, 601, 1) := vm_lk (by decide +kernel)
theorem c289_85 : vm_ml.lookup (vm_own 289, 85) = some (0, 221, 2, 1351, 1352, 1426, 13) := vm_lk (by decide +kernel)
theorem c289_86 : vm_ml.lookup (vm_own 289, 86) = some (0, 143, 5, 534, 535, 609, 1) := vm_lk (by decide +kernel)
theorem c289_90 : vm_ml.lookup (vm_own 289, 90) = some (0, 223, 5, 1357, 1358, 1432, 13) := vm_lk (by decide +kernel)
theorem c289_91 : vm_ml.lookup (vm_own 289, 91) = some (0, 144, 6, 554, 555, 629, 1) := vm_lk (by decide +kernel)
theorem c289_95 : vm_ml.lookup (vm_own 289, 95) = some (0, 224, 6, 1367, 1368, 1442, 13) := vm_lk (by decide +kernel)
theorem c289_96 : vm_ml.lookup (vm_own 289, 96) = some (0, 145, 5, 565, 566, 640, 1) := vm_lk (by decide +kernel)
theorem c289_99 : vm_ml.lookup (vm_own 289, 99) = some (0, 225, 5, 1371, 1372, 1446, 13) := vm_lk (by decide +kernel)
theorem c289_100 : vm_ml.lookup (vm_own 289, 100) = some (0, 146, 2, 577, 578, 652, 1) := vm_lk (by decide +kernel)
theorem c289_103 : vm_ml.lookup (vm_own 289, 103) = some (0, 229, 2, 1375, 1376, 1450, 13) := vm_lk (by decide +kernel)
theorem c289_104 : vm_ml.lookup (vm_own 289, 104) = some (0, 147, 3, 614, 615, 689, 1) := vm_lk (by decide +kernel)
theorem c289_107 : vm_ml.lookup (vm_own 289, 107) = some (0, 230, 3, 1392, 1393, 1467, 13) := vm_lk (by decide +kernel)
theorem c289_108 : vm_ml.lookup (vm_own 289, 108) = some (0, 148, 1, 623, 624, 698, 1) := vm_lk (by decide +kernel)
theorem c289_111 : vm_ml.lookup (vm_own 289, 111) = some (0, 231, 1, 1397, 1398, 1472, 13) := vm_lk (by decide +kernel)
theorem c289_112 : vm_ml.lookup (vm_own 289, 112) = some (0, 149, 3, 631, 632, 706, 1) := vm_lk (by decide +kernel)
theorem c289_115 : vm_ml.lookup (vm_own 289, 115) = some (0, 233, 3, 1401, 1402, 1476, 13) := vm_lk (by decide +kernel)
theorem c289_116 : vm_ml.lookup (vm_own 289, 116) = some (0, 150, 2, 651, 652, 726, 1) := vm_lk (by decide +kernel)
theorem c289_119 : vm_ml.lookup (vm_own 289, 119) = some (0, 234, 2, 1409, 1410, 1484, 13) := vm_lk (by decide +kernel)
theorem c289_120 : vm_ml.lookup (vm_own 289, 120) = some (0, 151, 2, 659, 660, 734, 1) := vm_lk (by decide +kernel)
theorem c289_123 : vm_ml.lookup (vm_own 289, 123) = some (0, 237, 2, 1413, 1414, 1488, 13) := vm_lk (by decide +kernel)
theorem c289_124 : vm_ml.lookup (vm_own 289, 124) = some (0, 152, 2, 681, 682, 756, 1) := vm_lk (by decide +kernel)
theorem c289_127 : vm_ml.lookup (vm_own 289, 127) = some (0, 240, 2, 1425, 1426, 1500, 13) := vm_lk (by decide +kernel)
theorem c289_128 : vm_ml.lookup (vm_own 289, 128) = some (0, 153, 1, 694, 695, 769, 1) := vm_lk (by decide +kernel)
theorem c289_131 : vm_ml.lookup (vm_own 289, 131) = some (0, 241, 1, 1437, 1438, 1512, 13) := vm_lk (by decide +kernel)
theorem c289_132 : vm_ml.lookup (vm_own 289, 132) = some (0, 154, 3, 698, 699, 773, 1) := vm_lk (by decide +kernel)
theorem c289_136 : vm_ml.lookup (vm_own 289, 136) = some (0, 242, 3, 1441, 1442, 1516, 13) := vm_lk (by decide +kernel)
theorem c289_137 : vm_ml.lookup (vm_own 289, 137) = some (0, 155, 3, 702, 703, 777, 1) := vm_lk (by decide +kernel)
theorem c289_140 : vm_ml.lookup (vm_own 289, 140) = some (0, 243, 3, 1445, 1446, 1520, 13) := vm_lk (by decide +kernel)
theorem c289_141 : vm_ml.lookup (vm_own 289, 141) = some (0, 156, 0, 714, 715, 789, 1) := vm_lk (by decide +kernel)
theorem c289_145 : vm_ml.lookup (vm_own 289, 145) = some (0, 247, 0, 1450, 1451, 1525, 13) := vm_lk (by decide +kernel)
theorem c289_146 : vm_ml.lookup (vm_own 289, 146) = some (0, 157, 1, 737, 738, 812, 1) := vm_lk (by decide +kernel)
theorem c289_149 : vm_ml.lookup (vm_own 289, 149) = some (0, 248, 1, 1466, 1467, 1541, 13) := vm_lk (by decide +kernel)
theorem c289_152 : vm_ml.lookup (vm_own 289, 152) = some (0, 158, 2, 745, 746, 820, 1) := vm_lk (by decide +kernel)
theorem c289_156 : vm_ml.lookup (vm_own 289, 156) = some (0, 249, 2, 1470, 1471, 1545, 13) := vm_lk (by decide +kernel)
theorem c289_157 : vm_ml.lookup (vm_own 289, 157) = some (0, 159, 0, 757, 758, 832, 1) := vm_lk (by decide +kernel)
theorem c289_160 : vm_ml.lookup (vm_own 289, 160) = some (0, 259, 0, 1476, 1477, 1551, 13) := vm_lk (by decide +kernel)
theorem c289_161 : vm_ml.lookup (vm_own 289, 161) = some (0, 160, 2, 842, 843, 917, 1) := vm_lk (by decide +kernel)
theorem c289_164 : vm_ml.lookup (vm_own 289, 164) = some (0, 263, 2, 1517, 1518, 1592, 13) := vm_lk (by decide +kernel)
theorem c289_165 : vm_ml.lookup (vm_own 289, 165) = some (0, 161, 1, 861, 862, 936, 1) := vm_lk (by decide +kernel)
theorem c289_168 : vm_ml.lookup (vm_own 289, 168) = some (0, 264, 1, 1534, 1535, 1609, 13) := vm_lk (by decide +kernel)
theorem c289_169 : vm_ml.lookup (vm_own 289, 169) = some (0, 162, 1, 869, 870, 944, 1) := vm_lk (by decide +kernel)
theorem c289_172 : vm_ml.lookup (vm_own 289, 172) = some (0, 265, 1, 1538, 1539, 1613, 13) := vm_lk (by decide +kernel)
theorem c289_173 : vm_ml.lookup (vm_own 289, 173) = some (0, 163, 1, 882, 883, 957, 1) := vm_lk (by decide +kernel)
theorem c289_176 : vm_ml.lookup (vm_own 289, 176) = some (0, 266, 1, 1542, 1543, 1617, 13) := vm_lk (by decide +kernel)
theorem c289_177 : vm_ml.lookup (vm_own 289, 177) = some (0, 164, 1, 891, 892, 966, 1) := vm_lk (by decide +kernel)
theorem c289_180 : vm_ml.lookup (vm_own 289, 180) = some (0, 267, 1, 1547, 1548, 1622, 13) := vm_lk (by decide +kernel)
theorem c289_181 : vm_ml.lookup (vm_own 289, 181) = some (0, 165, 0, 914, 915, 989, 1) := vm_lk (by decide +kernel)
theorem c289_184 : vm_ml.lookup (vm_own 289, 184) = some (0, 268, 0, 1552, 1553, 1627, 13) := vm_lk (by decide +kernel)
theorem c289_185 : vm_ml.lookup (vm_own 289, 185) = some (0, 166, 2, 926, 927, 1001, 1) := vm_lk (by decide +kernel)
theorem c289_188 : vm_ml.lookup (vm_own 289, 188) = some (0, 269, 2, 1556, 1557, 1631, 13) := vm_lk (by decide +kernel)
theorem c289_189 : vm_ml.lookup (vm_own 289, 189) = some (0, 167, 1, 938, 939, 1013, 1) := vm_lk (by decide +kernel)
theorem c289_193 : vm_ml.lookup (vm_own 289, 193) = some (0, 270, 1, 1560, 1561, 1635, 13) := vm_lk (by decide +kernel)
theorem c289_194 : vm_ml.lookup (vm_own 289, 194) = some (0, 168, 3, 946, 947, 1021, 1) := vm_lk (by decide +kernel)
theorem c289_197 : vm_ml.lookup (vm_own 289, 197) = some (0, 272, 3, 1564, 1565, 1639, 13) := vm_lk (by decide +kernel)
theorem c289_198 : vm_ml.lookup (vm_own 289, 198) = some (0, 169, 2, 956, 957, 1031, 1) := vm_lk (by decide +kernel)
theorem c289_201 : vm_ml.lookup (vm_own 289, 201) = some (0, 273, 2, 1573, 1574, 1648, 13) := vm_lk (by decide +kernel)
theorem c289_202 : vm_ml.lookup (vm_own 289, 202) = some (0, 170, 3, 961, 962, 1036, 1) := vm_lk (by decide +kernel)
theorem c289_205 : vm_ml.lookup (vm_own 289, 205) = some (0, 274, 3, 1577, 1578, 1652, 13) := vm_lk (by decide +kernel)
theorem c289_206 : vm_ml.lookup (vm_own 289, 206) = some (0, 171, 2, 969, 970, 1044, 1) := vm_lk (by decide +kernel)
theorem c289_209 : vm_ml.lookup (vm_own 289, 209) = some (0, 276, 2, 1581, 1582, 1656, 13) := vm_lk (by decide +kernel)
theorem c289_210 : vm_ml.lookup (vm_own 289, 210) = some (0, 172, 1, 987, 988, 1062, 1) := vm_lk (by decide +kernel)
theorem c289_213 : vm_ml.lookup (vm_own 289, 213) = some (0, 277, 1, 1590, 1591, 1665, 13) := vm_lk (by decide +kernel)
theorem c289_214 : vm_ml.lookup (vm_own 289, 214) = some (0, 173, 4, 996, 997, 1071, 1) := vm_lk (by decide +kernel)
theorem c289_218 : vm_ml.lookup (vm_own 289, 218) = some (0, 278, 4, 1594, 1595, 1669, 13) := vm_lk (by decide +kernel)
theorem c289_219 : vm_ml.lookup (vm_own 289, 219) = some (0, 174, 1, 1006, 1007, 1081, 1) := vm_lk (by decide +kernel)
theorem c289_222 : vm_ml.lookup (vm_own 289, 222) = some (0, 279, 1, 1598, 1599, 1673, 13) := vm_lk (by decide +kernel)
theorem n289_7 : vm_nw.lookup (vm_own 289, 7) = some (10, 17, 18, 1) := by decide +kernel
theorem n289_18 : vm_nw.lookup (vm_own 289, 18) = some (11, 1021, 1022, 13) := by decide +kernel
theorem g289_150 : vm_cn.lookup (vm_own 289, 150) = some ((1), (4294967295), (1602)) := by decide +kernel
theorem r289 : vm_rt 289 = (some .boolean) := by decide +kernel
theorem cd288 : vm_cd 288 = cL_cell := rfl
theorem d288_0 : decode (vm_cd 288) 0 = .ok (.iload_n 1, 1) := (congrArg (fun b => decode b 0) cd288).trans (by decide +kernel)
theorem d288_1 : decode (vm_cd 288) 1 = .ok (.aload_n 0, 1) := (congrArg (fun b => decode b 1) cd288).trans (by decide +kernel)
theorem d288_2 : decode (vm_cd 288) 2 = .ok (.arraylength, 1) := (congrArg (fun b => decode b 2) cd288).trans (by decide +kernel)
theorem d288_3 : decode (vm_cd 288) 3 = .ok (.if_icmp .ge 9, 3) := (congrArg (fun b => decode b 3) cd288).trans (by decide +kernel)
theorem d288_6 : decode (vm_cd 288) 6 = .ok (.aload_n 0, 1) := (congrArg (fun b => decode b 6) cd288).trans (by decide +kernel)
theorem d288_7 : decode (vm_cd 288) 7 = .ok (.iload_n 1, 1) := (congrArg (fun b => decode b 7) cd288).trans (by decide +kernel)
theorem d288_8 : decode (vm_cd 288) 8 = .ok (.iaload, 1) := (congrArg (fun b => decode b 8) cd288).trans (by decide +kernel)
theorem d288_9 : decode (vm_cd 288) 9 = .ok (.goto 4, 3) := (congrArg (fun b => decode b 9) cd288).trans (by decide +kernel)
theorem d288_12 : decode (vm_cd 288) 12 = .ok (.iconst 0, 1) := (congrArg (fun b => decode b 12) cd288).trans (by decide +kernel)
theorem d288_13 : decode (vm_cd 288) 13 = .ok (.ireturn, 1) := (congrArg (fun b => decode b 13) cd288).trans (by decide +kernel)
theorem r288 : vm_rt 288 = (some .int) := by decide +kernel
theorem v128 : 10 < 12 ∧ (vm_F 10).1 = (vm_y 128).cls := by decide +kernel
theorem v129 : 10 < 12 ∧ (vm_F 10).1 = (vm_y 129).cls := by decide +kernel
theorem v130 : 10 < 12 ∧ (vm_F 10).1 = (vm_y 130).cls := by decide +kernel
theorem v131 : 10 < 12 ∧ (vm_F 10).1 = (vm_y 131).cls := by decide +kernel
theorem v132 : 10 < 12 ∧ (vm_F 10).1 = (vm_y 132).cls := by decide +kernel
theorem v133 : 10 < 12 ∧ (vm_F 10).1 = (vm_y 133).cls := by decide +kernel
theorem v134 : 10 < 12 ∧ (vm_F 10).1 = (vm_y 134).cls := by decide +kernel
theorem v136 : 10 < 12 ∧ (vm_F 10).1 = (vm_y 136).cls := by decide +kernel
theorem v137 : 10 < 12 ∧ (vm_F 10).1 = (vm_y 137).cls := by decide +kernel
theorem v138 : 10 < 12 ∧ (vm_F 10).1 = (vm_y 138).cls := by decide +kernel
theorem v140 : 10 < 12 ∧ (vm_F 10).1 = (vm_y 140).cls := by decide +kernel
theorem v141 : 10 < 12 ∧ (vm_F 10).1 = (vm_y 141).cls := by decide +kernel
theorem v142 : 10 < 12 ∧ (vm_F 10).1 = (vm_y 142).cls := by decide +kernel
theorem v143 : 10 < 12 ∧ (vm_F 10).1 = (vm_y 143).cls := by decide +kernel
theorem v144 : 10 < 12 ∧ (vm_F 10).1 = (vm_y 144).cls := by decide +kernel
theorem v145 : 10 < 12 ∧ (vm_F 10).1 = (vm_y 145).cls := by decide +kernel
theorem v147 : 10 < 12 ∧ (vm_F 10).1 = (vm_y 147).cls := by decide +kernel
theorem v148 : 10 < 12 ∧ (vm_F 10).1 = (vm_y 148).cls := by decide +kernel
theorem v149 : 10 < 12 ∧ (vm_F 10).1 = (vm_y 149).cls := by decide +kernel
theorem v150 : 10 < 12 ∧ (vm_F 10).1 = (vm_y 150).cls := by decide +kernel
theorem v151 : 10 < 12 ∧ (vm_F 10).1 = (vm_y 151).cls := by decide +kernel
theorem v152 : 10 < 12 ∧ (vm_F 10).1 = (vm_y 152).cls := by decide +kernel
theorem v153 : 10 < 12 ∧ (vm_F 10).1 = (vm_y 153).cls := by decide +kernel
theorem v154 : 10 < 12 ∧ (vm_F 10).1 = (vm_y 154).cls := by decide +kernel
theorem v155 : 10 < 12 ∧ (vm_F 10).1 = (vm_y 155).cls := by decide +kernel
theorem v156 : 10 < 12 ∧ (vm_F 10).1 = (vm_y 156).cls := by decide +kernel
theorem v157 : 10 < 12 ∧ (vm_F 10).1 = (vm_y 157).cls := by decide +kernel
theorem v158 : 10 < 12 ∧ (vm_F 10).1 = (vm_y 158).cls := by decide +kernel
theorem v159 : 10 < 12 ∧ (vm_F 10).1 = (vm_y 159).cls := by decide +kernel
theorem v160 : 10 < 12 ∧ (vm_F 10).1 = (vm_y 160).cls := by decide +kernel
theorem v161 : 10 < 12 ∧ (vm_F 10).1 = (vm_y 161).cls := by decide +kernel
theorem v162 : 10 < 12 ∧ (vm_F 10).1 = (vm_y 162).cls := by decide +kernel
theorem v163 : 10 < 12 ∧ (vm_F 10).1 = (vm_y 163).cls := by decide +kernel
theorem v164 : 10 < 12 ∧ (vm_F 10).1 = (vm_y 164).cls := by decide +kernel
theorem v165 : 10 < 12 ∧ (vm_F 10).1 = (vm_y 165).cls := by decide +kernel
theorem v166 : 10 < 12 ∧ (vm_F 10).1 = (vm_y 166).cls := by decide +kernel
theorem v167 : 10 < 12 ∧ (vm_F 10).1 = (vm_y 167).cls := by decide +kernel
theorem v169 : 10 < 12 ∧ (vm_F 10).1 = (vm_y 169).cls := by decide +kernel
theorem v170 : 10 < 12 ∧ (vm_F 10).1 = (vm_y 170).cls := by decide +kernel
theorem v171 : 10 < 12 ∧ (vm_F 10).1 = (vm_y 171).cls := by decide +kernel
theorem v172 : 10 < 12 ∧ (vm_F 10).1 = (vm_y 172).cls := by decide +kernel
theorem v173 : 10 < 12 ∧ (vm_F 10).1 = (vm_y 173).cls := by decide +kernel
theorem v174 : 10 < 12 ∧ (vm_F 10).1 = (vm_y 174).cls := by decide +kernel
theorem v190 : 11 < 12 ∧ (vm_F 11).1 = (vm_y 190).cls := by decide +kernel
theorem v191 : 11 < 12 ∧ (vm_F 11).1 = (vm_y 191).cls := by decide +kernel
theorem v192 : 11 < 12 ∧ (vm_F 11).1 = (vm_y 192).cls := by decide +kernel
theorem v193 : 11 < 12 ∧ (vm_F 11).1 = (vm_y 193).cls := by decide +kernel
theorem v194 : 11 < 12 ∧ (vm_F 11).1 = (vm_y 194).cls := by decide +kernel
theorem v195 : 11 < 12 ∧ (vm_F 11).1 = (vm_y 195).cls := by decide +kernel
theorem v200 : 11 < 12 ∧ (vm_F 11).1 = (vm_y 200).cls := by decide +kernel
theorem v201 : 11 < 12 ∧ (vm_F 11).1 = (vm_y 201).cls := by decide +kernel
theorem v209 : 11 < 12 ∧ (vm_F 11).1 = (vm_y 209).cls := by decide +kernel
theorem v210 : 11 < 12 ∧ (vm_F 11).1 = (vm_y 210).cls := by decide +kernel
theorem v216 : 11 < 12 ∧ (vm_F 11).1 = (vm_y 216).cls := by decide +kernel
theorem v218 : 11 < 12 ∧ (vm_F 11).1 = (vm_y 218).cls := by decide +kernel
theorem v219 : 11 < 12 ∧ (vm_F 11).1 = (vm_y 219).cls := by decide +kernel
theorem v220 : 11 < 12 ∧ (vm_F 11).1 = (vm_y 220).cls := by decide +kernel
theorem v221 : 11 < 12 ∧ (vm_F 11).1 = (vm_y 221).cls := by decide +kernel
theorem v223 : 11 < 12 ∧ (vm_F 11).1 = (vm_y 223).cls := by decide +kernel
theorem v224 : 11 < 12 ∧ (vm_F 11).1 = (vm_y 224).cls := by decide +kernel
theorem v225 : 11 < 12 ∧ (vm_F 11).1 = (vm_y 225).cls := by decide +kernel
theorem v230 : 11 < 12 ∧ (vm_F 11).1 = (vm_y 230).cls := by decide +kernel
theorem v231 : 11 < 12 ∧ (vm_F 11).1 = (vm_y 231).cls := by decide +kernel
theorem v233 : 11 < 12 ∧ (vm_F 11).1 = (vm_y 233).cls := by decide +kernel
theorem v234 : 11 < 12 ∧ (vm_F 11).1 = (vm_y 234).cls := by decide +kernel
theorem v237 : 11 < 12 ∧ (vm_F 11).1 = (vm_y 237).cls := by decide +kernel
theorem v240 : 11 < 12 ∧ (vm_F 11).1 = (vm_y 240).cls := by decide +kernel
theorem v241 : 11 < 12 ∧ (vm_F 11).1 = (vm_y 241).cls := by decide +kernel
theorem v242 : 11 < 12 ∧ (vm_F 11).1 = (vm_y 242).cls := by decide +kernel
theorem v243 : 11 < 12 ∧ (vm_F 11).1 = (vm_y 243).cls := by decide +kernel
theorem v247 : 11 < 12 ∧ (vm_F 11).1 = (vm_y 247).cls := by decide +kernel
theorem v248 : 11 < 12 ∧ (vm_F 11).1 = (vm_y 248).cls := by decide +kernel
theorem v249 : 11 < 12 ∧ (vm_F 11).1 = (vm_y 249).cls := by decide +kernel
theorem v259 : 11 < 12 ∧ (vm_F 11).1 = (vm_y 259).cls := by decide +kernel
theorem v263 : 11 < 12 ∧ (vm_F 11).1 = (vm_y 263).cls := by decide +kernel
theorem v264 : 11 < 12 ∧ (vm_F 11).1 = (vm_y 264).cls := by decide +kernel
theorem v265 : 11 < 12 ∧ (vm_F 11).1 = (vm_y 265).cls := by decide +kernel
theorem v266 : 11 < 12 ∧ (vm_F 11).1 = (vm_y 266).cls := by decide +kernel
theorem v267 : 11 < 12 ∧ (vm_F 11).1 = (vm_y 267).cls := by decide +kernel
theorem v268 : 11 < 12 ∧ (vm_F 11).1 = (vm_y 268).cls := by decide +kernel
theorem v269 : 11 < 12 ∧ (vm_F 11).1 = (vm_y 269).cls := by decide +kernel
theorem v270 : 11 < 12 ∧ (vm_F 11).1 = (vm_y 270).cls := by decide +kernel
theorem v272 : 11 < 12 ∧ (vm_F 11).1 = (vm_y 272).cls := by decide +kernel
theorem v273 : 11 < 12 ∧ (vm_F 11).1 = (vm_y 273).cls := by decide +kernel
theorem v274 : 11 < 12 ∧ (vm_F 11).1 = (vm_y 274).cls := by decide +kernel
theorem v276 : 11 < 12 ∧ (vm_F 11).1 = (vm_y 276).cls := by decide +kernel
theorem v277 : 11 < 12 ∧ (vm_F 11).1 = (vm_y 277).cls := by decide +kernel
theorem v278 : 11 < 12 ∧ (vm_F 11).1 = (vm_y 278).cls := by decide +kernel
theorem v279 : 11 < 12 ∧ (vm_F 11).1 = (vm_y 279).cls := by decide +kernel
theorem LW_0 (hM : Rel M) (hi : 1 ≤ i ∧ i + 7 ≤ X.2) (hL : X.2 ≤ 3585) (hxr : ∀ q, -2147483648 ≤ X.1 q ∧ X.1 q < 2147483648) (k : ∀ M2, Rel M2 → vw X (d + 40) 289 1886 [vR (-2), vR 0, vR 81, vI i] [] M2 Q) : vw X (d + 40) 289 244 [vR (-2), vR 0, vR 81, vI i] [] M Q := by
  refine w_aload_n d289_244 rfl ?_
  refine w_arg (c := 1) d289_245 d289_246 d289_247 d289_248 d289_249 rfl ⟨by omega, by omega⟩ hL ?_
  refine w_inv0 (a := 0) (c := 10) d289_250 c289_21 rfl rfl rfl v128 (Nat.le_of_ble_eq_true rfl) (cq.cl ((cq.ty (op_act hM)).mono (fun v M1 hv => ?_)))
  obtain ⟨h2, ht⟩ := hv
  obtain ⟨x, rfl⟩ := ht.1 r128
  show wp X (d + 40) 289 253 [vR (-2), vR 0, vR 81, vI i] [vI x] (vS0, M1) _
  refine w_aload_n d289_253 rfl ?_
  refine w_arg (c := 1) d289_254 d289_255 d289_256 d289_257 d289_258 rfl ⟨by omega, by omega⟩ hL ?_
  refine w_inv0 (a := 81) (c := 11) d289_259 c289_25 rfl rfl rfl v190 (Nat.le_of_ble_eq_true rfl) (cq.cl (h2.mono (fun v2 M2 hv2 => ?_)))
  obtain ⟨rfl, hM2⟩ := hv2
  show wp X (d + 40) 289 262 [vR (-2), vR 0, vR 81, vI i] [vI x, vI x] (vS0, M2) _
  exact w_icmp_eq (tgt := 1886) d289_262 rfl (fun _ => k M2 hM2) (fun h => absurd rfl h)
theorem LW_1 (hM : Rel M) (hi : 1 ≤ i ∧ i + 7 ≤ X.2) (hL : X.2 ≤ 3585) (hxr : ∀ q, -2147483648 ≤ X.1 q ∧ X.1 q < 2147483648) (k : ∀ M2, Rel M2 → vw X (d + 40) 289 1886 [vR (-2), vR 0, vR 81, vI i] [] M2 Q) : vw X (d + 40) 289 267 [vR (-2), vR 0, vR 81, vI i] [] M Q := by
  refine w_aload_n d289_267 rfl ?_
  refine w_arg (c := 1) d289_268 d289_269 d289_270 d289_271 d289_272 rfl ⟨by omega, by omega⟩ hL ?_
  refine w_arg (c := 2) d289_273 d289_274 d289_275 d289_276 d289_277 rfl ⟨by omega, by omega⟩ hL ?_
  refine w_inv0 (a := 0) (c := 10) d289_278 c289_26 rfl rfl rfl v129 (Nat.le_of_ble_eq_true rfl) (cq.cl ((cq.ty (op_cost hM)).mono (fun v M1 hv => ?_)))
  obtain ⟨h2, ht⟩ := hv
  obtain ⟨x, rfl⟩ := ht.1 r129
  show wp X (d + 40) 289 281 [vR (-2), vR 0, vR 81, vI i] [vI x] (vS0, M1) _
  refine w_aload_n d289_281 rfl ?_
  refine w_arg (c := 1) d289_282 d289_283 d289_284 d289_285 d289_286 rfl ⟨by omega, by omega⟩ hL ?_
  refine w_arg (c := 2) d289_287 d289_288 d289_289 d289_290 d289_291 rfl ⟨by omega, by omega⟩ hL ?_
  refine w_inv0 (a := 81) (c := 11) d289_292 c289_30 rfl rfl rfl v191 (Nat.le_of_ble_eq_true rfl) (cq.cl (h2.mono (fun v2 M2 hv2 => ?_)))
  obtain ⟨rfl, hM2⟩ := hv2
  show wp X (d + 40) 289 295 [vR (-2), vR 0, vR 81, vI i] [vI x, vI x] (vS0, M2) _
  exact w_icmp_eq (tgt := 1886) d289_295 rfl (fun _ => k M2 hM2) (fun h => absurd rfl h)
theorem LW_2 (hM : Rel M) (hi : 1 ≤ i ∧ i + 7 ≤ X.2) (hL : X.2 ≤ 3585) (hxr : ∀ q, -2147483648 ≤ X.1 q ∧ X.1 q < 2147483648) (k : ∀ M2, Rel M2 → vw X (d + 40) 289 1886 [vR (-2), vR 0, vR 81, vI i] [] M2 Q) : vw X (d + 40) 289 300 [vR (-2), vR 0, vR 81, vI i] [] M Q := by
  refine w_aload_n d289_300 rfl ?_
  refine w_arg (c := 1) d289_301 d289_302 d289_303 d289_304 d289_305 rfl ⟨by omega, by omega⟩ hL ?_
  refine w_arg (c := 2) d289_306 d289_307 d289_308 d289_309 d289_310 rfl ⟨by omega, by omega⟩ hL ?_
  refine w_arg (c := 3) d289_311 d289_312 d289_313 d289_314 d289_315 rfl ⟨by omega, by omega⟩ hL ?_
  refine w_inv0 (a := 0) (c := 10) d289_316 c289_31 rfl rfl rfl v130 (Nat.le_of_ble_eq_true rfl) (cq.cl ((cq.ty (op_chances hM (hxr _))).mono (fun v M1 hv => ?_)))
  obtain ⟨h2, ht⟩ := hv
  obtain ⟨x, rfl⟩ := ht.1 r130
  show wp X (d + 40) 289 319 [vR (-2), vR 0, vR 81, vI i] [vI x] (vS0, M1) _
  refine w_aload_n d289_319 rfl ?_
  refine w_arg (c := 1) d289_320 d289_321 d289_322 d289_323 d289_324 rfl ⟨by omega, by omega⟩ hL ?_
  refine w_arg (c := 2) d289_325 d289_326 d289_327 d289_328 d289_329 rfl ⟨by omega, by omega⟩ hL ?_
  refine w_arg (c := 3) d289_330 d289_331 d289_332 d289_333 d289_334 rfl ⟨by omega, by omega⟩ hL ?_
  refine w_inv0 (a := 81) (c := 11) d289_335 c289_35 rfl rfl rfl v192 (Nat.le_of_ble_eq_true rfl) (cq.cl (h2.mono (fun v2 M2 hv2 => ?_)))
  obtain ⟨rfl, hM2⟩ := hv2
  show wp X (d + 40) 289 338 [vR (-2), vR 0, vR 81, vI i] [vI x, vI x] (vS0, M2) _
  exact w_icmp_eq (tgt := 1886) d289_338 rfl (fun _ => k M2 hM2) (fun h => absurd rfl h)
theorem LW_3 (hM : Rel M) (hi : 1 ≤ i ∧ i + 7 ≤ X.2) (hL : X.2 ≤ 3585) (hxr : ∀ q, -2147483648 ≤ X.1 q ∧ X.1 q < 2147483648) (k : ∀ M2, Rel M2 → vw X (d + 40) 289 1886 [vR (-2), vR 0, vR 81, vI i] [] M2 Q) : vw X (d + 40) 289 343 [vR (-2), vR 0, vR 81, vI i] [] M Q := by
  refine w_aload_n d289_343 rfl ?_
  refine w_arg (c := 1) d289_344 d289_345 d289_346 d289_347 d289_348 rfl ⟨by omega, by omega⟩ hL ?_
  refine w_arg (c := 2) d289_349 d289_350 d289_351 d289_352 d289_353 rfl ⟨by omega, by omega⟩ hL ?_
  refine w_inv0 (a := 0) (c := 10) d289_354 c289_36 rfl rfl rfl v131 (Nat.le_of_ble_eq_true rfl) (cq.cl ((cq.ty (op_value hM)).mono (fun v M1 hv => ?_)))
  obtain ⟨h2, ht⟩ := hv
  obtain ⟨x, rfl⟩ := ht.1 r131
  show wp X (d + 40) 289 357 [vR (-2), vR 0, vR 81, vI i] [vI x] (vS0, M1) _
  refine w_aload_n d289_357 rfl ?_
  refine w_arg (c := 1) d289_358 d289_359 d289_360 d289_361 d289_362 rfl ⟨by omega, by omega⟩ hL ?_
  refine w_arg (c := 2) d289_363 d289_364 d289_365 d289_366 d289_367 rfl ⟨by omega, by omega⟩ hL ?_
  refine w_inv0 (a := 81) (c := 11) d289_368 c289_39 rfl rfl rfl v193 (Nat.le_of_ble_eq_true rfl) (cq.cl (h2.mono (fun v2 M2 hv2 => ?_)))
  obtain ⟨rfl, hM2⟩ := hv2
  show wp X (d + 40) 289 371 [vR (-2), vR 0, vR 81, vI i] [vI x, vI x] (vS0, M2) _
  exact w_icmp_eq (tgt := 1886) d289_371 rfl (fun _ => k M2 hM2) (fun h => absurd rfl h)
theorem LW_4 (hM : Rel M) (hi : 1 ≤ i ∧ i + 7 ≤ X.2) (hL : X.2 ≤ 3585) (hxr : ∀ q, -2147483648 ≤ X.1 q ∧ X.1 q < 2147483648) (k : ∀ M2, Rel M2 → vw X (d + 40) 289 1886 [vR (-2), vR 0, vR 81, vI i] [] M2 Q) : vw X (d + 40) 289 376 [vR (-2), vR 0, vR 81, vI i] [] M Q := by
  refine w_aload_n d289_376 rfl ?_
  refine w_arg (c := 1) d289_377 d289_378 d289_379 d289_380 d289_381 rfl ⟨by omega, by omega⟩ hL ?_
  refine w_inv0 (a := 0) (c := 10) d289_382 c289_40 rfl rfl rfl v132 (Nat.le_of_ble_eq_true rfl) (cq.cl ((cq.ty (op_reserve hM)).mono (fun v M1 hv => ?_)))
  obtain ⟨h2, ht⟩ := hv
  obtain ⟨x, rfl⟩ := ht.1 r132
  show wp X (d + 40) 289 385 [vR (-2), vR 0, vR 81, vI i] [vI x] (vS0, M1) _
  refine w_aload_n d289_385 rfl ?_
  refine w_arg (c := 1) d289_386 d289_387 d289_388 d289_389 d289_390 rfl ⟨by omega, by omega⟩ hL ?_
  refine w_inv0 (a := 81) (c := 11) d289_391 c289_43 rfl rfl rfl v194 (Nat.le_of_ble_eq_true rfl) (cq.cl (h2.mono (fun v2 M2 hv2 => ?_)))
  obtain ⟨rfl, hM2⟩ := hv2
  show wp X (d + 40) 289 394 [vR (-2), vR 0, vR 81, vI i] [vI x, vI x] (vS0, M2) _
  exact w_icmp_eq (tgt := 1886) d289_394 rfl (fun _ => k M2 hM2) (fun h => absurd rfl h)
theorem LW_5 (hM : Rel M) (hi : 1 ≤ i ∧ i + 7 ≤ X.2) (hL : X.2 ≤ 3585) (hxr : ∀ q, -2147483648 ≤ X.1 q ∧ X.1 q < 2147483648) (k : ∀ M2, Rel M2 → vw X (d + 40) 289 1886 [vR (-2), vR 0, vR 81, vI i] [] M2 Q) : vw X (d + 40) 289 399 [vR (-2), vR 0, vR 81, vI i] [] M Q := by
  refine w_aload_n d289_399 rfl ?_
  refine w_arg (c := 1) d289_400 d289_401 d289_402 d289_403 d289_404 rfl ⟨by omega, by omega⟩ hL ?_
  refine w_arg (c := 2) d289_405 d289_406 d289_407 d289_408 d289_409 rfl ⟨by omega, by omega⟩ hL ?_
  refine w_inv0 (a := 0) (c := 10) d289_410 c289_44 rfl rfl rfl v133 (Nat.le_of_ble_eq_true rfl) (cq.cl ((cq.ty (op_pay hM)).mono (fun v M1 hv => ?_)))
  obtain ⟨h2, ht⟩ := hv
  obtain ⟨x, rfl⟩ := ht.1 r133
  show wp X (d + 40) 289 413 [vR (-2), vR 0, vR 81, vI i] [vI x] (vS0, M1) _
  refine w_aload_n d289_413 rfl ?_
  refine w_arg (c := 1) d289_414 d289_415 d289_416 d289_417 d289_418 rfl ⟨by omega, by omega⟩ hL ?_
  refine w_arg (c := 2) d289_419 d289_420 d289_421 d289_422 d289_423 rfl ⟨by omega, by omega⟩ hL ?_
  refine w_inv0 (a := 81) (c := 11) d289_424 c289_47 rfl rfl rfl v195 (Nat.le_of_ble_eq_true rfl) (cq.cl (h2.mono (fun v2 M2 hv2 => ?_)))
  obtain ⟨rfl, hM2⟩ := hv2
  show wp X (d + 40) 289 427 [vR (-2), vR 0, vR 81, vI i] [vI x, vI x] (vS0, M2) _
  exact w_icmp_eq (tgt := 1886) d289_427 rfl (fun _ => k M2 hM2) (fun h => absurd rfl h)
theorem LW_6 (hM : Rel M) (hi : 1 ≤ i ∧ i + 7 ≤ X.2) (hL : X.2 ≤ 3585) (hxr : ∀ q, -2147483648 ≤ X.1 q ∧ X.1 q < 2147483648) (k : ∀ M2, Rel M2 → vw X (d + 40) 289 1886 [vR (-2), vR 0, vR 81, vI i] [] M2 Q) : vw X (d + 40) 289 432 [vR (-2), vR 0, vR 81, vI i] [] M Q := by
  refine w_aload_n d289_432 rfl ?_
  refine w_arg (c := 1) d289_433 d289_434 d289_435 d289_436 d289_437 rfl ⟨by omega, by omega⟩ hL ?_
  refine w_arg (c := 2) d289_438 d289_439 d289_440 d289_441 d289_442 rfl ⟨by omega, by omega⟩ hL ?_
  refine w_inv0 (a := 0) (c := 10) d289_443 c289_48 rfl rfl rfl v134 (Nat.le_of_ble_eq_true rfl) (cq.cl ((cq.ty (op_gain hM)).mono (fun v M1 hv => ?_)))
  obtain ⟨h2, ht⟩ := hv
  obtain ⟨x, rfl⟩ := ht.2.1 r134
  show wp X (d + 40) 289 446 [vR (-2), vR 0, vR 81, vI i] [vL x] (vS0, M1) _
  refine w_aload_n d289_446 rfl ?_
  refine w_arg (c := 1) d289_447 d289_448 d289_449 d289_450 d289_451 rfl ⟨by omega, by omega⟩ hL ?_
  refine w_arg (c := 2) d289_452 d289_453 d289_454 d289_455 d289_456 rfl ⟨by omega, by omega⟩ hL ?_
  refine w_inv0 (a := 81) (c := 11) d289_457 c289_52 rfl rfl rfl v200 (Nat.le_of_ble_eq_true rfl) (cq.cl (h2.mono (fun v2 M2 hv2 => ?_)))
  obtain ⟨rfl, hM2⟩ := hv2
  show wp X (d + 40) 289 460 [vR (-2), vR 0, vR 81, vI i] [vL x, vL x] (vS0, M2) _
  exact w_lc_eq (tgt := 1886) d289_460 d289_461 rfl (fun _ => k M2 hM2) (fun h => absurd rfl h)
theorem LW_7 (hM : Rel M) (hi : 1 ≤ i ∧ i + 7 ≤ X.2) (hL : X.2 ≤ 3585) (hxr : ∀ q, -2147483648 ≤ X.1 q ∧ X.1 q < 2147483648) (k : ∀ M2, Rel M2 → vw X (d + 40) 289 1886 [vR (-2), vR 0, vR 81, vI i] [] M2 Q) : vw X (d + 40) 289 466 [vR (-2), vR 0, vR 81, vI i] [] M Q := by
  refine w_aload_n d289_466 rfl ?_
  refine w_arg (c := 1) d289_467 d289_468 d289_469 d289_470 d289_471 rfl ⟨by omega, by omega⟩ hL ?_
  refine w_inv0 (a := 0) (c := 10) d289_472 c289_53 rfl rfl rfl v135 (Nat.le_of_ble_eq_true rfl) (cq.cl ((cq.ty (op_answer hM)).mono (fun v M1 hv => ?_)))
  obtain ⟨h2, ht⟩ := hv
  obtain ⟨x, rfl⟩ := ht.1 r135
  show wp X (d + 40) 289 475 [vR (-2), vR 0, vR 81, vI i] [vI x] (vS0, M1) _
  refine w_aload_n d289_475 rfl ?_
  refine w_arg (c := 1) d289_476 d289_477 d289_478 d289_479 d289_480 rfl ⟨by omega, by omega⟩ hL ?_
  refine w_inv0 (a := 81) (c := 11) d289_481 c289_56 rfl rfl rfl v201 (Nat.le_of_ble_eq_true rfl) (cq.cl (h2.mono (fun v2 M2 hv2 => ?_)))
  obtain ⟨rfl, hM2⟩ := hv2
  show wp X (d + 40) 289 484 [vR (-2), vR 0, vR 81, vI i] [vI x, vI x] (vS0, M2) _
  exact w_icmp_eq (tgt := 1886) d289_484 rfl (fun _ => k M2 hM2) (fun h => absurd rfl h)
theorem LW_8 (hM : Rel M) (hi : 1 ≤ i ∧ i + 7 ≤ X.2) (hL : X.2 ≤ 3585) (hxr : ∀ q, -2147483648 ≤ X.1 q ∧ X.1 q < 2147483648) (k : ∀ M2, Rel M2 → vw X (d + 40) 289 1886 [vR (-2), vR 0, vR 81, vI i] [] M2 Q) : vw X (d + 40) 289 489 [vR (-2), vR 0, vR 81, vI i] [] M Q := by
  refine w_aload_n d289_489 rfl ?_
  refine w_arg (c := 1) d289_490 d289_491 d289_492 d289_493 d289_494 rfl ⟨by omega, by omega⟩ hL ?_
  refine w_arg (c := 2) d289_495 d289_496 d289_497 d289_498 d289_499 rfl ⟨by omega, by omega⟩ hL ?_
  refine w_inv0 (a := 0) (c := 10) d289_500 c289_57 rfl rfl rfl v136 (Nat.le_of_ble_eq_true rfl) (cq.cl ((cq.ty (op_steers hM)).mono (fun v M1 hv => ?_)))
  obtain ⟨h2, ht⟩ := hv
  obtain ⟨x, rfl⟩ := ht.1 r136
  show wp X (d + 40) 289 503 [vR (-2), vR 0, vR 81, vI i] [vI x] (vS0, M1) _
  refine w_aload_n d289_503 rfl ?_
  refine w_arg (c := 1) d289_504 d289_505 d289_506 d289_507 d289_508 rfl ⟨by omega, by omega⟩ hL ?_
  refine w_arg (c := 2) d289_509 d289_510 d289_511 d289_512 d289_513 rfl ⟨by omega, by omega⟩ hL ?_
  refine w_inv0 (a := 81) (c := 11) d289_514 c289_60 rfl rfl rfl v209 (Nat.le_of_ble_eq_true rfl) (cq.cl (h2.mono (fun v2 M2 hv2 => ?_)))
  obtain ⟨rfl, hM2⟩ := hv2
  show wp X (d + 40) 289 517 [vR (-2), vR 0, vR 81, vI i] [vI x, vI x] (vS0, M2) _
  exact w_icmp_eq (tgt := 1886) d289_517 rfl (fun _ => k M2 hM2) (fun h => absurd rfl h)
theorem LW_9 (hM : Rel M) (hi : 1 ≤ i ∧ i + 7 ≤ X.2) (hL : X.2 ≤ 3585) (hxr : ∀ q, -2147483648 ≤ X.1 q ∧ X.1 q < 2147483648) (k : ∀ M2, Rel M2 → vw X (d + 40) 289 1886 [vR (-2), vR 0, vR 81, vI i] [] M2 Q) : vw X (d + 40) 289 522 [vR (-2), vR 0, vR 81, vI i] [] M Q := by
  refine w_aload_n d289_522 rfl ?_
  refine w_arg (c := 1) d289_523 d289_524 d289_525 d289_526 d289_527 rfl ⟨by omega, by omega⟩ hL ?_
  refine w_arg (c := 2) d289_528 d289_529 d289_530 d289_531 d289_532 rfl ⟨by omega, by omega⟩ hL ?_
  refine w_arg (c := 3) d289_533 d289_534 d289_535 d289_536 d289_537 rfl ⟨by omega, by omega⟩ hL ?_
  refine w_arg (c := 4) d289_538 d289_539 d289_540 d289_541 d289_542 rfl ⟨by omega, by omega⟩ hL ?_
  refine w_inv0 (a := 0) (c := 10) d289_543 c289_61 rfl rfl rfl v137 (Nat.le_of_ble_eq_true rfl) (cq.cl ((cq.ty (op_least hM)).mono (fun v M1 hv => ?_)))
  obtain ⟨h2, ht⟩ := hv
  obtain ⟨x, rfl⟩ := ht.2.1 r137
  show wp X (d + 40) 289 546 [vR (-2), vR 0, vR 81, vI i] [vL x] (vS0, M1) _
  refine w_aload_n d289_546 rfl ?_
  refine w_arg (c := 1) d289_547 d289_548 d289_549 d289_550 d289_551 rfl ⟨by omega, by omega⟩ hL ?_
  refine w_arg (c := 2) d289_552 d289_553 d289_554 d289_555 d289_556 rfl ⟨by omega, by omega⟩ hL ?_
  refine w_arg (c := 3) d289_557 d289_558 d289_559 d289_560 d289_561 rfl ⟨by omega, by omega⟩ hL ?_
  refine w_arg (c := 4) d289_562 d289_563 d289_564 d289_565 d289_566 rfl ⟨by omega, by omega⟩ hL ?_
  refine w_inv0 (a := 81) (c := 11) d289_567 c289_65 rfl rfl rfl v210 (Nat.le_of_ble_eq_true rfl) (cq.cl (h2.mono (fun v2 M2 hv2 => ?_)))
  obtain ⟨rfl, hM2⟩ := hv2
  show wp X (d + 40) 289 570 [vR (-2), vR 0, vR 81, vI i] [vL x, vL x] (vS0, M2) _
  exact w_lc_eq (tgt := 1886) d289_570 d289_571 rfl (fun _ => k M2 hM2) (fun h => absurd rfl h)
theorem LW_10 (hM : Rel M) (hi : 1 ≤ i ∧ i + 7 ≤ X.2) (hL : X.2 ≤ 3585) (hxr : ∀ q, -2147483648 ≤ X.1 q ∧ X.1 q < 2147483648) (k : ∀ M2, Rel M2 → vw X (d + 40) 289 1886 [vR (-2), vR 0, vR 81, vI i] [] M2 Q) : vw X (d + 40) 289 576 [vR (-2), vR 0, vR 81, vI i] [] M Q := by
  refine w_aload_n d289_576 rfl ?_
  refine w_arg (c := 1) d289_577 d289_578 d289_579 d289_580 d289_581 rfl ⟨by omega, by omega⟩ hL ?_
  refine w_arg (c := 2) d289_582 d289_583 d289_584 d289_585 d289_586 rfl ⟨by omega, by omega⟩ hL ?_
  refine w_arg (c := 3) d289_587 d289_588 d289_589 d289_590 d289_591 rfl ⟨by omega, by omega⟩ hL ?_
  refine w_arg (c := 4) d289_592 d289_593 d289_594 d289_595 d289_596 rfl ⟨by omega, by omega⟩ hL ?_
  refine w_inv0 (a := 0) (c := 10) d289_597 c289_66 rfl rfl rfl v138 (Nat.le_of_ble_eq_true rfl) (cq.cl ((cq.ty (op_proof hM)).mono (fun v M1 hv => ?_)))
  obtain ⟨h2, ht⟩ := hv
  obtain ⟨x, rfl⟩ := ht.2.1 r138
  show wp X (d + 40) 289 600 [vR (-2), vR 0, vR 81, vI i] [vL x] (vS0, M1) _
  refine w_aload_n d289_600 rfl ?_
  refine w_arg (c := 1) d289_601 d289_602 d289_603 d289_604 d289_605 rfl ⟨by omega, by omega⟩ hL ?_
  refine w_arg (c := 2) d289_606 d289_607 d289_608 d289_609 d289_610 rfl ⟨by omega, by omega⟩ hL ?_
  refine w_arg (c := 3) d289_611 d289_612 d289_613 d289_614 d289_615 rfl ⟨by omega, by omega⟩ hL ?_
  refine w_arg (c := 4) d289_616 d289_617 d289_618 d289_619 d289_620 rfl ⟨by omega, by omega⟩ hL ?_
  refine w_inv0 (a := 81) (c := 11) d289_621 c289_69 rfl rfl rfl v216 (Nat.le_of_ble_eq_true rfl) (cq.cl (h2.mono (fun v2 M2 hv2 => ?_)))
  obtain ⟨rfl, hM2⟩ := hv2
  show wp X (d + 40) 289 624 [vR (-2), vR 0, vR 81, vI i] [vL x, vL x] (vS0, M2) _
  exact w_lc_eq (tgt := 1886) d289_624 d289_625 rfl (fun _ => k M2 hM2) (fun h => absurd rfl h)
theorem LW_11 (hM : Rel M) (hi : 1 ≤ i ∧ i + 7 ≤ X.2) (hL : X.2 ≤ 3585) (hxr : ∀ q, -2147483648 ≤ X.1 q ∧ X.1 q < 2147483648) (k : ∀ M2, Rel M2 → vw X (d + 40) 289 1886 [vR (-2), vR 0, vR 81, vI i] [] M2 Q) : vw X (d + 40) 289 630 [vR (-2), vR 0, vR 81, vI i] [] M Q := by
  refine w_aload_n d289_630 rfl ?_
  refine w_arg (c := 1) d289_631 d289_632 d289_633 d289_634 d289_635 rfl ⟨by omega, by omega⟩ hL ?_
  refine w_inv0 (a := 0) (c := 10) d289_636 c289_70 rfl rfl rfl v139 (Nat.le_of_ble_eq_true rfl) (cq.cl ((cq.ty (op_best hM)).mono (fun v M1 hv => ?_)))
  obtain ⟨h2, ht⟩ := hv
  obtain ⟨x, rfl⟩ := ht.1 r139
  show wp X (d + 40) 289 639 [vR (-2), vR 0, vR 81, vI i] [vI x] (vS0, M1) _
  refine w_aload_n d289_639 rfl ?_
  refine w_arg (c := 1) d289_640 d289_641 d289_642 d289_643 d289_644 rfl ⟨by omega, by omega⟩ hL ?_
  refine w_inv0 (a := 81) (c := 11) d289_645 c289_73 rfl rfl rfl v218 (Nat.le_of_ble_eq_true rfl) (cq.cl (h2.mono (fun v2 M2 hv2 => ?_)))
  obtain ⟨rfl, hM2⟩ := hv2
  show wp X (d + 40) 289 648 [vR (-2), vR 0, vR 81, vI i] [vI x, vI x] (vS0, M2) _
  exact w_icmp_eq (tgt := 1886) d289_648 rfl (fun _ => k M2 hM2) (fun h => absurd rfl h)
theorem LW_12 (hM : Rel M) (hi : 1 ≤ i ∧ i + 7 ≤ X.2) (hL : X.2 ≤ 3585) (hxr : ∀ q, -2147483648 ≤ X.1 q ∧ X.1 q < 2147483648) (k : ∀ M2, Rel M2 → vw X (d + 40) 289 1886 [vR (-2), vR 0, vR 81, vI i] [] M2 Q) : vw X (d + 40) 289 653 [vR (-2), vR 0, vR 81, vI i] [] M Q := by
  refine w_aload_n d289_653 rfl ?_
  refine w_arg (c := 1) d289_654 d289_655 d289_656 d289_657 d289_658 rfl ⟨by omega, by omega⟩ hL ?_
  refine w_arg (c := 2) d289_659 d289_660 d289_661 d289_662 d289_663 rfl ⟨by omega, by omega⟩ hL ?_
  refine w_inv0 (a := 0) (c := 10) d289_664 c289_74 rfl rfl rfl v140 (Nat.le_of_ble_eq_true rfl) (cq.cl ((cq.ty (op_bestGain hM)).mono (fun v M1 hv => ?_)))
  obtain ⟨h2, ht⟩ := hv
  obtain ⟨x, rfl⟩ := ht.2.1 r140
  show wp X (d + 40) 289 667 [vR (-2), vR 0, vR 81, vI i] [vL x] (vS0, M1) _
  refine w_aload_n d289_667 rfl ?_
  refine w_arg (c := 1) d289_668 d289_669 d289_670 d289_671 d289_672 rfl ⟨by omega, by omega⟩ hL ?_
  refine w_arg (c := 2) d289_673 d289_674 d289_675 d289_676 d289_677 rfl ⟨by omega, by omega⟩ hL ?_
  refine w_inv0 (a := 81) (c := 11) d289_678 c289_77 rfl rfl rfl v219 (Nat.le_of_ble_eq_true rfl) (cq.cl (h2.mono (fun v2 M2 hv2 => ?_)))
  obtain ⟨rfl, hM2⟩ := hv2
  show wp X (d + 40) 289 681 [vR (-2), vR 0, vR 81, vI i] [vL x, vL x] (vS0, M2) _
  exact w_lc_eq (tgt := 1886) d289_681 d289_682 rfl (fun _ => k M2 hM2) (fun h => absurd rfl h)
theorem LW_13 (hM : Rel M) (hi : 1 ≤ i ∧ i + 7 ≤ X.2) (hL : X.2 ≤ 3585) (hxr : ∀ q, -2147483648 ≤ X.1 q ∧ X.1 q < 2147483648) (k : ∀ M2, Rel M2 → vw X (d + 40) 289 1886 [vR (-2), vR 0, vR 81, vI i] [] M2 Q) : vw X (d + 40) 289 687 [vR (-2), vR 0, vR 81, vI i] [] M Q := by
  refine w_aload_n d289_687 rfl ?_
  refine w_arg (c := 1) d289_688 d289_689 d289_690 d289_691 d289_692 rfl ⟨by omega, by omega⟩ hL ?_
  refine w_arg (c := 2) d289_693 d289_694 d289_695 d289_696 d289_697 rfl ⟨by omega, by omega⟩ hL ?_
  refine w_arg (c := 3) d289_698 d289_699 d289_700 d289_701 d289_702 rfl ⟨by omega, by omega⟩ hL ?_
  refine w_arg (c := 4) d289_703 d289_704 d289_705 d289_706 d289_707 rfl ⟨by omega, by omega⟩ hL ?_
  refine w_inv0 (a := 0) (c := 10) d289_708 c289_78 rfl rfl rfl v141 (Nat.le_of_ble_eq_true rfl) (cq.cl ((cq.ty (op_coarser hM (hxr _))).mono (fun v M1 hv => ?_)))
  obtain ⟨h2, ht⟩ := hv
  obtain ⟨x, rfl⟩ := ht.2.1 r141
  show wp X (d + 40) 289 711 [vR (-2), vR 0, vR 81, vI i] [vL x] (vS0, M1) _
  refine w_aload_n d289_711 rfl ?_
  refine w_arg (c := 1) d289_712 d289_713 d289_714 d289_715 d289_716 rfl ⟨by omega, by omega⟩ hL ?_
  refine w_arg (c := 2) d289_717 d289_718 d289_719 d289_720 d289_721 rfl ⟨by omega, by omega⟩ hL ?_
  refine w_arg (c := 3) d289_722 d289_723 d289_724 d289_725 d289_726 rfl ⟨by omega, by omega⟩ hL ?_
  refine w_arg (c := 4) d289_727 d289_728 d289_729 d289_730 d289_731 rfl ⟨by omega, by omega⟩ hL ?_
  refine w_inv0 (a := 81) (c := 11) d289_732 c289_81 rfl rfl rfl v220 (Nat.le_of_ble_eq_true rfl) (cq.cl (h2.mono (fun v2 M2 hv2 => ?_)))
  obtain ⟨rfl, hM2⟩ := hv2
  show wp X (d + 40) 289 735 [vR (-2), vR 0, vR 81, vI i] [vL x, vL x] (vS0, M2) _
  exact w_lc_eq (tgt := 1886) d289_735 d289_736 rfl (fun _ => k M2 hM2) (fun h => absurd rfl h)
theorem LW_14 (hM : Rel M) (hi : 1 ≤ i ∧ i + 7 ≤ X.2) (hL : X.2 ≤ 3585) (hxr : ∀ q, -2147483648 ≤ X.1 q ∧ X.1 q < 2147483648) (k : ∀ M2, Rel M2 → vw X (d + 40) 289 1886 [vR (-2), vR 0, vR 81, vI i] [] M2 Q) : vw X (d + 40) 289 741 [vR (-2), vR 0, vR 81, vI i] [] M Q := by
  refine w_aload_n d289_741 rfl ?_
  refine w_arg (c := 1) d289_742 d289_743 d289_744 d289_745 d289_746 rfl ⟨by omega, by omega⟩ hL ?_
  refine w_arg (c := 2) d289_747 d289_748 d289_749 d289_750 d289_751 rfl ⟨by omega, by omega⟩ hL ?_
  refine w_inv0 (a := 0) (c := 10) d289_752 c289_82 rfl rfl rfl v142 (Nat.le_of_ble_eq_true rfl) (cq.cl ((cq.ty (op_work hM)).mono (fun v M1 hv => ?_)))
  obtain ⟨h2, ht⟩ := hv
  obtain ⟨x, rfl⟩ := ht.1 r142
  show wp X (d + 40) 289 755 [vR (-2), vR 0, vR 81, vI i] [vI x] (vS0, M1) _
  refine w_aload_n d289_755 rfl ?_
  refine w_arg (c := 1) d289_756 d289_757 d289_758 d289_759 d289_760 rfl ⟨by omega, by omega⟩ hL ?_
  refine w_arg (c := 2) d289_761 d289_762 d289_763 d289_764 d289_765 rfl ⟨by omega, by omega⟩ hL ?_
  refine w_inv0 (a := 81) (c := 11) d289_766 c289_85 rfl rfl rfl v221 (Nat.le_of_ble_eq_true rfl) (cq.cl (h2.mono (fun v2 M2 hv2 => ?_)))
  obtain ⟨rfl, hM2⟩ := hv2
  show wp X (d + 40) 289 769 [vR (-2), vR 0, vR 81, vI i] [vI x, vI x] (vS0, M2) _
  exact w_icmp_eq (tgt := 1886) d289_769 rfl (fun _ => k M2 hM2) (fun h => absurd rfl h)
theorem LW_15 (hM : Rel M) (hi : 1 ≤ i ∧ i + 7 ≤ X.2) (hL : X.2 ≤ 3585) (hxr : ∀ q, -2147483648 ≤ X.1 q ∧ X.1 q < 2147483648) (k : ∀ M2, Rel M2 → vw X (d + 40) 289 1886 [vR (-2), vR 0, vR 81, vI i] [] M2 Q) : vw X (d + 40) 289 774 [vR (-2), vR 0, vR 81, vI i] [] M Q := by
  refine w_aload_n d289_774 rfl ?_
  refine w_arg (c := 1) d289_775 d289_776 d289_777 d289_778 d289_779 rfl ⟨by omega, by omega⟩ hL ?_
  refine w_arg (c := 2) d289_780 d289_781 d289_782 d289_783 d289_784 rfl ⟨by omega, by omega⟩ hL ?_
  refine w_arg (c := 3) d289_785 d289_786 d289_787 d289_788 d289_789 rfl ⟨by omega, by omega⟩ hL ?_
  refine w_arg (c := 4) d289_790 d289_791 d289_792 d289_793 d289_794 rfl ⟨by omega, by omega⟩ hL ?_
  refine w_arg (c := 5) d289_795 d289_796 d289_797 d289_798 d289_799 rfl ⟨by omega, by omega⟩ hL ?_
  refine w_inv0 (a := 0) (c := 10) d289_800 c289_86 rfl rfl rfl v143 (Nat.le_of_ble_eq_true rfl) (cq.cl ((cq.ty (op_menu hM)).mono (fun v M1 hv => ?_)))
  obtain ⟨h2, ht⟩ := hv
  obtain ⟨x, rfl⟩ := ht.1 r143
  show wp X (d + 40) 289 803 [vR (-2), vR 0, vR 81, vI i] [vI x] (vS0, M1) _
  refine w_aload_n d289_803 rfl ?_
  refine w_arg (c := 1) d289_804 d289_805 d289_806 d289_807 d289_808 rfl ⟨by omega, by omega⟩ hL ?_
  refine w_arg (c := 2) d289_809 d289_810 d289_811 d289_812 d289_813 rfl ⟨by omega, by omega⟩ hL ?_
  refine w_arg (c := 3) d289_814 d289_815 d289_816 d289_817 d289_818 rfl ⟨by omega, by omega⟩ hL ?_
  refine w_arg (c := 4) d289_819 d289_820 d289_821 d289_822 d289_823 rfl ⟨by omega, by omega⟩ hL ?_
  refine w_arg (c := 5) d289_824 d289_825 d289_826 d289_827 d289_828 rfl ⟨by omega, by omega⟩ hL ?_
  refine w_inv0 (a := 81) (c := 11) d289_829 c289_90 rfl rfl rfl v223 (Nat.le_of_ble_eq_true rfl) (cq.cl (h2.mono (fun v2 M2 hv2 => ?_)))
  obtain ⟨rfl, hM2⟩ := hv2
  show wp X (d + 40) 289 832 [vR (-2), vR 0, vR 81, vI i] [vI x, vI x] (vS0, M2) _
  exact w_icmp_eq (tgt := 1886) d289_832 rfl (fun _ => k M2 hM2) (fun h => absurd rfl h)
theorem LW_16 (hM : Rel M) (hi : 1 ≤ i ∧ i + 7 ≤ X.2) (hL : X.2 ≤ 3585) (hxr : ∀ q, -2147483648 ≤ X.1 q ∧ X.1 q < 2147483648) (k : ∀ M2, Rel M2 → vw X (d + 40) 289 1886 [vR (-2), vR 0, vR 81, vI i] [] M2 Q) : vw X (d + 40) 289 837 [vR (-2), vR 0, vR 81, vI i] [] M Q := by
  refine w_aload_n d289_837 rfl ?_
  refine w_arg (c := 1) d289_838 d289_839 d289_840 d289_841 d289_842 rfl ⟨by omega, by omega⟩ hL ?_
  refine w_arg (c := 2) d289_843 d289_844 d289_845 d289_846 d289_847 rfl ⟨by omega, by omega⟩ hL ?_
  refine w_arg (c := 3) d289_848 d289_849 d289_850 d289_851 d289_852 rfl ⟨by omega, by omega⟩ hL ?_
  refine w_arg (c := 4) d289_853 d289_854 d289_855 d289_856 d289_857 rfl ⟨by omega, by omega⟩ hL ?_
  refine w_arg (c := 5) d289_858 d289_859 d289_860 d289_861 d289_862 rfl ⟨by omega, by omega⟩ hL ?_
  refine w_arg6 (c := 6) d289_863 d289_864 d289_865 d289_867 d289_868 rfl ⟨by omega, by omega⟩ hL ?_
  refine w_inv0 (a := 0) (c := 10) d289_869 c289_91 rfl rfl rfl v144 (Nat.le_of_ble_eq_true rfl) (cq.cl ((cq.ty (op_may hM)).mono (fun v M1 hv => ?_)))
  obtain ⟨h2, ht⟩ := hv
  obtain ⟨x, rfl⟩ := ht.1 r144
  show wp X (d + 40) 289 872 [vR (-2), vR 0, vR 81, vI i] [vI x] (vS0, M1) _
  refine w_aload_n d289_872 rfl ?_
  refine w_arg (c := 1) d289_873 d289_874 d289_875 d289_876 d289_877 rfl ⟨by omega, by omega⟩ hL ?_
  refine w_arg (c := 2) d289_878 d289_879 d289_880 d289_881 d289_882 rfl ⟨by omega, by omega⟩ hL ?_
  refine w_arg (c := 3) d289_883 d289_884 d289_885 d289_886 d289_887 rfl ⟨by omega, by omega⟩ hL ?_
  refine w_arg (c := 4) d289_888 d289_889 d289_890 d289_891 d289_892 rfl ⟨by omega, by omega⟩ hL ?_
  refine w_arg (c := 5) d289_893 d289_894 d289_895 d289_896 d289_897 rfl ⟨by omega, by omega⟩ hL ?_
  refine w_arg6 (c := 6) d289_898 d289_899 d289_900 d289_902 d289_903 rfl ⟨by omega, by omega⟩ hL ?_
  refine w_inv0 (a := 81) (c := 11) d289_904 c289_95 rfl rfl rfl v224 (Nat.le_of_ble_eq_true rfl) (cq.cl (h2.mono (fun v2 M2 hv2 => ?_)))
  obtain ⟨rfl, hM2⟩ := hv2
  show wp X (d + 40) 289 907 [vR (-2), vR 0, vR 81, vI i] [vI x, vI x] (vS0, M2) _
  exact w_icmp_eq (tgt := 1886) d289_907 rfl (fun _ => k M2 hM2) (fun h => absurd rfl h)
theorem LW_17 (hM : Rel M) (hi : 1 ≤ i ∧ i + 7 ≤ X.2) (hL : X.2 ≤ 3585) (hxr : ∀ q, -2147483648 ≤ X.1 q ∧ X.1 q < 2147483648) (k : ∀ M2, Rel M2 → vw X (d + 40) 289 1886 [vR (-2), vR 0, vR 81, vI i] [] M2 Q) : vw X (d + 40) 289 912 [vR (-2), vR 0, vR 81, vI i] [] M Q := by
  refine w_aload_n d289_912 rfl ?_
  refine w_arg (c := 1) d289_913 d289_914 d289_915 d289_916 d289_917 rfl ⟨by omega, by omega⟩ hL ?_
  refine w_arg (c := 2) d289_918 d289_919 d289_920 d289_921 d289_922 rfl ⟨by omega, by omega⟩ hL ?_
  refine w_arg (c := 3) d289_923 d289_924 d289_925 d289_926 d289_927 rfl ⟨by omega, by omega⟩ hL ?_
  refine w_arg (c := 4) d289_928 d289_929 d289_930 d289_931 d289_932 rfl ⟨by omega, by omega⟩ hL ?_
  refine w_arg (c := 5) d289_933 d289_934 d289_935 d289_936 d289_937 rfl ⟨by omega, by omega⟩ hL ?_
  refine w_inv0 (a := 0) (c := 10) d289_938 c289_96 rfl rfl rfl v145 (Nat.le_of_ble_eq_true rfl) (cq.cl ((cq.ty (op_terms hM)).mono (fun v M1 hv => ?_)))
  obtain ⟨h2, ht⟩ := hv
  obtain ⟨x, rfl⟩ := ht.1 r145
  show wp X (d + 40) 289 941 [vR (-2), vR 0, vR 81, vI i] [vI x] (vS0, M1) _
  refine w_aload_n d289_941 rfl ?_
  refine w_arg (c := 1) d289_942 d289_943 d289_944 d289_945 d289_946 rfl ⟨by omega, by omega⟩ hL ?_
  refine w_arg (c := 2) d289_947 d289_948 d289_949 d289_950 d289_951 rfl ⟨by omega, by omega⟩ hL ?_
  refine w_arg (c := 3) d289_952 d289_953 d289_954 d289_955 d289_956 rfl ⟨by omega, by omega⟩ hL ?_
  refine w_arg (c := 4) d289_957 d289_958 d289_959 d289_960 d289_961 rfl ⟨by omega, by omega⟩ hL ?_
  refine w_arg (c := 5) d289_962 d289_963 d289_964 d289_965 d289_966 rfl ⟨by omega, by omega⟩ hL ?_
  refine w_inv0 (a := 81) (c := 11) d289_967 c289_99 rfl rfl rfl v225 (Nat.le_of_ble_eq_true rfl) (cq.cl (h2.mono (fun v2 M2 hv2 => ?_)))
  obtain ⟨rfl, hM2⟩ := hv2
  show wp X (d + 40) 289 970 [vR (-2), vR 0, vR 81, vI i] [vI x, vI x] (vS0, M2) _
  exact w_icmp_eq (tgt := 1886) d289_970 rfl (fun _ => k M2 hM2) (fun h => absurd rfl h)
theorem LW_18 (hM : Rel M) (hi : 1 ≤ i ∧ i + 7 ≤ X.2) (hL : X.2 ≤ 3585) (hxr : ∀ q, -2147483648 ≤ X.1 q ∧ X.1 q < 2147483648) (k : ∀ M2, Rel M2 → vw X (d + 40) 289 1886 [vR (-2), vR 0, vR 81, vI i] [] M2 Q) : vw X (d + 40) 289 975 [vR (-2), vR 0, vR 81, vI i] [] M Q := by
  refine w_aload_n d289_975 rfl ?_
  refine w_arg (c := 1) d289_976 d289_977 d289_978 d289_979 d289_980 rfl ⟨by omega, by omega⟩ hL ?_
  refine w_arg (c := 2) d289_981 d289_982 d289_983 d289_984 d289_985 rfl ⟨by omega, by omega⟩ hL ?_
  refine w_inv0 (a := 0) (c := 10) d289_986 c289_100 rfl rfl rfl v146 (Nat.le_of_ble_eq_true rfl) (cq.cl ((cq.ty (op_promise hM)).mono (fun v M1 hv => ?_)))
  obtain ⟨h2, ht⟩ := hv
  obtain ⟨x, rfl⟩ := ht.2.1 r146
  show wp X (d + 40) 289 989 [vR (-2), vR 0, vR 81, vI i] [vL x] (vS0, M1) _
  refine w_aload_n d289_989 rfl ?_
  refine w_arg (c := 1) d289_990 d289_991 d289_992 d289_993 d289_994 rfl ⟨by omega, by omega⟩ hL ?_
  refine w_arg (c := 2) d289_995 d289_996 d289_997 d289_998 d289_999 rfl ⟨by omega, by omega⟩ hL ?_
  refine w_inv0 (a := 81) (c := 11) d289_1000 c289_103 rfl rfl rfl v229 (Nat.le_of_ble_eq_true rfl) (cq.cl (h2.mono (fun v2 M2 hv2 => ?_)))
  obtain ⟨rfl, hM2⟩ := hv2
  show wp X (d + 40) 289 1003 [vR (-2), vR 0, vR 81, vI i] [vL x, vL x] (vS0, M2) _
  exact w_lc_eq (tgt := 1886) d289_1003 d289_1004 rfl (fun _ => k M2 hM2) (fun h => absurd rfl h)
theorem LW_19 (hM : Rel M) (hi : 1 ≤ i ∧ i + 7 ≤ X.2) (hL : X.2 ≤ 3585) (hxr : ∀ q, -2147483648 ≤ X.1 q ∧ X.1 q < 2147483648) (k : ∀ M2, Rel M2 → vw X (d + 40) 289 1886 [vR (-2), vR 0, vR 81, vI i] [] M2 Q) : vw X (d + 40) 289 1009 [vR (-2), vR 0, vR 81, vI i] [] M Q := by
  refine w_aload_n d289_1009 rfl ?_
  refine w_arg (c := 1) d289_1010 d289_1011 d289_1012 d289_1013 d289_1014 rfl ⟨by omega, by omega⟩ hL ?_
  refine w_arg (c := 2) d289_1015 d289_1016 d289_1017 d289_1018 d289_1019 rfl ⟨by omega, by omega⟩ hL ?_
  refine w_arg (c := 3) d289_1020 d289_1021 d289_1022 d289_1023 d289_1024 rfl ⟨by omega, by omega⟩ hL ?_
  refine w_inv0 (a := 0) (c := 10) d289_1025 c289_104 rfl rfl rfl v147 (Nat.le_of_ble_eq_true rfl) (cq.cl ((cq.ty (op_first hM)).mono (fun v M1 hv => ?_)))
  obtain ⟨h2, ht⟩ := hv
  obtain ⟨x, rfl⟩ := ht.1 r147
  show wp X (d + 40) 289 1028 [vR (-2), vR 0, vR 81, vI i] [vI x] (vS0, M1) _
  refine w_aload_n d289_1028 rfl ?_
  refine w_arg (c := 1) d289_1029 d289_1030 d289_1031 d289_1032 d289_1033 rfl ⟨by omega, by omega⟩ hL ?_
  refine w_arg (c := 2) d289_1034 d289_1035 d289_1036 d289_1037 d289_1038 rfl ⟨by omega, by omega⟩ hL ?_
  refine w_arg (c := 3) d289_1039 d289_1040 d289_1041 d289_1042 d289_1043 rfl ⟨by omega, by omega⟩ hL ?_
  refine w_inv0 (a := 81) (c := 11) d289_1044 c289_107 rfl rfl rfl v230 (Nat.le_of_ble_eq_true rfl) (cq.cl (h2.mono (fun v2 M2 hv2 => ?_)))
  obtain ⟨rfl, hM2⟩ := hv2
  show wp X (d + 40) 289 1047 [vR (-2), vR 0, vR 81, vI i] [vI x, vI x] (vS0, M2) _
  exact w_icmp_eq (tgt := 1886) d289_1047 rfl (fun _ => k M2 hM2) (fun h => absurd rfl h)
theorem LW_20 (hM : Rel M) (hi : 1 ≤ i ∧ i + 7 ≤ X.2) (hL : X.2 ≤ 3585) (hxr : ∀ q, -2147483648 ≤ X.1 q ∧ X.1 q < 2147483648) (k : ∀ M2, Rel M2 → vw X (d + 40) 289 1886 [vR (-2), vR 0, vR 81, vI i] [] M2 Q) : vw X (d + 40) 289 1052 [vR (-2), vR 0, vR 81, vI i] [] M Q := by
  refine w_aload_n d289_1052 rfl ?_
  refine w_arg (c := 1) d289_1053 d289_1054 d289_1055 d289_1056 d289_1057 rfl ⟨by omega, by omega⟩ hL ?_
  refine w_inv0 (a := 0) (c := 10) d289_1058 c289_108 rfl rfl rfl v148 (Nat.le_of_ble_eq_true rfl) (cq.cl ((cq.ty (op_start hM)).mono (fun v M1 hv => ?_)))
  obtain ⟨h2, ht⟩ := hv
  obtain ⟨x, rfl⟩ := ht.1 r148
  show wp X (d + 40) 289 1061 [vR (-2), vR 0, vR 81, vI i] [vI x] (vS0, M1) _
  refine w_aload_n d289_1061 rfl ?_
  refine w_arg (c := 1) d289_1062 d289_1063 d289_1064 d289_1065 d289_1066 rfl ⟨by omega, by omega⟩ hL ?_
  refine w_inv0 (a := 81) (c := 11) d289_1067 c289_111 rfl rfl rfl v231 (Nat.le_of_ble_eq_true rfl) (cq.cl (h2.mono (fun v2 M2 hv2 => ?_)))
  obtain ⟨rfl, hM2⟩ := hv2
  show wp X (d + 40) 289 1070 [vR (-2), vR 0, vR 81, vI i] [vI x, vI x] (vS0, M2) _
  exact w_icmp_eq (tgt := 1886) d289_1070 rfl (fun _ => k M2 hM2) (fun h => absurd rfl h)
theorem LW_21 (hM : Rel M) (hi : 1 ≤ i ∧ i + 7 ≤ X.2) (hL : X.2 ≤ 3585) (hxr : ∀ q, -2147483648 ≤ X.1 q ∧ X.1 q < 2147483648) (k : ∀ M2, Rel M2 → vw X (d + 40) 289 1886 [vR (-2), vR 0, vR 81, vI i] [] M2 Q) : vw X (d + 40) 289 1075 [vR (-2), vR 0, vR 81, vI i] [] M Q := by
  refine w_aload_n d289_1075 rfl ?_
  refine w_arg (c := 1) d289_1076 d289_1077 d289_1078 d289_1079 d289_1080 rfl ⟨by omega, by omega⟩ hL ?_
  refine w_arg (c := 2) d289_1081 d289_1082 d289_1083 d289_1084 d289_1085 rfl ⟨by omega, by omega⟩ hL ?_
  refine w_arg (c := 3) d289_1086 d289_1087 d289_1088 d289_1089 d289_1090 rfl ⟨by omega, by omega⟩ hL ?_
  refine w_inv0 (a := 0) (c := 10) d289_1091 c289_112 rfl rfl rfl v149 (Nat.le_of_ble_eq_true rfl) (cq.cl ((cq.ty (op_team hM (hxr _) (hxr _))).mono (fun v M1 hv => ?_)))
  obtain ⟨h2, ht⟩ := hv
  obtain ⟨x, rfl⟩ := ht.1 r149
  show wp X (d + 40) 289 1094 [vR (-2), vR 0, vR 81, vI i] [vI x] (vS0, M1) _
  refine w_aload_n d289_1094 rfl ?_
  refine w_arg (c := 1) d289_1095 d289_1096 d289_1097 d289_1098 d289_1099 rfl ⟨by omega, by omega⟩ hL ?_
  refine w_arg (c := 2) d289_1100 d289_1101 d289_1102 d289_1103 d289_1104 rfl ⟨by omega, by omega⟩ hL ?_
  refine w_arg (c := 3) d289_1105 d289_1106 d289_1107 d289_1108 d289_1109 rfl ⟨by omega, by omega⟩ hL ?_
  refine w_inv0 (a := 81) (c := 11) d289_1110 c289_115 rfl rfl rfl v233 (Nat.le_of_ble_eq_true rfl) (cq.cl (h2.mono (fun v2 M2 hv2 => ?_)))
  obtain ⟨rfl, hM2⟩ := hv2
  show wp X (d + 40) 289 1113 [vR (-2), vR 0, vR 81, vI i] [vI x, vI x] (vS0, M2) _
  exact w_icmp_eq (tgt := 1886) d289_1113 rfl (fun _ => k M2 hM2) (fun h => absurd rfl h)
theorem LW_22 (hM : Rel M) (hi : 1 ≤ i ∧ i + 7 ≤ X.2) (hL : X.2 ≤ 3585) (hxr : ∀ q, -2147483648 ≤ X.1 q ∧ X.1 q < 2147483648) (k : ∀ M2, Rel M2 → vw X (d + 40) 289 1886 [vR (-2), vR 0, vR 81, vI i] [] M2 Q) : vw X (d + 40) 289 1118 [vR (-2), vR 0, vR 81, vI i] [] M Q := by
  refine w_aload_n d289_1118 rfl ?_
  refine w_arg (c := 1) d289_1119 d289_1120 d289_1121 d289_1122 d289_1123 rfl ⟨by omega, by omega⟩ hL ?_
  refine w_arg (c := 2) d289_1124 d289_1125 d289_1126 d289_1127 d289_1128 rfl ⟨by omega, by omega⟩ hL ?_
  refine w_inv0 (a := 0) (c := 10) d289_1129 c289_116 rfl rfl rfl v150 (Nat.le_of_ble_eq_true rfl) (cq.cl ((cq.ty (op_all hM)).mono (fun v M1 hv => ?_)))
  obtain ⟨h2, ht⟩ := hv
  obtain ⟨x, rfl⟩ := ht.1 r150
  show wp X (d + 40) 289 1132 [vR (-2), vR 0, vR 81, vI i] [vI x] (vS0, M1) _
  refine w_aload_n d289_1132 rfl ?_
  refine w_arg (c := 1) d289_1133 d289_1134 d289_1135 d289_1136 d289_1137 rfl ⟨by omega, by omega⟩ hL ?_
  refine w_arg (c := 2) d289_1138 d289_1139 d289_1140 d289_1141 d289_1142 rfl ⟨by omega, by omega⟩ hL ?_
  refine w_inv0 (a := 81) (c := 11) d289_1143 c289_119 rfl rfl rfl v234 (Nat.le_of_ble_eq_true rfl) (cq.cl (h2.mono (fun v2 M2 hv2 => ?_)))
  obtain ⟨rfl, hM2⟩ := hv2
  show wp X (d + 40) 289 1146 [vR (-2), vR 0, vR 81, vI i] [vI x, vI x] (vS0, M2) _
  exact w_icmp_eq (tgt := 1886) d289_1146 rfl (fun _ => k M2 hM2) (fun h => absurd rfl h)
theorem LW_23 (hM : Rel M) (hi : 1 ≤ i ∧ i + 7 ≤ X.2) (hL : X.2 ≤ 3585) (hxr : ∀ q, -2147483648 ≤ X.1 q ∧ X.1 q < 2147483648) (k : ∀ M2, Rel M2 → vw X (d + 40) 289 1886 [vR (-2), vR 0, vR 81, vI i] [] M2 Q) : vw X (d + 40) 289 1151 [vR (-2), vR 0, vR 81, vI i] [] M Q := by
  refine w_aload_n d289_1151 rfl ?_
  refine w_arg (c := 1) d289_1152 d289_1153 d289_1154 d289_1155 d289_1156 rfl ⟨by omega, by omega⟩ hL ?_
  refine w_arg (c := 2) d289_1157 d289_1158 d289_1159 d289_1160 d289_1161 rfl ⟨by omega, by omega⟩ hL ?_
  refine w_inv0 (a := 0) (c := 10) d289_1162 c289_120 rfl rfl rfl v151 (Nat.le_of_ble_eq_true rfl) (cq.cl ((cq.ty (op_has hM)).mono (fun v M1 hv => ?_)))
  obtain ⟨h2, ht⟩ := hv
  obtain ⟨x, rfl⟩ := ht.1 r151
  show wp X (d + 40) 289 1165 [vR (-2), vR 0, vR 81, vI i] [vI x] (vS0, M1) _
  refine w_aload_n d289_1165 rfl ?_
  refine w_arg (c := 1) d289_1166 d289_1167 d289_1168 d289_1169 d289_1170 rfl ⟨by omega, by omega⟩ hL ?_
  refine w_arg (c := 2) d289_1171 d289_1172 d289_1173 d289_1174 d289_1175 rfl ⟨by omega, by omega⟩ hL ?_
  refine w_inv0 (a := 81) (c := 11) d289_1176 c289_123 rfl rfl rfl v237 (Nat.le_of_ble_eq_true rfl) (cq.cl (h2.mono (fun v2 M2 hv2 => ?_)))
  obtain ⟨rfl, hM2⟩ := hv2
  show wp X (d + 40) 289 1179 [vR (-2), vR 0, vR 81, vI i] [vI x, vI x] (vS0, M2) _
  exact w_icmp_eq (tgt := 1886) d289_1179 rfl (fun _ => k M2 hM2) (fun h => absurd rfl h)
theorem LW_24 (hM : Rel M) (hi : 1 ≤ i ∧ i + 7 ≤ X.2) (hL : X.2 ≤ 3585) (hxr : ∀ q, -2147483648 ≤ X.1 q ∧ X.1 q < 2147483648) (k : ∀ M2, Rel M2 → vw X (d + 40) 289 1886 [vR (-2), vR 0, vR 81, vI i] [] M2 Q) : vw X (d + 40) 289 1184 [vR (-2), vR 0, vR 81, vI i] [] M Q := by
  refine w_aload_n d289_1184 rfl ?_
  refine w_arg (c := 1) d289_1185 d289_1186 d289_1187 d289_1188 d289_1189 rfl ⟨by omega, by omega⟩ hL ?_
  refine w_arg (c := 2) d289_1190 d289_1191 d289_1192 d289_1193 d289_1194 rfl ⟨by omega, by omega⟩ hL ?_
  refine w_inv0 (a := 0) (c := 10) d289_1195 c289_124 rfl rfl rfl v152 (Nat.le_of_ble_eq_true rfl) (cq.cl ((cq.ty (op_holds hM)).mono (fun v M1 hv => ?_)))
  obtain ⟨h2, ht⟩ := hv
  obtain ⟨x, rfl⟩ := ht.1 r152
  show wp X (d + 40) 289 1198 [vR (-2), vR 0, vR 81, vI i] [vI x] (vS0, M1) _
  refine w_aload_n d289_1198 rfl ?_
  refine w_arg (c := 1) d289_1199 d289_1200 d289_1201 d289_1202 d289_1203 rfl ⟨by omega, by omega⟩ hL ?_
  refine w_arg (c := 2) d289_1204 d289_1205 d289_1206 d289_1207 d289_1208 rfl ⟨by omega, by omega⟩ hL ?_
  refine w_inv0 (a := 81) (c := 11) d289_1209 c289_127 rfl rfl rfl v240 (Nat.le_of_ble_eq_true rfl) (cq.cl (h2.mono (fun v2 M2 hv2 => ?_)))
  obtain ⟨rfl, hM2⟩ := hv2
  show wp X (d + 40) 289 1212 [vR (-2), vR 0, vR 81, vI i] [vI x, vI x] (vS0, M2) _
  exact w_icmp_eq (tgt := 1886) d289_1212 rfl (fun _ => k M2 hM2) (fun h => absurd rfl h)
theorem LW_25 (hM : Rel M) (hi : 1 ≤ i ∧ i + 7 ≤ X.2) (hL : X.2 ≤ 3585) (hxr : ∀ q, -2147483648 ≤ X.1 q ∧ X.1 q < 2147483648) (k : ∀ M2, Rel M2 → vw X (d + 40) 289 1886 [vR (-2), vR 0, vR 81, vI i] [] M2 Q) : vw X (d + 40) 289 1217 [vR (-2), vR 0, vR 81, vI i] [] M Q := by
  refine w_aload_n d289_1217 rfl ?_
  refine w_arg (c := 1) d289_1218 d289_1219 d289_1220 d289_1221 d289_1222 rfl ⟨by omega, by omega⟩ hL ?_
  refine w_inv0 (a := 0) (c := 10) d289_1223 c289_128 rfl rfl rfl v153 (Nat.le_of_ble_eq_true rfl) (cq.cl ((cq.ty (op_breaks hM)).mono (fun v M1 hv => ?_)))
  obtain ⟨h2, ht⟩ := hv
  obtain ⟨x, rfl⟩ := ht.1 r153
  show wp X (d + 40) 289 1226 [vR (-2), vR 0, vR 81, vI i] [vI x] (vS0, M1) _
  refine w_aload_n d289_1226 rfl ?_
  refine w_arg (c := 1) d289_1227 d289_1228 d289_1229 d289_1230 d289_1231 rfl ⟨by omega, by omega⟩ hL ?_
  refine w_inv0 (a := 81) (c := 11) d289_1232 c289_131 rfl rfl rfl v241 (Nat.le_of_ble_eq_true rfl) (cq.cl (h2.mono (fun v2 M2 hv2 => ?_)))
  obtain ⟨rfl, hM2⟩ := hv2
  show wp X (d + 40) 289 1235 [vR (-2), vR 0, vR 81, vI i] [vI x, vI x] (vS0, M2) _
  exact w_icmp_eq (tgt := 1886) d289_1235 rfl (fun _ => k M2 hM2) (fun h => absurd rfl h)
theorem LW_26 (hM : Rel M) (hi : 1 ≤ i ∧ i + 7 ≤ X.2) (hL : X.2 ≤ 3585) (hxr : ∀ q, -2147483648 ≤ X.1 q ∧ X.1 q < 2147483648) (k : ∀ M2, Rel M2 → vw X (d + 40) 289 1886 [vR (-2), vR 0, vR 81, vI i] [] M2 Q) : vw X (d + 40) 289 1240 [vR (-2), vR 0, vR 81, vI i] [] M Q := by
  refine w_aload_n d289_1240 rfl ?_
  refine w_arg (c := 1) d289_1241 d289_1242 d289_1243 d289_1244 d289_1245 rfl ⟨by omega, by omega⟩ hL ?_
  refine w_arg (c := 2) d289_1246 d289_1247 d289_1248 d289_1249 d289_1250 rfl ⟨by omega, by omega⟩ hL ?_
  refine w_arg (c := 3) d289_1251 d289_1252 d289_1253 d289_1254 d289_1255 rfl ⟨by omega, by omega⟩ hL ?_
  refine w_inv0 (a := 0) (c := 10) d289_1256 c289_132 rfl rfl rfl v154 (Nat.le_of_ble_eq_true rfl) (cq.cl ((cq.ty (op_look hM)).mono (fun v M1 hv => ?_)))
  obtain ⟨h2, ht⟩ := hv
  obtain ⟨x, rfl⟩ := ht.2.1 r154
  show wp X (d + 40) 289 1259 [vR (-2), vR 0, vR 81, vI i] [vL x] (vS0, M1) _
  refine w_aload_n d289_1259 rfl ?_
  refine w_arg (c := 1) d289_1260 d289_1261 d289_1262 d289_1263 d289_1264 rfl ⟨by omega, by omega⟩ hL ?_
  refine w_arg (c := 2) d289_1265 d289_1266 d289_1267 d289_1268 d289_1269 rfl ⟨by omega, by omega⟩ hL ?_
  refine w_arg (c := 3) d289_1270 d289_1271 d289_1272 d289_1273 d289_1274 rfl ⟨by omega, by omega⟩ hL ?_
  refine w_inv0 (a := 81) (c := 11) d289_1275 c289_136 rfl rfl rfl v242 (Nat.le_of_ble_eq_true rfl) (cq.cl (h2.mono (fun v2 M2 hv2 => ?_)))
  obtain ⟨rfl, hM2⟩ := hv2
  show wp X (d + 40) 289 1278 [vR (-2), vR 0, vR 81, vI i] [vL x, vL x] (vS0, M2) _
  exact w_lc_eq (tgt := 1886) d289_1278 d289_1279 rfl (fun _ => k M2 hM2) (fun h => absurd rfl h)
theorem LW_27 (hM : Rel M) (hi : 1 ≤ i ∧ i + 7 ≤ X.2) (hL : X.2 ≤ 3585) (hxr : ∀ q, -2147483648 ≤ X.1 q ∧ X.1 q < 2147483648) (k : ∀ M2, Rel M2 → vw X (d + 40) 289 1886 [vR (-2), vR 0, vR 81, vI i] [] M2 Q) : vw X (d + 40) 289 1284 [vR (-2), vR 0, vR 81, vI i] [] M Q := by
  refine w_aload_n d289_1284 rfl ?_
  refine w_arg (c := 1) d289_1285 d289_1286 d289_1287 d289_1288 d289_1289 rfl ⟨by omega, by omega⟩ hL ?_
  refine w_arg (c := 2) d289_1290 d289_1291 d289_1292 d289_1293 d289_1294 rfl ⟨by omega, by omega⟩ hL ?_
  refine w_arg (c := 3) d289_1295 d289_1296 d289_1297 d289_1298 d289_1299 rfl ⟨by omega, by omega⟩ hL ?_
  refine w_inv0 (a := 0) (c := 10) d289_1300 c289_137 rfl rfl rfl v155 (Nat.le_of_ble_eq_true rfl) (cq.cl ((cq.ty (op_contest hM)).mono (fun v M1 hv => ?_)))
  obtain ⟨h2, ht⟩ := hv
  obtain ⟨x, rfl⟩ := ht.1 r155
  show wp X (d + 40) 289 1303 [vR (-2), vR 0, vR 81, vI i] [vI x] (vS0, M1) _
  refine w_aload_n d289_1303 rfl ?_
  refine w_arg (c := 1) d289_1304 d289_1305 d289_1306 d289_1307 d289_1308 rfl ⟨by omega, by omega⟩ hL ?_
  refine w_arg (c := 2) d289_1309 d289_1310 d289_1311 d289_1312 d289_1313 rfl ⟨by omega, by omega⟩ hL ?_
  refine w_arg (c := 3) d289_1314 d289_1315 d289_1316 d289_1317 d289_1318 rfl ⟨by omega, by omega⟩ hL ?_
  refine w_inv0 (a := 81) (c := 11) d289_1319 c289_140 rfl rfl rfl v243 (Nat.le_of_ble_eq_true rfl) (cq.cl (h2.mono (fun v2 M2 hv2 => ?_)))
  obtain ⟨rfl, hM2⟩ := hv2
  show wp X (d + 40) 289 1322 [vR (-2), vR 0, vR 81, vI i] [vI x, vI x] (vS0, M2) _
  exact w_icmp_eq (tgt := 1886) d289_1322 rfl (fun _ => k M2 hM2) (fun h => absurd rfl h)
theorem LW_28 (hM : Rel M) (hi : 1 ≤ i ∧ i + 7 ≤ X.2) (hL : X.2 ≤ 3585) (hxr : ∀ q, -2147483648 ≤ X.1 q ∧ X.1 q < 2147483648) (k : ∀ M2, Rel M2 → vw X (d + 40) 289 1886 [vR (-2), vR 0, vR 81, vI i] [] M2 Q) : vw X (d + 40) 289 1327 [vR (-2), vR 0, vR 81, vI i] [] M Q := by
  refine w_aload_n d289_1327 rfl ?_
  refine w_inv0 (a := 0) (c := 10) d289_1328 c289_141 rfl rfl rfl v156 (Nat.le_of_ble_eq_true rfl) (cq.cl ((cq.ty (op_calms hM)).mono (fun v M1 hv => ?_)))
  obtain ⟨h2, ht⟩ := hv
  obtain ⟨x, rfl⟩ := ht.1 r156
  show wp X (d + 40) 289 1331 [vR (-2), vR 0, vR 81, vI i] [vI x] (vS0, M1) _
  refine w_aload_n d289_1331 rfl ?_
  refine w_inv0 (a := 81) (c := 11) d289_1332 c289_145 rfl rfl rfl v247 (Nat.le_of_ble_eq_true rfl) (cq.cl (h2.mono (fun v2 M2 hv2 => ?_)))
  obtain ⟨rfl, hM2⟩ := hv2
  show wp X (d + 40) 289 1335 [vR (-2), vR 0, vR 81, vI i] [vI x, vI x] (vS0, M2) _
  exact w_icmp_eq (tgt := 1886) d289_1335 rfl (fun _ => k M2 hM2) (fun h => absurd rfl h)
theorem LW_29 (hM : Rel M) (hi : 1 ≤ i ∧ i + 7 ≤ X.2) (hL : X.2 ≤ 3585) (hxr : ∀ q, -2147483648 ≤ X.1 q ∧ X.1 q < 2147483648) (k : ∀ M2, Rel M2 → vw X (d + 40) 289 1886 [vR (-2), vR 0, vR 81, vI i] [] M2 Q) : vw X (d + 40) 289 1340 [vR (-2), vR 0, vR 81, vI i] [] M Q := by
  refine w_aload_n d289_1340 rfl ?_
  refine w_arg (c := 1) d289_1341 d289_1342 d289_1343 d289_1344 d289_1345 rfl ⟨by omega, by omega⟩ hL ?_
  refine w_inv0 (a := 0) (c := 10) d289_1346 c289_146 rfl rfl rfl v157 (Nat.le_of_ble_eq_true rfl) (cq.cl ((cq.ty (op_calm hM)).mono (fun v M1 hv => ?_)))
  obtain ⟨h2, ht⟩ := hv
  obtain ⟨x, rfl⟩ := ht.1 r157
  show wp X (d + 40) 289 1349 [vR (-2), vR 0, vR 81, vI i] [vI x] (vS0, M1) _
  refine w_aload_n d289_1349 rfl ?_
  refine w_arg (c := 1) d289_1350 d289_1351 d289_1352 d289_1353 d289_1354 rfl ⟨by omega, by omega⟩ hL ?_
  refine w_inv0 (a := 81) (c := 11) d289_1355 c289_149 rfl rfl rfl v248 (Nat.le_of_ble_eq_true rfl) (cq.cl (h2.mono (fun v2 M2 hv2 => ?_)))
  obtain ⟨rfl, hM2⟩ := hv2
  show wp X (d + 40) 289 1358 [vR (-2), vR 0, vR 81, vI i] [vI x, vI x] (vS0, M2) _
  exact w_icmp_eq (tgt := 1886) d289_1358 rfl (fun _ => k M2 hM2) (fun h => absurd rfl h)
theorem LW_30 (hM : Rel M) (hi : 1 ≤ i ∧ i + 7 ≤ X.2) (hL : X.2 ≤ 3585) (hxr : ∀ q, -2147483648 ≤ X.1 q ∧ X.1 q < 2147483648) (k : ∀ M2, Rel M2 → vw X (d + 40) 289 1886 [vR (-2), vR 0, vR 81, vI i] [] M2 Q) : vw X (d + 40) 289 1363 [vR (-2), vR 0, vR 81, vI i] [] M Q := by
  refine w_aload_n d289_1363 rfl ?_
  refine w_arg (c := 1) d289_1364 d289_1365 d289_1366 d289_1367 d289_1368 rfl ⟨by omega, by omega⟩ hL ?_
  refine w_i2l d289_1369 ?_
  refine w_bi (v := 32) d289_1370 rfl ?_
  refine w_lshl d289_1372 ?_
  refine w_arg (c := 2) d289_1373 d289_1374 d289_1375 d289_1376 d289_1377 rfl ⟨by omega, by omega⟩ hL ?_
  refine w_i2l d289_1378 ?_
  refine w_ldc2_w (v := 4294967295) d289_1379 g289_150 rfl ?_
  refine w_land d289_1382 ?_
  refine w_lor d289_1383 ?_
  refine w_arg (c := 3) d289_1384 d289_1385 d289_1386 d289_1387 d289_1388 rfl ⟨by omega, by omega⟩ hL ?_
  refine w_inv0 (a := 0) (c := 10) d289_1389 c289_152 rfl rfl rfl v158 (Nat.le_of_ble_eq_true rfl) (cq.cl ((cq.ty (op_feed hM (j_lor_r _ _))).mono (fun v M1 hv => ?_)))
  obtain ⟨h2, ht⟩ := hv
  obtain ⟨x, rfl⟩ := ht.1 r158
  show wp X (d + 40) 289 1392 [vR (-2), vR 0, vR 81, vI i] [vI x] (vS0, M1) _
  refine w_aload_n d289_1392 rfl ?_
  refine w_arg (c := 1) d289_1393 d289_1394 d289_1395 d289_1396 d289_1397 rfl ⟨by omega, by omega⟩ hL ?_
  refine w_i2l d289_1398 ?_
  refine w_bi (v := 32) d289_1399 rfl ?_
  refine w_lshl d289_1401 ?_
  refine w_arg (c := 2) d289_1402 d289_1403 d289_1404 d289_1405 d289_1406 rfl ⟨by omega, by omega⟩ hL ?_
  refine w_i2l d289_1407 ?_
  refine w_ldc2_w (v := 4294967295) d289_1408 g289_150 rfl ?_
  refine w_land d289_1411 ?_
  refine w_lor d289_1412 ?_
  refine w_arg (c := 3) d289_1413 d289_1414 d289_1415 d289_1416 d289_1417 rfl ⟨by omega, by omega⟩ hL ?_
  refine w_inv0 (a := 81) (c := 11) d289_1418 c289_156 rfl rfl rfl v249 (Nat.le_of_ble_eq_true rfl) (cq.cl (h2.mono (fun v2 M2 hv2 => ?_)))
  obtain ⟨rfl, hM2⟩ := hv2
  show wp X (d + 40) 289 1421 [vR (-2), vR 0, vR 81, vI i] [vI x, vI x] (vS0, M2) _
  exact w_icmp_eq (tgt := 1886) d289_1421 rfl (fun _ => k M2 hM2) (fun h => absurd rfl h)
theorem LW_31 (hM : Rel M) (hi : 1 ≤ i ∧ i + 7 ≤ X.2) (hL : X.2 ≤ 3585) (hxr : ∀ q, -2147483648 ≤ X.1 q ∧ X.1 q < 2147483648) (k : ∀ M2, Rel M2 → vw X (d + 40) 289 1886 [vR (-2), vR 0, vR 81, vI i] [] M2 Q) : vw X (d + 40) 289 1426 [vR (-2), vR 0, vR 81, vI i] [] M Q := by
  refine w_aload_n d289_1426 rfl ?_
  refine w_inv0 (a := 0) (c := 10) d289_1427 c289_157 rfl rfl rfl v159 (Nat.le_of_ble_eq_true rfl) (cq.cl ((cq.ty (op_contract hM)).mono (fun v M1 hv => ?_)))
  obtain ⟨h2, ht⟩ := hv
  obtain ⟨x, rfl⟩ := ht.1 r159
  show wp X (d + 40) 289 1430 [vR (-2), vR 0, vR 81, vI i] [vI x] (vS0, M1) _
  refine w_aload_n d289_1430 rfl ?_
  refine w_inv0 (a := 81) (c := 11) d289_1431 c289_160 rfl rfl rfl v259 (Nat.le_of_ble_eq_true rfl) (cq.cl (h2.mono (fun v2 M2 hv2 => ?_)))
  obtain ⟨rfl, hM2⟩ := hv2
  show wp X (d + 40) 289 1434 [vR (-2), vR 0, vR 81, vI i] [vI x, vI x] (vS0, M2) _
  exact w_icmp_eq (tgt := 1886) d289_1434 rfl (fun _ => k M2 hM2) (fun h => absurd rfl h)
theorem LW_32 (hM : Rel M) (hi : 1 ≤ i ∧ i + 7 ≤ X.2) (hL : X.2 ≤ 3585) (hxr : ∀ q, -2147483648 ≤ X.1 q ∧ X.1 q < 2147483648) (k : ∀ M2, Rel M2 → vw X (d + 40) 289 1886 [vR (-2), vR 0, vR 81, vI i] [] M2 Q) : vw X (d + 40) 289 1439 [vR (-2), vR 0, vR 81, vI i] [] M Q := by
  refine w_aload_n d289_1439 rfl ?_
  refine w_arg (c := 1) d289_1440 d289_1441 d289_1442 d289_1443 d289_1444 rfl ⟨by omega, by omega⟩ hL ?_
  refine w_arg (c := 2) d289_1445 d289_1446 d289_1447 d289_1448 d289_1449 rfl ⟨by omega, by omega⟩ hL ?_
  refine w_inv0 (a := 0) (c := 10) d289_1450 c289_161 rfl rfl rfl v160 (Nat.le_of_ble_eq_true rfl) (cq.cl ((cq.ty (op_worth hM)).mono (fun v M1 hv => ?_)))
  obtain ⟨h2, ht⟩ := hv
  obtain ⟨x, rfl⟩ := ht.1 r160
  show wp X (d + 40) 289 1453 [vR (-2), vR 0, vR 81, vI i] [vI x] (vS0, M1) _
  refine w_aload_n d289_1453 rfl ?_
  refine w_arg (c := 1) d289_1454 d289_1455 d289_1456 d289_1457 d289_1458 rfl ⟨by omega, by omega⟩ hL ?_
  refine w_arg (c := 2) d289_1459 d289_1460 d289_1461 d289_1462 d289_1463 rfl ⟨by omega, by omega⟩ hL ?_
  refine w_inv0 (a := 81) (c := 11) d289_1464 c289_164 rfl rfl rfl v263 (Nat.le_of_ble_eq_true rfl) (cq.cl (h2.mono (fun v2 M2 hv2 => ?_)))
  obtain ⟨rfl, hM2⟩ := hv2
  show wp X (d + 40) 289 1467 [vR (-2), vR 0, vR 81, vI i] [vI x, vI x] (vS0, M2) _
  exact w_icmp_eq (tgt := 1886) d289_1467 rfl (fun _ => k M2 hM2) (fun h => absurd rfl h)
theorem LW_33 (hM : Rel M) (hi : 1 ≤ i ∧ i + 7 ≤ X.2) (hL : X.2 ≤ 3585) (hxr : ∀ q, -2147483648 ≤ X.1 q ∧ X.1 q < 2147483648) (k : ∀ M2, Rel M2 → vw X (d + 40) 289 1886 [vR (-2), vR 0, vR 81, vI i] [] M2 Q) : vw X (d + 40) 289 1472 [vR (-2), vR 0, vR 81, vI i] [] M Q := by
  refine w_aload_n d289_1472 rfl ?_
  refine w_arg (c := 1) d289_1473 d289_1474 d289_1475 d289_1476 d289_1477 rfl ⟨by omega, by omega⟩ hL ?_
  refine w_inv0 (a := 0) (c := 10) d289_1478 c289_165 rfl rfl rfl v161 (Nat.le_of_ble_eq_true rfl) (cq.cl ((cq.ty (op_sign hM)).mono (fun v M1 hv => ?_)))
  obtain ⟨h2, ht⟩ := hv
  obtain ⟨x, rfl⟩ := ht.1 r161
  show wp X (d + 40) 289 1481 [vR (-2), vR 0, vR 81, vI i] [vI x] (vS0, M1) _
  refine w_aload_n d289_1481 rfl ?_
  refine w_arg (c := 1) d289_1482 d289_1483 d289_1484 d289_1485 d289_1486 rfl ⟨by omega, by omega⟩ hL ?_
  refine w_inv0 (a := 81) (c := 11) d289_1487 c289_168 rfl rfl rfl v264 (Nat.le_of_ble_eq_true rfl) (cq.cl (h2.mono (fun v2 M2 hv2 => ?_)))
  obtain ⟨rfl, hM2⟩ := hv2
  show wp X (d + 40) 289 1490 [vR (-2), vR 0, vR 81, vI i] [vI x, vI x] (vS0, M2) _
  exact w_icmp_eq (tgt := 1886) d289_1490 rfl (fun _ => k M2 hM2) (fun h => absurd rfl h)
theorem LW_34 (hM : Rel M) (hi : 1 ≤ i ∧ i + 7 ≤ X.2) (hL : X.2 ≤ 3585) (hxr : ∀ q, -2147483648 ≤ X.1 q ∧ X.1 q < 2147483648) (k : ∀ M2, Rel M2 → vw X (d + 40) 289 1886 [vR (-2), vR 0, vR 81, vI i] [] M2 Q) : vw X (d + 40) 289 1495 [vR (-2), vR 0, vR 81, vI i] [] M Q := by
  refine w_aload_n d289_1495 rfl ?_
  refine w_arg (c := 1) d289_1496 d289_1497 d289_1498 d289_1499 d289_1500 rfl ⟨by omega, by omega⟩ hL ?_
  refine w_inv0 (a := 0) (c := 10) d289_1501 c289_169 rfl rfl rfl v162 (Nat.le_of_ble_eq_true rfl) (cq.cl ((cq.ty (op_choose hM)).mono (fun v M1 hv => ?_)))
  obtain ⟨h2, ht⟩ := hv
  obtain ⟨x, rfl⟩ := ht.1 r162
  show wp X (d + 40) 289 1504 [vR (-2), vR 0, vR 81, vI i] [vI x] (vS0, M1) _
  refine w_aload_n d289_1504 rfl ?_
  refine w_arg (c := 1) d289_1505 d289_1506 d289_1507 d289_1508 d289_1509 rfl ⟨by omega, by omega⟩ hL ?_
  refine w_inv0 (a := 81) (c := 11) d289_1510 c289_172 rfl rfl rfl v265 (Nat.le_of_ble_eq_true rfl) (cq.cl (h2.mono (fun v2 M2 hv2 => ?_)))
  obtain ⟨rfl, hM2⟩ := hv2
  show wp X (d + 40) 289 1513 [vR (-2), vR 0, vR 81, vI i] [vI x, vI x] (vS0, M2) _
  exact w_icmp_eq (tgt := 1886) d289_1513 rfl (fun _ => k M2 hM2) (fun h => absurd rfl h)
theorem LW_35 (hM : Rel M) (hi : 1 ≤ i ∧ i + 7 ≤ X.2) (hL : X.2 ≤ 3585) (hxr : ∀ q, -2147483648 ≤ X.1 q ∧ X.1 q < 2147483648) (k : ∀ M2, Rel M2 → vw X (d + 40) 289 1886 [vR (-2), vR 0, vR 81, vI i] [] M2 Q) : vw X (d + 40) 289 1518 [vR (-2), vR 0, vR 81, vI i] [] M Q := by
  refine w_aload_n d289_1518 rfl ?_
  refine w_arg (c := 1) d289_1519 d289_1520 d289_1521 d289_1522 d289_1523 rfl ⟨by omega, by omega⟩ hL ?_
  refine w_inv0 (a := 0) (c := 10) d289_1524 c289_173 rfl rfl rfl v163 (Nat.le_of_ble_eq_true rfl) (cq.cl ((cq.ty (op_lot hM)).mono (fun v M1 hv => ?_)))
  obtain ⟨h2, ht⟩ := hv
  obtain ⟨x, rfl⟩ := ht.1 r163
  show wp X (d + 40) 289 1527 [vR (-2), vR 0, vR 81, vI i] [vI x] (vS0, M1) _
  refine w_aload_n d289_1527 rfl ?_
  refine w_arg (c := 1) d289_1528 d289_1529 d289_1530 d289_1531 d289_1532 rfl ⟨by omega, by omega⟩ hL ?_
  refine w_inv0 (a := 81) (c := 11) d289_1533 c289_176 rfl rfl rfl v266 (Nat.le_of_ble_eq_true rfl) (cq.cl (h2.mono (fun v2 M2 hv2 => ?_)))
  obtain ⟨rfl, hM2⟩ := hv2
  show wp X (d + 40) 289 1536 [vR (-2), vR 0, vR 81, vI i] [vI x, vI x] (vS0, M2) _
  exact w_icmp_eq (tgt := 1886) d289_1536 rfl (fun _ => k M2 hM2) (fun h => absurd rfl h)
theorem LW_36 (hM : Rel M) (hi : 1 ≤ i ∧ i + 7 ≤ X.2) (hL : X.2 ≤ 3585) (hxr : ∀ q, -2147483648 ≤ X.1 q ∧ X.1 q < 2147483648) (k : ∀ M2, Rel M2 → vw X (d + 40) 289 1886 [vR (-2), vR 0, vR 81, vI i] [] M2 Q) : vw X (d + 40) 289 1541 [vR (-2), vR 0, vR 81, vI i] [] M Q := by
  refine w_aload_n d289_1541 rfl ?_
  refine w_arg (c := 1) d289_1542 d289_1543 d289_1544 d289_1545 d289_1546 rfl ⟨by omega, by omega⟩ hL ?_
  refine w_inv0 (a := 0) (c := 10) d289_1547 c289_177 rfl rfl rfl v164 (Nat.le_of_ble_eq_true rfl) (cq.cl ((cq.ty (op_year hM)).mono (fun v M1 hv => ?_)))
  obtain ⟨h2, ht⟩ := hv
  obtain ⟨x, rfl⟩ := ht.1 r164
  show wp X (d + 40) 289 1550 [vR (-2), vR 0, vR 81, vI i] [vI x] (vS0, M1) _
  refine w_aload_n d289_1550 rfl ?_
  refine w_arg (c := 1) d289_1551 d289_1552 d289_1553 d289_1554 d289_1555 rfl ⟨by omega, by omega⟩ hL ?_
  refine w_inv0 (a := 81) (c := 11) d289_1556 c289_180 rfl rfl rfl v267 (Nat.le_of_ble_eq_true rfl) (cq.cl (h2.mono (fun v2 M2 hv2 => ?_)))
  obtain ⟨rfl, hM2⟩ := hv2
  show wp X (d + 40) 289 1559 [vR (-2), vR 0, vR 81, vI i] [vI x, vI x] (vS0, M2) _
  exact w_icmp_eq (tgt := 1886) d289_1559 rfl (fun _ => k M2 hM2) (fun h => absurd rfl h)
theorem LW_37 (hM : Rel M) (hi : 1 ≤ i ∧ i + 7 ≤ X.2) (hL : X.2 ≤ 3585) (hxr : ∀ q, -2147483648 ≤ X.1 q ∧ X.1 q < 2147483648) (k : ∀ M2, Rel M2 → vw X (d + 40) 289 1886 [vR (-2), vR 0, vR 81, vI i] [] M2 Q) : vw X (d + 40) 289 1564 [vR (-2), vR 0, vR 81, vI i] [] M Q := by
  refine w_aload_n d289_1564 rfl ?_
  refine w_inv0 (a := 0) (c := 10) d289_1565 c289_181 rfl rfl rfl v165 (Nat.le_of_ble_eq_true rfl) (cq.cl ((cq.ty (op_back hM)).mono (fun v M1 hv => ?_)))
  obtain ⟨h2, ht⟩ := hv
  obtain ⟨x, rfl⟩ := ht.1 r165
  show wp X (d + 40) 289 1568 [vR (-2), vR 0, vR 81, vI i] [vI x] (vS0, M1) _
  refine w_aload_n d289_1568 rfl ?_
  refine w_inv0 (a := 81) (c := 11) d289_1569 c289_184 rfl rfl rfl v268 (Nat.le_of_ble_eq_true rfl) (cq.cl (h2.mono (fun v2 M2 hv2 => ?_)))
  obtain ⟨rfl, hM2⟩ := hv2
  show wp X (d + 40) 289 1572 [vR (-2), vR 0, vR 81, vI i] [vI x, vI x] (vS0, M2) _
  exact w_icmp_eq (tgt := 1886) d289_1572 rfl (fun _ => k M2 hM2) (fun h => absurd rfl h)
theorem LW_38 (hM : Rel M) (hi : 1 ≤ i ∧ i + 7 ≤ X.2) (hL : X.2 ≤ 3585) (hxr : ∀ q, -2147483648 ≤ X.1 q ∧ X.1 q < 2147483648) (k : ∀ M2, Rel M2 → vw X (d + 40) 289 1886 [vR (-2), vR 0, vR 81, vI i] [] M2 Q) : vw X (d + 40) 289 1577 [vR (-2), vR 0, vR 81, vI i] [] M Q := by
  refine w_aload_n d289_1577 rfl ?_
  refine w_arg (c := 1) d289_1578 d289_1579 d289_1580 d289_1581 d289_1582 rfl ⟨by omega, by omega⟩ hL ?_
  refine w_arg (c := 2) d289_1583 d289_1584 d289_1585 d289_1586 d289_1587 rfl ⟨by omega, by omega⟩ hL ?_
  refine w_inv0 (a := 0) (c := 10) d289_1588 c289_185 rfl rfl rfl v166 (Nat.le_of_ble_eq_true rfl) (cq.cl ((cq.ty (op_then hM)).mono (fun v M1 hv => ?_)))
  obtain ⟨h2, ht⟩ := hv
  obtain ⟨x, rfl⟩ := ht.1 r166
  show wp X (d + 40) 289 1591 [vR (-2), vR 0, vR 81, vI i] [vI x] (vS0, M1) _
  refine w_aload_n d289_1591 rfl ?_
  refine w_arg (c := 1) d289_1592 d289_1593 d289_1594 d289_1595 d289_1596 rfl ⟨by omega, by omega⟩ hL ?_
  refine w_arg (c := 2) d289_1597 d289_1598 d289_1599 d289_1600 d289_1601 rfl ⟨by omega, by omega⟩ hL ?_
  refine w_inv0 (a := 81) (c := 11) d289_1602 c289_188 rfl rfl rfl v269 (Nat.le_of_ble_eq_true rfl) (cq.cl (h2.mono (fun v2 M2 hv2 => ?_)))
  obtain ⟨rfl, hM2⟩ := hv2
  show wp X (d + 40) 289 1605 [vR (-2), vR 0, vR 81, vI i] [vI x, vI x] (vS0, M2) _
  exact w_icmp_eq (tgt := 1886) d289_1605 rfl (fun _ => k M2 hM2) (fun h => absurd rfl h)
theorem LW_39 (hM : Rel M) (hi : 1 ≤ i ∧ i + 7 ≤ X.2) (hL : X.2 ≤ 3585) (hxr : ∀ q, -2147483648 ≤ X.1 q ∧ X.1 q < 2147483648) (k : ∀ M2, Rel M2 → vw X (d + 40) 289 1886 [vR (-2), vR 0, vR 81, vI i] [] M2 Q) : vw X (d + 40) 289 1610 [vR (-2), vR 0, vR 81, vI i] [] M Q := by
  refine w_aload_n d289_1610 rfl ?_
  refine w_arg (c := 1) d289_1611 d289_1612 d289_1613 d289_1614 d289_1615 rfl ⟨by omega, by omega⟩ hL ?_
  refine w_inv0 (a := 0) (c := 10) d289_1616 c289_189 rfl rfl rfl v167 (Nat.le_of_ble_eq_true rfl) (cq.cl ((cq.ty (op_account hM)).mono (fun v M1 hv => ?_)))
  obtain ⟨h2, ht⟩ := hv
  obtain ⟨x, rfl⟩ := ht.2.1 r167
  show wp X (d + 40) 289 1619 [vR (-2), vR 0, vR 81, vI i] [vL x] (vS0, M1) _
  refine w_aload_n d289_1619 rfl ?_
  refine w_arg (c := 1) d289_1620 d289_1621 d289_1622 d289_1623 d289_1624 rfl ⟨by omega, by omega⟩ hL ?_
  refine w_inv0 (a := 81) (c := 11) d289_1625 c289_193 rfl rfl rfl v270 (Nat.le_of_ble_eq_true rfl) (cq.cl (h2.mono (fun v2 M2 hv2 => ?_)))
  obtain ⟨rfl, hM2⟩ := hv2
  show wp X (d + 40) 289 1628 [vR (-2), vR 0, vR 81, vI i] [vL x, vL x] (vS0, M2) _
  exact w_lc_eq (tgt := 1886) d289_1628 d289_1629 rfl (fun _ => k M2 hM2) (fun h => absurd rfl h)
theorem LW_40 (hM : Rel M) (hi : 1 ≤ i ∧ i + 7 ≤ X.2) (hL : X.2 ≤ 3585) (hxr : ∀ q, -2147483648 ≤ X.1 q ∧ X.1 q < 2147483648) (k : ∀ M2, Rel M2 → vw X (d + 40) 289 1886 [vR (-2), vR 0, vR 81, vI i] [] M2 Q) : vw X (d + 40) 289 1634 [vR (-2), vR 0, vR 81, vI i] [] M Q := by
  refine w_aload_n d289_1634 rfl ?_
  refine w_arg (c := 1) d289_1635 d289_1636 d289_1637 d289_1638 d289_1639 rfl ⟨by omega, by omega⟩ hL ?_
  refine w_arg (c := 2) d289_1640 d289_1641 d289_1642 d289_1643 d289_1644 rfl ⟨by omega, by omega⟩ hL ?_
  refine w_arg (c := 3) d289_1645 d289_1646 d289_1647 d289_1648 d289_1649 rfl ⟨by omega, by omega⟩ hL ?_
  refine w_inv0 (a := 0) (c := 10) d289_1650 c289_194 rfl rfl rfl v168 (Nat.le_of_ble_eq_true rfl) (cq.cl ((cq.ty (op_likely hM)).mono (fun v M1 hv => ?_)))
  obtain ⟨h2, ht⟩ := hv
  obtain ⟨x, rfl⟩ := ht.2.1 r168
  show wp X (d + 40) 289 1653 [vR (-2), vR 0, vR 81, vI i] [vL x] (vS0, M1) _
  refine w_aload_n d289_1653 rfl ?_
  refine w_arg (c := 1) d289_1654 d289_1655 d289_1656 d289_1657 d289_1658 rfl ⟨by omega, by omega⟩ hL ?_
  refine w_arg (c := 2) d289_1659 d289_1660 d289_1661 d289_1662 d289_1663 rfl ⟨by omega, by omega⟩ hL ?_
  refine w_arg (c := 3) d289_1664 d289_1665 d289_1666 d289_1667 d289_1668 rfl ⟨by omega, by omega⟩ hL ?_
  refine w_inv0 (a := 81) (c := 11) d289_1669 c289_197 rfl rfl rfl v272 (Nat.le_of_ble_eq_true rfl) (cq.cl (h2.mono (fun v2 M2 hv2 => ?_)))
  obtain ⟨rfl, hM2⟩ := hv2
  show wp X (d + 40) 289 1672 [vR (-2), vR 0, vR 81, vI i] [vL x, vL x] (vS0, M2) _
  exact w_lc_eq (tgt := 1886) d289_1672 d289_1673 rfl (fun _ => k M2 hM2) (fun h => absurd rfl h)
theorem LW_41 (hM : Rel M) (hi : 1 ≤ i ∧ i + 7 ≤ X.2) (hL : X.2 ≤ 3585) (hxr : ∀ q, -2147483648 ≤ X.1 q ∧ X.1 q < 2147483648) (k : ∀ M2, Rel M2 → vw X (d + 40) 289 1886 [vR (-2), vR 0, vR 81, vI i] [] M2 Q) : vw X (d + 40) 289 1678 [vR (-2), vR 0, vR 81, vI i] [] M Q := by
  refine w_aload_n d289_1678 rfl ?_
  refine w_arg (c := 1) d289_1679 d289_1680 d289_1681 d289_1682 d289_1683 rfl ⟨by omega, by omega⟩ hL ?_
  refine w_arg (c := 2) d289_1684 d289_1685 d289_1686 d289_1687 d289_1688 rfl ⟨by omega, by omega⟩ hL ?_
  refine w_inv0 (a := 0) (c := 10) d289_1689 c289_198 rfl rfl rfl v169 (Nat.le_of_ble_eq_true rfl) (cq.cl ((cq.ty (op_suspect hM)).mono (fun v M1 hv => ?_)))
  obtain ⟨h2, ht⟩ := hv
  obtain ⟨x, rfl⟩ := ht.1 r169
  show wp X (d + 40) 289 1692 [vR (-2), vR 0, vR 81, vI i] [vI x] (vS0, M1) _
  refine w_aload_n d289_1692 rfl ?_
  refine w_arg (c := 1) d289_1693 d289_1694 d289_1695 d289_1696 d289_1697 rfl ⟨by omega, by omega⟩ hL ?_
  refine w_arg (c := 2) d289_1698 d289_1699 d289_1700 d289_1701 d289_1702 rfl ⟨by omega, by omega⟩ hL ?_
  refine w_inv0 (a := 81) (c := 11) d289_1703 c289_201 rfl rfl rfl v273 (Nat.le_of_ble_eq_true rfl) (cq.cl (h2.mono (fun v2 M2 hv2 => ?_)))
  obtain ⟨rfl, hM2⟩ := hv2
  show wp X (d + 40) 289 1706 [vR (-2), vR 0, vR 81, vI i] [vI x, vI x] (vS0, M2) _
  exact w_icmp_eq (tgt := 1886) d289_1706 rfl (fun _ => k M2 hM2) (fun h => absurd rfl h)
theorem LW_42 (hM : Rel M) (hi : 1 ≤ i ∧ i + 7 ≤ X.2) (hL : X.2 ≤ 3585) (hxr : ∀ q, -2147483648 ≤ X.1 q ∧ X.1 q < 2147483648) (k : ∀ M2, Rel M2 → vw X (d + 40) 289 1886 [vR (-2), vR 0, vR 81, vI i] [] M2 Q) : vw X (d + 40) 289 1711 [vR (-2), vR 0, vR 81, vI i] [] M Q := by
  refine w_aload_n d289_1711 rfl ?_
  refine w_arg (c := 1) d289_1712 d289_1713 d289_1714 d289_1715 d289_1716 rfl ⟨by omega, by omega⟩ hL ?_
  refine w_arg (c := 2) d289_1717 d289_1718 d289_1719 d289_1720 d289_1721 rfl ⟨by omega, by omega⟩ hL ?_
  refine w_arg (c := 3) d289_1722 d289_1723 d289_1724 d289_1725 d289_1726 rfl ⟨by omega, by omega⟩ hL ?_
  refine w_inv0 (a := 0) (c := 10) d289_1727 c289_202 rfl rfl rfl v170 (Nat.le_of_ble_eq_true rfl) (cq.cl ((cq.ty (op_tasks hM)).mono (fun v M1 hv => ?_)))
  obtain ⟨h2, ht⟩ := hv
  obtain ⟨x, rfl⟩ := ht.1 r170
  show wp X (d + 40) 289 1730 [vR (-2), vR 0, vR 81, vI i] [vI x] (vS0, M1) _
  refine w_aload_n d289_1730 rfl ?_
  refine w_arg (c := 1) d289_1731 d289_1732 d289_1733 d289_1734 d289_1735 rfl ⟨by omega, by omega⟩ hL ?_
  refine w_arg (c := 2) d289_1736 d289_1737 d289_1738 d289_1739 d289_1740 rfl ⟨by omega, by omega⟩ hL ?_
  refine w_arg (c := 3) d289_1741 d289_1742 d289_1743 d289_1744 d289_1745 rfl ⟨by omega, by omega⟩ hL ?_
  refine w_inv0 (a := 81) (c := 11) d289_1746 c289_205 rfl rfl rfl v274 (Nat.le_of_ble_eq_true rfl) (cq.cl (h2.mono (fun v2 M2 hv2 => ?_)))
  obtain ⟨rfl, hM2⟩ := hv2
  show wp X (d + 40) 289 1749 [vR (-2), vR 0, vR 81, vI i] [vI x, vI x] (vS0, M2) _
  exact w_icmp_eq (tgt := 1886) d289_1749 rfl (fun _ => k M2 hM2) (fun h => absurd rfl h)
theorem LW_43 (hM : Rel M) (hi : 1 ≤ i ∧ i + 7 ≤ X.2) (hL : X.2 ≤ 3585) (hxr : ∀ q, -2147483648 ≤ X.1 q ∧ X.1 q < 2147483648) (k : ∀ M2, Rel M2 → vw X (d + 40) 289 1886 [vR (-2), vR 0, vR 81, vI i] [] M2 Q) : vw X (d + 40) 289 1754 [vR (-2), vR 0, vR 81, vI i] [] M Q := by
  refine w_aload_n d289_1754 rfl ?_
  refine w_arg (c := 1) d289_1755 d289_1756 d289_1757 d289_1758 d289_1759 rfl ⟨by omega, by omega⟩ hL ?_
  refine w_arg (c := 2) d289_1760 d289_1761 d289_1762 d289_1763 d289_1764 rfl ⟨by omega, by omega⟩ hL ?_
  refine w_inv0 (a := 0) (c := 10) d289_1765 c289_206 rfl rfl rfl v171 (Nat.le_of_ble_eq_true rfl) (cq.cl ((cq.ty (op_doesBoth hM)).mono (fun v M1 hv => ?_)))
  obtain ⟨h2, ht⟩ := hv
  obtain ⟨x, rfl⟩ := ht.1 r171
  show wp X (d + 40) 289 1768 [vR (-2), vR 0, vR 81, vI i] [vI x] (vS0, M1) _
  refine w_aload_n d289_1768 rfl ?_
  refine w_arg (c := 1) d289_1769 d289_1770 d289_1771 d289_1772 d289_1773 rfl ⟨by omega, by omega⟩ hL ?_
  refine w_arg (c := 2) d289_1774 d289_1775 d289_1776 d289_1777 d289_1778 rfl ⟨by omega, by omega⟩ hL ?_
  refine w_inv0 (a := 81) (c := 11) d289_1779 c289_209 rfl rfl rfl v276 (Nat.le_of_ble_eq_true rfl) (cq.cl (h2.mono (fun v2 M2 hv2 => ?_)))
  obtain ⟨rfl, hM2⟩ := hv2
  show wp X (d + 40) 289 1782 [vR (-2), vR 0, vR 81, vI i] [vI x, vI x] (vS0, M2) _
  exact w_icmp_eq (tgt := 1886) d289_1782 rfl (fun _ => k M2 hM2) (fun h => absurd rfl h)
theorem LW_44 (hM : Rel M) (hi : 1 ≤ i ∧ i + 7 ≤ X.2) (hL : X.2 ≤ 3585) (hxr : ∀ q, -2147483648 ≤ X.1 q ∧ X.1 q < 2147483648) (k : ∀ M2, Rel M2 → vw X (d + 40) 289 1886 [vR (-2), vR 0, vR 81, vI i] [] M2 Q) : vw X (d + 40) 289 1787 [vR (-2), vR 0, vR 81, vI i] [] M Q := by
  refine w_aload_n d289_1787 rfl ?_
  refine w_arg (c := 1) d289_1788 d289_1789 d289_1790 d289_1791 d289_1792 rfl ⟨by omega, by omega⟩ hL ?_
  refine w_inv0 (a := 0) (c := 10) d289_1793 c289_210 rfl rfl rfl v172 (Nat.le_of_ble_eq_true rfl) (cq.cl ((cq.ty (op_rates hM)).mono (fun v M1 hv => ?_)))
  obtain ⟨h2, ht⟩ := hv
  obtain ⟨x, rfl⟩ := ht.1 r172
  show wp X (d + 40) 289 1796 [vR (-2), vR 0, vR 81, vI i] [vI x] (vS0, M1) _
  refine w_aload_n d289_1796 rfl ?_
  refine w_arg (c := 1) d289_1797 d289_1798 d289_1799 d289_1800 d289_1801 rfl ⟨by omega, by omega⟩ hL ?_
  refine w_inv0 (a := 81) (c := 11) d289_1802 c289_213 rfl rfl rfl v277 (Nat.le_of_ble_eq_true rfl) (cq.cl (h2.mono (fun v2 M2 hv2 => ?_)))
  obtain ⟨rfl, hM2⟩ := hv2
  show wp X (d + 40) 289 1805 [vR (-2), vR 0, vR 81, vI i] [vI x, vI x] (vS0, M2) _
  exact w_icmp_eq (tgt := 1886) d289_1805 rfl (fun _ => k M2 hM2) (fun h => absurd rfl h)
theorem LW_45 (hM : Rel M) (hi : 1 ≤ i ∧ i + 7 ≤ X.2) (hL : X.2 ≤ 3585) (hxr : ∀ q, -2147483648 ≤ X.1 q ∧ X.1 q < 2147483648) (k : ∀ M2, Rel M2 → vw X (d + 40) 289 1886 [vR (-2), vR 0, vR 81, vI i] [] M2 Q) : vw X (d + 40) 289 1810 [vR (-2), vR 0, vR 81, vI i] [] M Q := by
  refine w_aload_n d289_1810 rfl ?_
  refine w_arg (c := 1) d289_1811 d289_1812 d289_1813 d289_1814 d289_1815 rfl ⟨by omega, by omega⟩ hL ?_
  refine w_arg (c := 2) d289_1816 d289_1817 d289_1818 d289_1819 d289_1820 rfl ⟨by omega, by omega⟩ hL ?_
  refine w_arg (c := 3) d289_1821 d289_1822 d289_1823 d289_1824 d289_1825 rfl ⟨by omega, by omega⟩ hL ?_
  refine w_arg (c := 4) d289_1826 d289_1827 d289_1828 d289_1829 d289_1830 rfl ⟨by omega, by omega⟩ hL ?_
  refine w_inv0 (a := 0) (c := 10) d289_1831 c289_214 rfl rfl rfl v173 (Nat.le_of_ble_eq_true rfl) (cq.cl ((cq.ty (op_ratchet hM)).mono (fun v M1 hv => ?_)))
  obtain ⟨h2, ht⟩ := hv
  obtain ⟨x, rfl⟩ := ht.1 r173
  show wp X (d + 40) 289 1834 [vR (-2), vR 0, vR 81, vI i] [vI x] (vS0, M1) _
  refine w_aload_n d289_1834 rfl ?_
  refine w_arg (c := 1) d289_1835 d289_1836 d289_1837 d289_1838 d289_1839 rfl ⟨by omega, by omega⟩ hL ?_
  refine w_arg (c := 2) d289_1840 d289_1841 d289_1842 d289_1843 d289_1844 rfl ⟨by omega, by omega⟩ hL ?_
  refine w_arg (c := 3) d289_1845 d289_1846 d289_1847 d289_1848 d289_1849 rfl ⟨by omega, by omega⟩ hL ?_
  refine w_arg (c := 4) d289_1850 d289_1851 d289_1852 d289_1853 d289_1854 rfl ⟨by omega, by omega⟩ hL ?_
  refine w_inv0 (a := 81) (c := 11) d289_1855 c289_218 rfl rfl rfl v278 (Nat.le_of_ble_eq_true rfl) (cq.cl (h2.mono (fun v2 M2 hv2 => ?_)))
  obtain ⟨rfl, hM2⟩ := hv2
  show wp X (d + 40) 289 1858 [vR (-2), vR 0, vR 81, vI i] [vI x, vI x] (vS0, M2) _
  exact w_icmp_eq (tgt := 1886) d289_1858 rfl (fun _ => k M2 hM2) (fun h => absurd rfl h)
theorem LW_46 (hM : Rel M) (hi : 1 ≤ i ∧ i + 7 ≤ X.2) (hL : X.2 ≤ 3585) (hxr : ∀ q, -2147483648 ≤ X.1 q ∧ X.1 q < 2147483648) (k : ∀ M2, Rel M2 → vw X (d + 40) 289 1886 [vR (-2), vR 0, vR 81, vI i] [] M2 Q) : vw X (d + 40) 289 1863 [vR (-2), vR 0, vR 81, vI i] [] M Q := by
  refine w_aload_n d289_1863 rfl ?_
  refine w_arg (c := 1) d289_1864 d289_1865 d289_1866 d289_1867 d289_1868 rfl ⟨by omega, by omega⟩ hL ?_
  refine w_inv0 (a := 0) (c := 10) d289_1869 c289_219 rfl rfl rfl v174 (Nat.le_of_ble_eq_true rfl) (cq.cl ((cq.ty (op_count hM)).mono (fun v M1 hv => ?_)))
  obtain ⟨h2, ht⟩ := hv
  obtain ⟨x, rfl⟩ := ht.1 r174
  show wp X (d + 40) 289 1872 [vR (-2), vR 0, vR 81, vI i] [vI x] (vS0, M1) _
  refine w_aload_n d289_1872 rfl ?_
  refine w_arg (c := 1) d289_1873 d289_1874 d289_1875 d289_1876 d289_1877 rfl ⟨by omega, by omega⟩ hL ?_
  refine w_inv0 (a := 81) (c := 11) d289_1878 c289_222 rfl rfl rfl v279 (Nat.le_of_ble_eq_true rfl) (cq.cl (h2.mono (fun v2 M2 hv2 => ?_)))
  obtain ⟨rfl, hM2⟩ := hv2
  show wp X (d + 40) 289 1881 [vR (-2), vR 0, vR 81, vI i] [vI x, vI x] (vS0, M2) _
  exact w_icmp_eq (tgt := 1886) d289_1881 rfl (fun _ => k M2 hM2) (fun h => absurd rfl h)
theorem I_cell : wc X (d + 1) 288 [vR (-2), vI 0] (S, M) (fun q hp1 => q = some (vI (if 0 < X.2 then X.1 0 else 0)) ∧ hp1 = (S, M)) := by
  refine wc_in (Nat.le_of_ble_eq_true rfl) (Nat.le_of_ble_eq_true rfl) ?_
  show wp X d 288 0 [vR (-2), vI 0] [] (S, M) _
  refine w_iload_n d288_0 rfl ?_
  refine w_aload_n d288_1 rfl ?_
  refine w_slen d288_2 ?_
  refine w_icmp_ge (tgt := 12) d288_3 rfl (fun h => ?_) (fun h => ?_)
  · refine w_ic (v := 0) d288_12 rfl ?_
    exact w_iret d288_13 r288 ⟨by rw [if_neg (by omega)], rfl⟩
  · refine w_aload_n d288_6 rfl ?_
    refine w_iload_n d288_7 rfl ?_
    refine w_sld d288_8 ⟨by omega, h⟩ ?_
    refine w_goto (tgt := 13) d288_9 rfl ?_
    exact w_iret d288_13 r288 ⟨by rw [if_pos (by omega)]; rfl, rfl⟩
theorem LW_end (hi : 1 ≤ i ∧ i ≤ 3600) (k : vw X (d + 40) 289 28 [vR (-2), vR 0, vR 81, vI (i + 7)] [] M Q) : vw X (d + 40) 289 1886 [vR (-2), vR 0, vR 81, vI i] [] M Q := by
  refine w_iincE (ls' := [vR (-2), vR 0, vR 81, vI (w32 (i + 7))]) d289_1886 rfl rfl ?_
  refine w_goto (tgt := 28) d289_1889 rfl ?_
  rw [w32_id (by omega) (by omega)]
  exact k
theorem LW_loop (hL : X.2 ≤ 3585) (hxr : ∀ q, -2147483648 ≤ X.1 q ∧ X.1 q < 2147483648) (hQ : ∀ M, Q (some (vI 1)) M) : ∀ (f : Nat) (i : Int) (M : vM), Rel M → 1 ≤ i → (X.2 : Int) + 1 - i ≤ f → i ≤ 3600 → vw X (d + 40) 289 28 [vR (-2), vR 0, vR 81, vI i] [] M Q := by
  intro f
  induction f with
  | zero =>
    intro i M hM h1 h2 h3
    refine w_iload_n d289_28 rfl ?_
    refine w_aload_n d289_29 rfl ?_
    refine w_slen d289_30 ?_
    refine w_bi (v := 7) d289_31 rfl ?_
    refine w_isub d289_33 ?_
    rw [w32_id (x := (X.2 : Int) - 7) (by omega) (by omega)]
    refine w_icmp_gt (tgt := 1892) d289_34 rfl (fun h => ?_) (fun h => by exfalso; omega)
    refine w_ic (v := 1) d289_1892 rfl ?_
    exact w_zret d289_1893 r289 (Or.inr rfl) ⟨_, rfl, hQ _⟩
  | succ f ih =>
    intro i M hM h1 h2 h3
    refine w_iload_n d289_28 rfl ?_
    refine w_aload_n d289_29 rfl ?_
    refine w_slen d289_30 ?_
    refine w_bi (v := 7) d289_31 rfl ?_
    refine w_isub d289_33 ?_
    rw [w32_id (x := (X.2 : Int) - 7) (by omega) (by omega)]
    refine w_icmp_gt (tgt := 1892) d289_34 rfl (fun h => ?_) (fun h => ?_)
    · refine w_ic (v := 1) d289_1892 rfl ?_
      exact w_zret d289_1893 r289 (Or.inr rfl) ⟨_, rfl, hQ _⟩
    · have hi : 1 ≤ i ∧ i + 7 ≤ X.2 := ⟨h1, by omega⟩
      have K : ∀ M2, Rel M2 → vw X (d + 40) 289 1886 [vR (-2), vR 0, vR 81, vI i] [] M2 Q := fun M2 hM2 => LW_end ⟨h1, h3⟩ (ih (i + 7) M2 hM2 (by omega) (by omega) (by omega))
      refine w_aload_n d289_37 rfl ?_
      refine w_iload_n d289_38 rfl ?_
      refine w_sld d289_39 ⟨by omega, by omega⟩ ?_
      refine w_bi (v := 63) d289_40 rfl ?_
      refine w_iand d289_42 ?_
      generalize j_iand (X.1 i.toNat) 63 = y
      rcases (show y < 0 ∨ 46 < y ∨ y = 0 ∨ y = 1 ∨ y = 2 ∨ y = 3 ∨ y = 4 ∨ y = 5 ∨ y = 6 ∨ y = 7 ∨ y = 8 ∨ y = 9 ∨ y = 10 ∨ y = 11 ∨ y = 12 ∨ y = 13 ∨ y = 14 ∨ y = 15 ∨ y = 16 ∨ y = 17 ∨ y = 18 ∨ y = 19 ∨ y = 20 ∨ y = 21 ∨ y = 22 ∨ y = 23 ∨ y = 24 ∨ y = 25 ∨ y = 26 ∨ y = 27 ∨ y = 28 ∨ y = 29 ∨ y = 30 ∨ y = 31 ∨ y = 32 ∨ y = 33 ∨ y = 34 ∨ y = 35 ∨ y = 36 ∨ y = 37 ∨ y = 38 ∨ y = 39 ∨ y = 40 ∨ y = 41 ∨ y = 42 ∨ y = 43 ∨ y = 44 ∨ y = 45 ∨ y = 46 by omega) with h | h | h | h | h | h | h | h | h | h | h | h | h | h | h | h | h | h | h | h | h | h | h | h | h | h | h | h | h | h | h | h | h | h | h | h | h | h | h | h | h | h | h | h | h | h | h | h | h
      · exact w_tab (off := 1843) (tgt := 1886) d289_43 (if_pos (Or.inl h)) rfl (K M hM)
      · exact w_tab (off := 1843) (tgt := 1886) d289_43 (if_pos (Or.inr h)) rfl (K M hM)
      · exact w_tab (off := 201) (tgt := 244) d289_43 (by rw [h]; rfl) rfl (LW_0 hM hi hL hxr K)
      · exact w_tab (off := 224) (tgt := 267) d289_43 (by rw [h]; rfl) rfl (LW_1 hM hi hL hxr K)
      · exact w_tab (off := 257) (tgt := 300) d289_43 (by rw [h]; rfl) rfl (LW_2 hM hi hL hxr K)
      · exact w_tab (off := 300) (tgt := 343) d289_43 (by rw [h]; rfl) rfl (LW_3 hM hi hL hxr K)
      · exact w_tab (off := 333) (tgt := 376) d289_43 (by rw [h]; rfl) rfl (LW_4 hM hi hL hxr K)
      · exact w_tab (off := 356) (tgt := 399) d289_43 (by rw [h]; rfl) rfl (LW_5 hM hi hL hxr K)
      · exact w_tab (off := 389) (tgt := 432) d289_43 (by rw [h]; rfl) rfl (LW_6 hM hi hL hxr K)
      · exact w_tab (off := 423) (tgt := 466) d289_43 (by rw [h]; rfl) rfl (LW_7 hM hi hL hxr K)
      · exact w_tab (off := 446) (tgt := 489) d289_43 (by rw [h]; rfl) rfl (LW_8 hM hi hL hxr K)
      · exact w_tab (off := 479) (tgt := 522) d289_43 (by rw [h]; rfl) rfl (LW_9 hM hi hL hxr K)
      · exact w_tab (off := 533) (tgt := 576) d289_43 (by rw [h]; rfl) rfl (LW_10 hM hi hL hxr K)
      · exact w_tab (off := 587) (tgt := 630) d289_43 (by rw [h]; rfl) rfl (LW_11 hM hi hL hxr K)
      · exact w_tab (off := 610) (tgt := 653) d289_43 (by rw [h]; rfl) rfl (LW_12 hM hi hL hxr K)
      · exact w_tab (off := 644) (tgt := 687) d289_43 (by rw [h]; rfl) rfl (LW_13 hM hi hL hxr K)
      · exact w_tab (off := 698) (tgt := 741) d289_43 (by rw [h]; rfl) rfl (LW_14 hM hi hL hxr K)
      · exact w_tab (off := 731) (tgt := 774) d289_43 (by rw [h]; rfl) rfl (LW_15 hM hi hL hxr K)
      · exact w_tab (off := 794) (tgt := 837) d289_43 (by rw [h]; rfl) rfl (LW_16 hM hi hL hxr K)
      · exact w_tab (off := 869) (tgt := 912) d289_43 (by rw [h]; rfl) rfl (LW_17 hM hi hL hxr K)
      · exact w_tab (off := 932) (tgt := 975) d289_43 (by rw [h]; rfl) rfl (LW_18 hM hi hL hxr K)
      · exact w_tab (off := 966) (tgt := 1009) d289_43 (by rw [h]; rfl) rfl (LW_19 hM hi hL hxr K)
      · exact w_tab (off := 1009) (tgt := 1052) d289_43 (by rw [h]; rfl) rfl (LW_20 hM hi hL hxr K)
      · exact w_tab (off := 1032) (tgt := 1075) d289_43 (by rw [h]; rfl) rfl (LW_21 hM hi hL hxr K)
      · exact w_tab (off := 1075) (tgt := 1118) d289_43 (by rw [h]; rfl) rfl (LW_22 hM hi hL hxr K)
      · exact w_tab (off := 1108) (tgt := 1151) d289_43 (by rw [h]; rfl) rfl (LW_23 hM hi hL hxr K)
      · exact w_tab (off := 1141) (tgt := 1184) d289_43 (by rw [h]; rfl) rfl (LW_24 hM hi hL hxr K)
      · exact w_tab (off := 1174) (tgt := 1217) d289_43 (by rw [h]; rfl) rfl (LW_25 hM hi hL hxr K)
      · exact w_tab (off := 1197) (tgt := 1240) d289_43 (by rw [h]; rfl) rfl (LW_26 hM hi hL hxr K)
      · exact w_tab (off := 1241) (tgt := 1284) d289_43 (by rw [h]; rfl) rfl (LW_27 hM hi hL hxr K)
      · exact w_tab (off := 1284) (tgt := 1327) d289_43 (by rw [h]; rfl) rfl (LW_28 hM hi hL hxr K)
      · exact w_tab (off := 1297) (tgt := 1340) d289_43 (by rw [h]; rfl) rfl (LW_29 hM hi hL hxr K)
      · exact w_tab (off := 1320) (tgt := 1363) d289_43 (by rw [h]; rfl) rfl (LW_30 hM hi hL hxr K)
      · exact w_tab (off := 1383) (tgt := 1426) d289_43 (by rw [h]; rfl) rfl (LW_31 hM hi hL hxr K)
      · exact w_tab (off := 1396) (tgt := 1439) d289_43 (by rw [h]; rfl) rfl (LW_32 hM hi hL hxr K)
      · exact w_tab (off := 1429) (tgt := 1472) d289_43 (by rw [h]; rfl) rfl (LW_33 hM hi hL hxr K)
      · exact w_tab (off := 1452) (tgt := 1495) d289_43 (by rw [h]; rfl) rfl (LW_34 hM hi hL hxr K)
      · exact w_tab (off := 1475) (tgt := 1518) d289_43 (by rw [h]; rfl) rfl (LW_35 hM hi hL hxr K)
      · exact w_tab (off := 1498) (tgt := 1541) d289_43 (by rw [h]; rfl) rfl (LW_36 hM hi hL hxr K)
      · exact w_tab (off := 1521) (tgt := 1564) d289_43 (by rw [h]; rfl) rfl (LW_37 hM hi hL hxr K)
      · exact w_tab (off := 1534) (tgt := 1577) d289_43 (by rw [h]; rfl) rfl (LW_38 hM hi hL hxr K)
      · exact w_tab (off := 1567) (tgt := 1610) d289_43 (by rw [h]; rfl) rfl (LW_39 hM hi hL hxr K)
      · exact w_tab (off := 1591) (tgt := 1634) d289_43 (by rw [h]; rfl) rfl (LW_40 hM hi hL hxr K)
      · exact w_tab (off := 1635) (tgt := 1678) d289_43 (by rw [h]; rfl) rfl (LW_41 hM hi hL hxr K)
      · exact w_tab (off := 1668) (tgt := 1711) d289_43 (by rw [h]; rfl) rfl (LW_42 hM hi hL hxr K)
      · exact w_tab (off := 1711) (tgt := 1754) d289_43 (by rw [h]; rfl) rfl (LW_43 hM hi hL hxr K)
      · exact w_tab (off := 1744) (tgt := 1787) d289_43 (by rw [h]; rfl) rfl (LW_44 hM hi hL hxr K)
      · exact w_tab (off := 1767) (tgt := 1810) d289_43 (by rw [h]; rfl) rfl (LW_45 hM hi hL hxr K)
      · exact w_tab (off := 1820) (tgt := 1863) d289_43 (by rw [h]; rfl) rfl (LW_46 hM hi hL hxr K)
theorem LW_all (hL : X.2 ≤ 3585) (hxr : ∀ q, -2147483648 ≤ X.1 q ∧ X.1 q < 2147483648) : wp X 40 289 0 [vR (-2), vN, vN, vN] [] ([], fun _ _ => 0) (vP (fun r _ => r = some (vI 1))) := by
  show wp X 40 289 0 [vR (-2), vN, vN, vN] [] (vT 0, fun _ _ => 0) _
  have hc : -2147483648 ≤ (if 0 < X.2 then X.1 0 else 0) ∧ (if 0 < X.2 then X.1 0 else 0) < 2147483648 := by
    by_cases h : 0 < X.2
    · rw [if_pos h]; exact hxr 0
    · rw [if_neg h]; omega
  refine w_newE (n := 0) (r := 0) d289_0 n289_7 rfl rfl (by decide +kernel) ?_
  refine w_dup d289_3 rfl ?_
  refine w_aload_n d289_4 rfl ?_
  refine w_ic (v := 0) d289_5 rfl ?_
  refine w_inv1E d289_6 c289_9 (by decide) rfl (Nat.le_of_ble_eq_true rfl) I_cell ?_
  refine w_inv2E (n1 := 81) d289_9 c289_15 (by decide) rfl ⟨Nat.le_of_ble_eq_true rfl, by decide⟩ ⟨by decide +kernel, by decide +kernel⟩ (I_X_init (d := 37) hc) ?_
  refine w_astore_nE (ls' := [vR (-2), vR 0, vN, vN]) d289_12 (Nat.le_of_ble_eq_true rfl) rfl ?_
  refine w_newE (n := 81) (r := 81) d289_13 n289_18 rfl rfl (by decide +kernel) ?_
  refine w_dup d289_16 rfl ?_
  refine w_aload_n d289_17 rfl ?_
  refine w_ic (v := 0) d289_18 rfl ?_
  refine w_inv1E d289_19 c289_9 (by decide) rfl (Nat.le_of_ble_eq_true rfl) I_cell ?_
  refine w_inv2E (n1 := 118) d289_22 c289_20 (by decide) rfl ⟨Nat.le_of_ble_eq_true rfl, by decide⟩ ⟨by decide +kernel, by decide +kernel⟩ (I_R_init (d := 39)) ?_
  refine w_astore_nE (ls' := [vR (-2), vR 0, vR 81, vN]) d289_25 (Nat.le_of_ble_eq_true rfl) rfl ?_
  refine w_ic (v := 1) d289_26 rfl ?_
  refine w_istore_nE (ls' := [vR (-2), vR 0, vR 81, vI 1]) d289_27 (Nat.le_of_ble_eq_true rfl) rfl ?_
  exact LW_loop (d := 0) hL hxr (fun _ => rfl) 3586 1 _ (Rel_i hc) (by omega) (by omega) (by omega)
end LW
theorem vm_law_proved : vm_Law := by
  intro L xs hL hx
  have hxr : ∀ q, -2147483648 ≤ xs q ∧ xs q < 2147483648 := fun q => by
    rw [← hx q]
    exact ⟨Int32.le_toInt _, Int32.toInt_lt _⟩
  obtain ⟨n, r, hp1, h1, M1, rfl, rfl⟩ := LW_all (X := (xs, L)) hL hxr
  exact ⟨40, n, vS0, M1, by omega, h1, by decide +kernel, by decide +kernel⟩
