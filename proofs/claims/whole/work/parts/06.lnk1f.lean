def jmOKx (m : Nat) : Bool := match jMt[m]? with
  | some (c, i, b, sl, st, np) => (jAt i (.initialized (jY m).cls) && ((bif Nat.beq st 1 then jAt b (.static (jY m)) else jAt b (.instanceMethod (jY m)) && (bif Nat.beq sl 9999 then true else jAt sl (.selects (jY m).cls (jY m) (jY m)))) &&
      (decide ((jY m).cls ≠ "java/lang/invoke/MethodHandle" ∧ (jY m).cls ≠ "java/lang/invoke/VarHandle" ∧ (parseMethodDescriptor (jY m).desc).map (fun d => d.parameters.length) = some np) && plainFor (jY m))))
  | none => false
theorem jmOKx_of {m : Nat} (h : jmOK m = true) : jmOKx m = true := by
  unfold jmOK at h
  unfold jmOKx
  cases e : jMt[m]? with
  | none => rw [e] at h; cases h
  | some r =>
    obtain ⟨c, i, b, sl, st, np⟩ := r
    rw [e] at h
    simp only [Bool.and_eq_true] at h ⊢
    exact ⟨h.1, h.2.1, h.2.2.1, plainFor_of_name h.2.2.2⟩
set_option maxRecDepth 100000 in
theorem jmc_300 : lw_tbl[2256]? = some (.code (jY 300) (jC 300) (jM 300) (jR 300)) := rfl
theorem jm_300 : jmOK 300 = true := by decide +kernel
set_option maxRecDepth 100000 in
theorem jmc_301 : lw_tbl[2260]? = some (.code (jY 301) (jC 301) (jM 301) (jR 301)) := rfl
theorem jm_301 : jmOK 301 = true := by decide +kernel
set_option maxRecDepth 100000 in
theorem jmc_302 : lw_tbl[2272]? = some (.code (jY 302) (jC 302) (jM 302) (jR 302)) := rfl
theorem jm_302 : jmOK 302 = true := by decide +kernel
set_option maxRecDepth 100000 in
theorem jmc_303 : lw_tbl[2268]? = some (.code (jY 303) (jC 303) (jM 303) (jR 303)) := rfl
theorem jm_303 : jmOK 303 = true := by decide +kernel
set_option maxRecDepth 100000 in
theorem jmc_304 : lw_tbl[2264]? = some (.code (jY 304) (jC 304) (jM 304) (jR 304)) := rfl
theorem jm_304 : jmOK 304 = true := by decide +kernel
set_option maxRecDepth 100000 in
theorem jmc_305 : lw_tbl[2276]? = some (.code (jY 305) (jC 305) (jM 305) (jR 305)) := rfl
theorem jm_305 : jmOK 305 = true := by decide +kernel
set_option maxRecDepth 100000 in
theorem jmc_306 : lw_tbl[2288]? = some (.code (jY 306) (jC 306) (jM 306) (jR 306)) := rfl
theorem jm_306 : jmOK 306 = true := by decide +kernel
set_option maxRecDepth 100000 in
theorem jmc_307 : lw_tbl[2292]? = some (.code (jY 307) (jC 307) (jM 307) (jR 307)) := rfl
theorem jm_307 : jmOK 307 = true := by decide +kernel
set_option maxRecDepth 100000 in
theorem jmc_308 : lw_tbl[2284]? = some (.code (jY 308) (jC 308) (jM 308) (jR 308)) := rfl
theorem jm_308 : jmOK 308 = true := by decide +kernel
set_option maxRecDepth 100000 in
theorem jmc_309 : lw_tbl[2296]? = some (.code (jY 309) (jC 309) (jM 309) (jR 309)) := rfl
theorem jm_309 : jmOK 309 = true := by decide +kernel
set_option maxRecDepth 100000 in
theorem jmc_310 : lw_tbl[2280]? = some (.code (jY 310) (jC 310) (jM 310) (jR 310)) := rfl
theorem jm_310 : jmOK 310 = true := by decide +kernel
set_option maxRecDepth 100000 in
theorem jmc_311 : lw_tbl[2300]? = some (.code (jY 311) (jC 311) (jM 311) (jR 311)) := rfl
theorem jm_311 : jmOK 311 = true := by decide +kernel
set_option maxRecDepth 100000 in
theorem jmc_312 : lw_tbl[2304]? = some (.code (jY 312) (jC 312) (jM 312) (jR 312)) := rfl
theorem jm_312 : jmOK 312 = true := by decide +kernel
set_option maxRecDepth 100000 in
theorem jmc_313 : lw_tbl[2308]? = some (.code (jY 313) (jC 313) (jM 313) (jR 313)) := rfl
theorem jm_313 : jmOK 313 = true := by decide +kernel
set_option maxRecDepth 100000 in
theorem jmc_314 : lw_tbl[2317]? = some (.code (jY 314) (jC 314) (jM 314) (jR 314)) := rfl
theorem jm_314 : jmOK 314 = true := by decide +kernel
set_option maxRecDepth 100000 in
theorem jmc_315 : lw_tbl[2313]? = some (.code (jY 315) (jC 315) (jM 315) (jR 315)) := rfl
theorem jm_315 : jmOK 315 = true := by decide +kernel
set_option maxRecDepth 100000 in
theorem jmc_316 : lw_tbl[2321]? = some (.code (jY 316) (jC 316) (jM 316) (jR 316)) := rfl
theorem jm_316 : jmOK 316 = true := by decide +kernel
set_option maxRecDepth 100000 in
theorem jmc_317 : lw_tbl[2332]? = some (.code (jY 317) (jC 317) (jM 317) (jR 317)) := rfl
theorem jm_317 : jmOK 317 = true := by decide +kernel
set_option maxRecDepth 100000 in
theorem jmc_318 : lw_tbl[2335]? = some (.code (jY 318) (jC 318) (jM 318) (jR 318)) := rfl
theorem jm_318 : jmOK 318 = true := by decide +kernel
set_option maxRecDepth 100000 in
theorem jmc_319 : lw_tbl[2329]? = some (.code (jY 319) (jC 319) (jM 319) (jR 319)) := rfl
theorem jm_319 : jmOK 319 = true := by decide +kernel
set_option maxRecDepth 100000 in
theorem jmc_320 : lw_tbl[2353]? = some (.code (jY 320) (jC 320) (jM 320) (jR 320)) := rfl
theorem jm_320 : jmOK 320 = true := by decide +kernel
set_option maxRecDepth 100000 in
theorem jmc_321 : lw_tbl[2375]? = some (.code (jY 321) (jC 321) (jM 321) (jR 321)) := rfl
theorem jm_321 : jmOK 321 = true := by decide +kernel
set_option maxRecDepth 100000 in
theorem jmc_322 : lw_tbl[2357]? = some (.code (jY 322) (jC 322) (jM 322) (jR 322)) := rfl
theorem jm_322 : jmOK 322 = true := by decide +kernel
set_option maxRecDepth 100000 in
theorem jmc_323 : lw_tbl[2365]? = some (.code (jY 323) (jC 323) (jM 323) (jR 323)) := rfl
theorem jm_323 : jmOK 323 = true := by decide +kernel
set_option maxRecDepth 100000 in
theorem jmc_324 : lw_tbl[2371]? = some (.code (jY 324) (jC 324) (jM 324) (jR 324)) := rfl
theorem jm_324 : jmOK 324 = true := by decide +kernel
set_option maxRecDepth 100000 in
theorem jmc_325 : lw_tbl[2379]? = some (.code (jY 325) (jC 325) (jM 325) (jR 325)) := rfl
theorem jm_325 : jmOK 325 = true := by decide +kernel
set_option maxRecDepth 100000 in
theorem jmc_326 : lw_tbl[2361]? = some (.code (jY 326) (jC 326) (jM 326) (jR 326)) := rfl
theorem jm_326 : jmOK 326 = true := by decide +kernel
set_option maxRecDepth 100000 in
theorem jmc_327 : lw_tbl[2349]? = some (.code (jY 327) (jC 327) (jM 327) (jR 327)) := rfl
theorem jm_327 : jmOK 327 = true := by decide +kernel
set_option maxRecDepth 100000 in
theorem jmc_328 : lw_tbl[2345]? = some (.code (jY 328) (jC 328) (jM 328) (jR 328)) := rfl
theorem jm_328 : jmOK 328 = true := by decide +kernel
set_option maxRecDepth 100000 in
theorem jmc_329 : lw_tbl[2394]? = some (.code (jY 329) (jC 329) (jM 329) (jR 329)) := rfl
theorem jm_329 : jmOK 329 = true := by decide +kernel
set_option maxRecDepth 100000 in
theorem jmc_330 : lw_tbl[2390]? = some (.code (jY 330) (jC 330) (jM 330) (jR 330)) := rfl
theorem jm_330 : jmOK 330 = true := by decide +kernel
set_option maxRecDepth 100000 in
theorem jmc_331 : lw_tbl[2386]? = some (.code (jY 331) (jC 331) (jM 331) (jR 331)) := rfl
theorem jm_331 : jmOK 331 = true := by decide +kernel
set_option maxRecDepth 100000 in
theorem jmc_332 : lw_tbl[2325]? = some (.code (jY 332) (jC 332) (jM 332) (jR 332)) := rfl
theorem jm_332 : jmOK 332 = true := by decide +kernel
set_option maxRecDepth 100000 in
theorem jmc_333 : lw_tbl[2398]? = some (.code (jY 333) (jC 333) (jM 333) (jR 333)) := rfl
theorem jm_333 : jmOK 333 = true := by decide +kernel
set_option maxRecDepth 100000 in
theorem jmc_334 : lw_tbl[2402]? = some (.code (jY 334) (jC 334) (jM 334) (jR 334)) := rfl
theorem jm_334 : jmOK 334 = true := by decide +kernel
set_option maxRecDepth 100000 in
theorem jmc_335 : lw_tbl[2422]? = some (.code (jY 335) (jC 335) (jM 335) (jR 335)) := rfl
theorem jm_335 : jmOK 335 = true := by decide +kernel
set_option maxRecDepth 100000 in
theorem jmc_336 : lw_tbl[2426]? = some (.code (jY 336) (jC 336) (jM 336) (jR 336)) := rfl
theorem jm_336 : jmOK 336 = true := by decide +kernel
set_option maxRecDepth 100000 in
theorem jmc_337 : lw_tbl[2418]? = some (.code (jY 337) (jC 337) (jM 337) (jR 337)) := rfl
theorem jm_337 : jmOK 337 = true := by decide +kernel
set_option maxRecDepth 100000 in
theorem jmc_338 : lw_tbl[2414]? = some (.code (jY 338) (jC 338) (jM 338) (jR 338)) := rfl
theorem jm_338 : jmOK 338 = true := by decide +kernel
set_option maxRecDepth 100000 in
theorem jmc_339 : lw_tbl[2430]? = some (.code (jY 339) (jC 339) (jM 339) (jR 339)) := rfl
theorem jm_339 : jmOK 339 = true := by decide +kernel
set_option maxRecDepth 100000 in
theorem jmc_340 : lw_tbl[2410]? = some (.code (jY 340) (jC 340) (jM 340) (jR 340)) := rfl
theorem jm_340 : jmOK 340 = true := by decide +kernel
set_option maxRecDepth 100000 in
theorem jmc_341 : lw_tbl[2406]? = some (.code (jY 341) (jC 341) (jM 341) (jR 341)) := rfl
theorem jm_341 : jmOK 341 = true := by decide +kernel
set_option maxRecDepth 100000 in
theorem jmc_342 : lw_tbl[2434]? = some (.code (jY 342) (jC 342) (jM 342) (jR 342)) := rfl
theorem jm_342 : jmOK 342 = true := by decide +kernel
set_option maxRecDepth 100000 in
theorem jmc_343 : lw_tbl[2442]? = some (.code (jY 343) (jC 343) (jM 343) (jR 343)) := rfl
theorem jm_343 : jmOK 343 = true := by decide +kernel
set_option maxRecDepth 100000 in
theorem jmc_344 : lw_tbl[2446]? = some (.code (jY 344) (jC 344) (jM 344) (jR 344)) := rfl
theorem jm_344 : jmOK 344 = true := by decide +kernel
set_option maxRecDepth 100000 in
theorem jmc_345 : lw_tbl[2438]? = some (.code (jY 345) (jC 345) (jM 345) (jR 345)) := rfl
theorem jm_345 : jmOK 345 = true := by decide +kernel
set_option maxRecDepth 100000 in
theorem jmc_346 : lw_tbl[2450]? = some (.code (jY 346) (jC 346) (jM 346) (jR 346)) := rfl
theorem jm_346 : jmOK 346 = true := by decide +kernel
set_option maxRecDepth 100000 in
theorem jmc_347 : lw_tbl[2454]? = some (.code (jY 347) (jC 347) (jM 347) (jR 347)) := rfl
theorem jm_347 : jmOK 347 = true := by decide +kernel
set_option maxRecDepth 100000 in
theorem jmc_348 : lw_tbl[2470]? = some (.code (jY 348) (jC 348) (jM 348) (jR 348)) := rfl
theorem jm_348 : jmOK 348 = true := by decide +kernel
set_option maxRecDepth 100000 in
theorem jmc_349 : lw_tbl[2466]? = some (.code (jY 349) (jC 349) (jM 349) (jR 349)) := rfl
theorem jm_349 : jmOK 349 = true := by decide +kernel
set_option maxRecDepth 100000 in
theorem jmc_350 : lw_tbl[2462]? = some (.code (jY 350) (jC 350) (jM 350) (jR 350)) := rfl
theorem jm_350 : jmOK 350 = true := by decide +kernel
set_option maxRecDepth 100000 in
theorem jmc_351 : lw_tbl[2458]? = some (.code (jY 351) (jC 351) (jM 351) (jR 351)) := rfl
theorem jm_351 : jmOK 351 = true := by decide +kernel
set_option maxRecDepth 100000 in
theorem jmc_352 : lw_tbl[2474]? = some (.code (jY 352) (jC 352) (jM 352) (jR 352)) := rfl
theorem jm_352 : jmOK 352 = true := by decide +kernel
set_option maxRecDepth 100000 in
theorem jmc_353 : lw_tbl[2482]? = some (.code (jY 353) (jC 353) (jM 353) (jR 353)) := rfl
theorem jm_353 : jmOK 353 = true := by decide +kernel
set_option maxRecDepth 100000 in
theorem jmc_354 : lw_tbl[2478]? = some (.code (jY 354) (jC 354) (jM 354) (jR 354)) := rfl
theorem jm_354 : jmOK 354 = true := by decide +kernel
set_option maxRecDepth 100000 in
theorem jmc_355 : lw_tbl[2490]? = some (.code (jY 355) (jC 355) (jM 355) (jR 355)) := rfl
theorem jm_355 : jmOK 355 = true := by decide +kernel
set_option maxRecDepth 100000 in
theorem jmc_356 : lw_tbl[1526]? = some (.code (jY 356) (jC 356) (jM 356) (jR 356)) := rfl
theorem jmx_356 : jmOKx 356 = true := by decide +kernel
set_option maxRecDepth 100000 in
theorem jmc_357 : lw_tbl[205]? = some (.code (jY 357) (jC 357) (jM 357) (jR 357)) := rfl
theorem jmx_357 : jmOKx 357 = true := by decide +kernel
set_option maxRecDepth 100000 in
theorem jmc_358 : lw_tbl[789]? = some (.code (jY 358) (jC 358) (jM 358) (jR 358)) := rfl
theorem jmx_358 : jmOKx 358 = true := by decide +kernel
