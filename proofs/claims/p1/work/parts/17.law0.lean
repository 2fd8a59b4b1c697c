theorem dL_law_304 : decode cL_law 304 = .ok (.aload_n 1, 1) := by decide +kernel
theorem dL_law_305 : decode cL_law 305 = .ok (.aload_n 0, 1) := by decide +kernel
theorem dL_law_306 : decode cL_law 306 = .ok (.iload_n 3, 1) := by decide +kernel
theorem dL_law_307 : decode cL_law 307 = .ok (.iconst 1, 1) := by decide +kernel
theorem dL_law_308 : decode cL_law 308 = .ok (.iadd, 1) := by decide +kernel
theorem dL_law_309 : decode cL_law 309 = .ok (.iaload, 1) := by decide +kernel
theorem dL_law_310 : decode cL_law 310 = .ok (.aload_n 0, 1) := by decide +kernel
theorem dL_law_311 : decode cL_law 311 = .ok (.iload_n 3, 1) := by decide +kernel
theorem dL_law_312 : decode cL_law 312 = .ok (.iconst 2, 1) := by decide +kernel
theorem dL_law_313 : decode cL_law 313 = .ok (.iadd, 1) := by decide +kernel
theorem dL_law_314 : decode cL_law 314 = .ok (.iaload, 1) := by decide +kernel
theorem dL_law_315 : decode cL_law 315 = .ok (.aload_n 0, 1) := by decide +kernel
theorem dL_law_316 : decode cL_law 316 = .ok (.iload_n 3, 1) := by decide +kernel
theorem dL_law_317 : decode cL_law 317 = .ok (.iconst 3, 1) := by decide +kernel
theorem dL_law_318 : decode cL_law 318 = .ok (.iadd, 1) := by decide +kernel
theorem dL_law_319 : decode cL_law 319 = .ok (.iaload, 1) := by decide +kernel
theorem dL_law_320 : decode cL_law 320 = .ok (.aload_n 0, 1) := by decide +kernel
theorem dL_law_321 : decode cL_law 321 = .ok (.iload_n 3, 1) := by decide +kernel
theorem dL_law_322 : decode cL_law 322 = .ok (.iconst 4, 1) := by decide +kernel
theorem dL_law_323 : decode cL_law 323 = .ok (.iadd, 1) := by decide +kernel
theorem dL_law_324 : decode cL_law 324 = .ok (.iaload, 1) := by decide +kernel
theorem dL_law_325 : decode cL_law 325 = .ok (.aload_n 0, 1) := by decide +kernel
theorem dL_law_326 : decode cL_law 326 = .ok (.iload_n 3, 1) := by decide +kernel
theorem dL_law_327 : decode cL_law 327 = .ok (.iconst 5, 1) := by decide +kernel
theorem dL_law_328 : decode cL_law 328 = .ok (.iadd, 1) := by decide +kernel
theorem dL_law_329 : decode cL_law 329 = .ok (.iaload, 1) := by decide +kernel
theorem dL_law_330 : decode cL_law 330 = .ok (.invokevirtual 13, 3) := by decide +kernel
theorem dL_law_333 : decode cL_law 333 = .ok (.aload_n 2, 1) := by decide +kernel
theorem dL_law_334 : decode cL_law 334 = .ok (.aload_n 0, 1) := by decide +kernel
theorem dL_law_335 : decode cL_law 335 = .ok (.iload_n 3, 1) := by decide +kernel
theorem dL_law_336 : decode cL_law 336 = .ok (.iconst 1, 1) := by decide +kernel
theorem dL_law_337 : decode cL_law 337 = .ok (.iadd, 1) := by decide +kernel
theorem dL_law_338 : decode cL_law 338 = .ok (.iaload, 1) := by decide +kernel
theorem dL_law_339 : decode cL_law 339 = .ok (.aload_n 0, 1) := by decide +kernel
theorem dL_law_340 : decode cL_law 340 = .ok (.iload_n 3, 1) := by decide +kernel
theorem dL_law_341 : decode cL_law 341 = .ok (.iconst 2, 1) := by decide +kernel
theorem dL_law_342 : decode cL_law 342 = .ok (.iadd, 1) := by decide +kernel
theorem dL_law_343 : decode cL_law 343 = .ok (.iaload, 1) := by decide +kernel
theorem dL_law_344 : decode cL_law 344 = .ok (.aload_n 0, 1) := by decide +kernel
theorem dL_law_345 : decode cL_law 345 = .ok (.iload_n 3, 1) := by decide +kernel
theorem dL_law_346 : decode cL_law 346 = .ok (.iconst 3, 1) := by decide +kernel
theorem dL_law_347 : decode cL_law 347 = .ok (.iadd, 1) := by decide +kernel
theorem dL_law_348 : decode cL_law 348 = .ok (.iaload, 1) := by decide +kernel
theorem dL_law_349 : decode cL_law 349 = .ok (.aload_n 0, 1) := by decide +kernel
theorem dL_law_350 : decode cL_law 350 = .ok (.iload_n 3, 1) := by decide +kernel
theorem dL_law_351 : decode cL_law 351 = .ok (.iconst 4, 1) := by decide +kernel
theorem dL_law_352 : decode cL_law 352 = .ok (.iadd, 1) := by decide +kernel
theorem dL_law_353 : decode cL_law 353 = .ok (.iaload, 1) := by decide +kernel
theorem dL_law_354 : decode cL_law 354 = .ok (.aload_n 0, 1) := by decide +kernel
theorem dL_law_355 : decode cL_law 355 = .ok (.iload_n 3, 1) := by decide +kernel
theorem dL_law_356 : decode cL_law 356 = .ok (.iconst 5, 1) := by decide +kernel
theorem dL_law_357 : decode cL_law 357 = .ok (.iadd, 1) := by decide +kernel
theorem dL_law_358 : decode cL_law 358 = .ok (.iaload, 1) := by decide +kernel
theorem dL_law_359 : decode cL_law 359 = .ok (.invokevirtual 17, 3) := by decide +kernel
theorem dL_law_362 : decode cL_law 362 = .ok (.if_icmp .eq 1634, 3) := by decide +kernel
theorem dL_law_1996 : decode cL_law 1996 = .ok (.iinc 3 6, 3) := by decide +kernel
theorem dL_law_1999 : decode cL_law 1999 = .ok (.goto (-1981), 3) := by decide +kernel
theorem dL_law_18 : decode cL_law 18 = .ok (.iload_n 3, 1) := by decide +kernel
theorem dL_law_19 : decode cL_law 19 = .ok (.aload_n 0, 1) := by decide +kernel
theorem dL_law_20 : decode cL_law 20 = .ok (.arraylength, 1) := by decide +kernel
theorem dL_law_21 : decode cL_law 21 = .ok (.bipush 6, 2) := by decide +kernel
theorem dL_law_23 : decode cL_law 23 = .ok (.isub, 1) := by decide +kernel
theorem dL_law_24 : decode cL_law 24 = .ok (.if_icmp .gt 1978, 3) := by decide +kernel
theorem dL_law_2002 : decode cL_law 2002 = .ok (.iconst 1, 1) := by decide +kernel
theorem dL_law_2003 : decode cL_law 2003 = .ok (.ireturn, 1) := by decide +kernel
set_option maxHeartbeats 4000000 in
set_option maxRecDepth 100000 in
theorem law_0 {p : Program} {l : Launch} {e : Env} {s : State} {m : MethodId} {below : List Frame} {meth : Method} {c : Code} {b : Nat} {xs : Nat → Int32} (hx : p.tables.exec = Jvm.exec) (hb : c.code = cL_law) (hr : meth.sig.returnType = ret) (hml : c.maxLocals = 4) (hown : s.vm.findClass RL = some m.cls) (hts : ∀ w ∈ fn_big, w.before #[Value.ref b] s = true) (hX : va_X b 6 xs s s.heap) (hbl : b < s.heap.size) (hlocks : meth.locks = false) {D : va_G} {K : Nat → ClassId} (hK : fn_KK D K s) {x0 m0 : Nat} {u v : Nat → Nat} {fw : Nat → Int32} (hfw : ∀ j, j < 4 → fw j = -1) {A : Nat → Prop} (hAe : (fun q : Nat => s.heap.size ≤ q) = A) : ∀ (H : Heap) (locs : List Loc) (ls : Array Slot), va_P D vwCl (fn_world K x0 m0 u v fw) H → va_D A (fn_world K x0 m0 u v fw) → va_S A s.heap H locs → lv_has ls 4 [(3, .int 0), (2, .ref m0), (1, .ref x0), (0, .ref b)] → W p l e room_1 s m #[Value.ref b] below meth c H locs 144 12710 (lw_Z below #[Value.ref b] s) (F0 m 304 ls []) := by
  intro H locs ls hP hD hS hl
  have hA : ∀ q : Nat, s.heap.size ≤ q → A q := fun q h => by rw [← hAe]; exact h
  have hbA : ¬ A b := by rw [← hAe]; exact Nat.not_le.mpr hbl
  refine lv_aload_n hx hb dL_law_304 rfl (lv_at hl 2 rfl) ?_
  refine lv_aload_n hx hb dL_law_305 rfl (lv_at hl 3 rfl) ?_
  refine lv_iload_n hx hb dL_law_306 rfl (lv_at hl 0 rfl) ?_
  refine lv_iconst (v := 1) hx hb dL_law_307 (by decide) ?_
  refine lv_iadd hx hb dL_law_308 ?_
  refine fn_top 1 (by decide) ?_
  refine va_sld hx hb hX hbl hbA hS (by unfold vp_in; decide) dL_law_309 ?_
  refine fn_top (xs 1) (congrArg xs (by decide)) ?_
  refine lv_aload_n hx hb dL_law_310 rfl (lv_at hl 3 rfl) ?_
  refine lv_iload_n hx hb dL_law_311 rfl (lv_at hl 0 rfl) ?_
  refine lv_iconst (v := 2) hx hb dL_law_312 (by decide) ?_
  refine lv_iadd hx hb dL_law_313 ?_
  refine fn_top 2 (by decide) ?_
  refine va_sld hx hb hX hbl hbA hS (by unfold vp_in; decide) dL_law_314 ?_
  refine fn_top (xs 2) (congrArg xs (by decide)) ?_
  refine lv_aload_n hx hb dL_law_315 rfl (lv_at hl 3 rfl) ?_
  refine lv_iload_n hx hb dL_law_316 rfl (lv_at hl 0 rfl) ?_
  refine lv_iconst (v := 3) hx hb dL_law_317 (by decide) ?_
  refine lv_iadd hx hb dL_law_318 ?_
  refine fn_top 3 (by decide) ?_
  refine va_sld hx hb hX hbl hbA hS (by unfold vp_in; decide) dL_law_319 ?_
  refine fn_top (xs 3) (congrArg xs (by decide)) ?_
  refine lv_aload_n hx hb dL_law_320 rfl (lv_at hl 3 rfl) ?_
  refine lv_iload_n hx hb dL_law_321 rfl (lv_at hl 0 rfl) ?_
  refine lv_iconst (v := 4) hx hb dL_law_322 (by decide) ?_
  refine fn_at 323 rfl ?_
  refine lv_iadd hx hb dL_law_323 ?_
  refine fn_top 4 (by decide) ?_
  refine va_sld hx hb hX hbl hbA hS (by unfold vp_in; decide) dL_law_324 ?_
  refine fn_top (xs 4) (congrArg xs (by decide)) ?_
  refine lv_aload_n hx hb dL_law_325 rfl (lv_at hl 3 rfl) ?_
  refine lv_iload_n hx hb dL_law_326 rfl (lv_at hl 0 rfl) ?_
  refine lv_iconst (v := 5) hx hb dL_law_327 (by decide) ?_
  refine lv_iadd hx hb dL_law_328 ?_
  refine fn_top 5 (by decide) ?_
  refine va_sld hx hb hX hbl hbA hS (by unfold vp_in; decide) dL_law_329 ?_
  refine fn_top (xs 5) (congrArg xs (by decide)) ?_
  refine fn_goi (wc := [(x0, .inr (11, [.ref (u 0), .ref (u 10), .ref (u 17), .ref (u 25), .ref (u 26), .ref (u 27), .ref (u 28), .ref (u 29), .ref (u 34), .ref (u 39), .ref (u 43), .ref (u 51), .ref (u 55)])), ((u 0), .inr (3, [.ref (u 1), .ref (u 3), .int 0, .int (-1)])), ((u 1), .inr (6, [.int 0, .ref (u 2), .int 0, .int 0, .int 0])), ((u 2), .inl (K 1, 1400, .inl (fun _ => 0)))]) (wr := [(m0, .inr (12, [.int 0, .ref (v 0), .ref (v 1), .ref (v 2), .ref (v 3), .ref (v 4), .int 0, .int 0, .int 0, .int 0, .int 0, .long 0, .int 0, .int 0, .int 0, .int (-1), .ref (v 5), .ref (v 6), .ref (v 7), .ref (v 8), .ref (v 9), .ref (v 10), .ref (v 11), .ref (v 12), .ref (v 13), .ref (v 14), .ref (v 15), .ref (v 16), .ref (v 17), .ref (v 18), .ref (v 19), .ref (v 20), .int 0, .int 0, .int 0, .int 0, .ref (v 21), .ref (v 22), .ref (v 23), .int 0, .int 0, .ref (v 24), .ref (v 25), .int 0, .int 0, .ref (v 26), .ref (v 27), .ref (v 28), .int 0, .int 0, .int 0])), ((v 0), .inl (K 0, 4, .inl fw)), ((v 1), .inl (K 0, 4, .inl (fun _ => 0))), ((v 2), .inl (K 3, 240, .inr (.inl (fun _ => 0)))), ((v 4), .inl (K 1, 1400, .inl (fun _ => 0))), ((v 5), .inl (K 0, 5, .inl (fun _ => 0))), ((v 6), .inl (K 0, 40, .inl (fun _ => 0))), ((v 7), .inl (K 0, 50, .inl (fun _ => 0))), ((v 8), .inl (K 0, 60, .inl (fun _ => 0))), ((v 9), .inl (K 0, 480, .inl (fun _ => 0))), ((v 10), .inl (K 0, 600, .inl (fun _ => 0))), ((v 11), .inl (K 2, 3, .inl (fun _ => 0)))]) hK hP hD hS hA [0, 1, 2, 3] [88, 89, 90, 91, 92, 93, 94, 95, 96, 97, 98, 99] rfl rfl (by decide) (fun hp => va_runV (C := RX11) (As := [.int (xs 1), .int (xs 2), .int (xs 3), .int (xs 4), .int (xs 5)]) (rest := []) ⟨hx, hb, hml, hown, hts⟩ (c_X11_feed (l := l) (D := D) (K := K) (x0 := (x0)) (p0 := ((xs 1))) (p1 := ((xs 2))) (p2 := ((xs 3))) (p3 := ((xs 4))) (p4 := ((xs 5))) (fx := ([.ref (u 0), .ref (u 10), .ref (u 17), .ref (u 25), .ref (u 26), .ref (u 27), .ref (u 28), .ref (u 29), .ref (u 34), .ref (u 39), .ref (u 43), .ref (u 51), .ref (u 55)])) (rd := ((u 0))) (hx0 := rfl) (tp := ((u 1))) (td := ((u 3))) (tb := ((u 2))) (fb := (fun _ => 0)) _) (cwV 5 hts (fn_ginV (fn_gin wd_465) wd_462 wd_463 wd_464 wd_1) rfl rfl rfl (by decide +kernel) ⟨Nat.le_of_ble_eq_true rfl, Nat.le_of_ble_eq_true rfl⟩) ⟨fn_blind, va_recv hK.1 hP (ci := 11) (q0 := 0) rfl rfl, hp⟩ rfl rfl hl.1 rfl (lv_room (Nat.le_of_ble_eq_true rfl)) dL_law_330 ⟨Nat.le_of_ble_eq_true rfl, Nat.le_of_ble_eq_true rfl⟩) (fun r2 u1 H locs hwu1 hP hD hS => ?_)
  have r2_e : r2 = 20 := hwu1
  subst r2_e
  have hP : va_P D vwCl [(m0, .inr (12, [.int 0, .ref (v 0), .ref (v 1), .ref (v 2), .ref (v 3), .ref (v 4), .int 0, .int 0, .int 0, .int 0, .int 0, .long 0, .int 0, .int 0, .int 0, .int (-1), .ref (v 5), .ref (v 6), .ref (v 7), .ref (v 8), .ref (v 9), .ref (v 10), .ref (v 11), .ref (v 12), .ref (v 13), .ref (v 14), .ref (v 15), .ref (v 16), .ref (v 17), .ref (v 18), .ref (v 19), .ref (v 20), .int 0, .int 0, .int 0, .int 0, .ref (v 21), .ref (v 22), .ref (v 23), .int 0, .int 0, .ref (v 24), .ref (v 25), .int 0, .int 0, .ref (v 26), .ref (v 27), .ref (v 28), .int 0, .int 0, .int 0])), ((v 0), .inl (K 0, 4, .inl fw)), ((v 1), .inl (K 0, 4, .inl (fun _ => 0))), ((v 2), .inl (K 3, 240, .inr (.inl (fun _ => 0)))), ((v 4), .inl (K 1, 1400, .inl (fun _ => 0))), ((v 5), .inl (K 0, 5, .inl (fun _ => 0))), ((v 6), .inl (K 0, 40, .inl (fun _ => 0))), ((v 7), .inl (K 0, 50, .inl (fun _ => 0))), ((v 8), .inl (K 0, 60, .inl (fun _ => 0))), ((v 9), .inl (K 0, 480, .inl (fun _ => 0))), ((v 10), .inl (K 0, 600, .inl (fun _ => 0))), ((v 11), .inl (K 2, 3, .inl (fun _ => 0)))] H := hP
  have hD : va_D A [(m0, .inr (12, [.int 0, .ref (v 0), .ref (v 1), .ref (v 2), .ref (v 3), .ref (v 4), .int 0, .int 0, .int 0, .int 0, .int 0, .long 0, .int 0, .int 0, .int 0, .int (-1), .ref (v 5), .ref (v 6), .ref (v 7), .ref (v 8), .ref (v 9), .ref (v 10), .ref (v 11), .ref (v 12), .ref (v 13), .ref (v 14), .ref (v 15), .ref (v 16), .ref (v 17), .ref (v 18), .ref (v 19), .ref (v 20), .int 0, .int 0, .int 0, .int 0, .ref (v 21), .ref (v 22), .ref (v 23), .int 0, .int 0, .ref (v 24), .ref (v 25), .int 0, .int 0, .ref (v 26), .ref (v 27), .ref (v 28), .int 0, .int 0, .int 0])), ((v 0), .inl (K 0, 4, .inl fw)), ((v 1), .inl (K 0, 4, .inl (fun _ => 0))), ((v 2), .inl (K 3, 240, .inr (.inl (fun _ => 0)))), ((v 4), .inl (K 1, 1400, .inl (fun _ => 0))), ((v 5), .inl (K 0, 5, .inl (fun _ => 0))), ((v 6), .inl (K 0, 40, .inl (fun _ => 0))), ((v 7), .inl (K 0, 50, .inl (fun _ => 0))), ((v 8), .inl (K 0, 60, .inl (fun _ => 0))), ((v 9), .inl (K 0, 480, .inl (fun _ => 0))), ((v 10), .inl (K 0, 600, .inl (fun _ => 0))), ((v 11), .inl (K 2, 3, .inl (fun _ => 0)))] := hD
  refine lv_aload_n hx hb dL_law_333 rfl (lv_at hl 1 rfl) ?_
  refine lv_aload_n hx hb dL_law_334 rfl (lv_at hl 3 rfl) ?_
  refine lv_iload_n hx hb dL_law_335 rfl (lv_at hl 0 rfl) ?_
  refine lv_iconst (v := 1) hx hb dL_law_336 (by decide) ?_
  refine lv_iadd hx hb dL_law_337 ?_
  refine fn_top 1 (by decide) ?_
  refine va_sld hx hb hX hbl hbA hS (by unfold vp_in; decide) dL_law_338 ?_
  refine fn_top (xs 1) (congrArg xs (by decide)) ?_
  refine lv_aload_n hx hb dL_law_339 rfl (lv_at hl 3 rfl) ?_
  refine lv_iload_n hx hb dL_law_340 rfl (lv_at hl 0 rfl) ?_
  refine lv_iconst (v := 2) hx hb dL_law_341 (by decide) ?_
  refine lv_iadd hx hb dL_law_342 ?_
  refine fn_top 2 (by decide) ?_
  refine va_sld hx hb hX hbl hbA hS (by unfold vp_in; decide) dL_law_343 ?_
  refine fn_top (xs 2) (congrArg xs (by decide)) ?_
  refine lv_aload_n hx hb dL_law_344 rfl (lv_at hl 3 rfl) ?_
  refine fn_at 345 rfl ?_
  refine lv_iload_n hx hb dL_law_345 rfl (lv_at hl 0 rfl) ?_
  refine lv_iconst (v := 3) hx hb dL_law_346 (by decide) ?_
  refine lv_iadd hx hb dL_law_347 ?_
  refine fn_top 3 (by decide) ?_
  refine va_sld hx hb hX hbl hbA hS (by unfold vp_in; decide) dL_law_348 ?_
  refine fn_top (xs 3) (congrArg xs (by decide)) ?_
  refine lv_aload_n hx hb dL_law_349 rfl (lv_at hl 3 rfl) ?_
  refine lv_iload_n hx hb dL_law_350 rfl (lv_at hl 0 rfl) ?_
  refine lv_iconst (v := 4) hx hb dL_law_351 (by decide) ?_
  refine lv_iadd hx hb dL_law_352 ?_
  refine fn_top 4 (by decide) ?_
  refine va_sld hx hb hX hbl hbA hS (by unfold vp_in; decide) dL_law_353 ?_
  refine fn_top (xs 4) (congrArg xs (by decide)) ?_
  refine lv_aload_n hx hb dL_law_354 rfl (lv_at hl 3 rfl) ?_
  refine lv_iload_n hx hb dL_law_355 rfl (lv_at hl 0 rfl) ?_
  refine lv_iconst (v := 5) hx hb dL_law_356 (by decide) ?_
  refine lv_iadd hx hb dL_law_357 ?_
  refine fn_top 5 (by decide) ?_
  refine va_sld hx hb hX hbl hbA hS (by unfold vp_in; decide) dL_law_358 ?_
  refine fn_top (xs 5) (congrArg xs (by decide)) ?_
  refine fn_goi (wc := [(m0, .inr (12, [.int 0, .ref (v 0), .ref (v 1), .ref (v 2), .ref (v 3), .ref (v 4), .int 0, .int 0, .int 0, .int 0, .int 0, .long 0, .int 0, .int 0, .int 0, .int (-1), .ref (v 5), .ref (v 6), .ref (v 7), .ref (v 8), .ref (v 9), .ref (v 10), .ref (v 11), .ref (v 12), .ref (v 13), .ref (v 14), .ref (v 15), .ref (v 16), .ref (v 17), .ref (v 18), .ref (v 19), .ref (v 20), .int 0, .int 0, .int 0, .int 0, .ref (v 21), .ref (v 22), .ref (v 23), .int 0, .int 0, .ref (v 24), .ref (v 25), .int 0, .int 0, .ref (v 26), .ref (v 27), .ref (v 28), .int 0, .int 0, .int 0])), ((v 4), .inl (K 1, 1400, .inl (fun _ => 0)))]) (wr := []) hK hP hD hS hA [0, 4] [] rfl rfl (by decide) (fun hp => va_runV (C := RX12) (As := [.int (xs 1), .int (xs 2), .int (xs 3), .int (xs 4), .int (xs 5)]) (rest := [.int 20]) ⟨hx, hb, hml, hown, hts⟩ (c_X12_feed (l := l) (D := D) (K := K) (m0 := (m0)) (p0 := ((xs 1))) (p1 := ((xs 2))) (p2 := ((xs 3))) (p3 := ((xs 4))) (p4 := ((xs 5))) (fm := ([.int 0, .ref (v 0), .ref (v 1), .ref (v 2), .ref (v 3), .ref (v 4), .int 0, .int 0, .int 0, .int 0, .int 0, .long 0, .int 0, .int 0, .int 0, .int (-1), .ref (v 5), .ref (v 6), .ref (v 7), .ref (v 8), .ref (v 9), .ref (v 10), .ref (v 11), .ref (v 12), .ref (v 13), .ref (v 14), .ref (v 15), .ref (v 16), .ref (v 17), .ref (v 18), .ref (v 19), .ref (v 20), .int 0, .int 0, .int 0, .int 0, .ref (v 21), .ref (v 22), .ref (v 23), .int 0, .int 0, .ref (v 24), .ref (v 25), .int 0, .int 0, .ref (v 26), .ref (v 27), .ref (v 28), .int 0, .int 0, .int 0])) (hmn := rfl) (at_ := ((v 4))) (hm5 := rfl) (hm6 := rfl) (fat_ := (fun _ => 0)) _) (cwV 5 hts (fn_ginV (fn_gin wd_1413) wd_1410 wd_1411 wd_1412 wd_13) rfl rfl rfl (by decide +kernel) ⟨Nat.le_of_ble_eq_true rfl, Nat.le_of_ble_eq_true rfl⟩) ⟨fn_blind, va_recv hK.1 hP (ci := 12) (q0 := 0) rfl rfl, hp⟩ rfl rfl hl.1 rfl (lv_room (Nat.le_of_ble_eq_true rfl)) dL_law_359 ⟨Nat.le_of_ble_eq_true rfl, Nat.le_of_ble_eq_true rfl⟩) (fun r4 u3 H locs hwu3 hP hD hS => ?_)
  have r4_e : r4 = 20 := hwu3
  subst r4_e
  have hP : va_P D vwCl [] H := hP
  have hD : va_D A [] := hD
  refine lv_icmp_eq (tgt := 1996) hx hb dL_law_362 (by decide) (fun _ => ?_) (fun h9 => absurd (by decide) h9)
  refine lv_iinc (v := 6) (lv' := [(3, .int 6), (2, .ref m0), (1, .ref x0), (0, .ref b)]) hx hb dL_law_1996 hl (k := 0) rfl (by decide) (by decide) rfl (fun ls hl => ?_)
  refine lv_goto (tgt := 18) hx hb dL_law_1999 (by decide) ?_
  refine lv_iload_n hx hb dL_law_18 rfl (lv_at hl 0 rfl) ?_
  refine lv_aload_n hx hb dL_law_19 rfl (lv_at hl 3 rfl) ?_
  refine fn_at 20 rfl ?_
  refine va_slen hx hb hX hbl hbA hS dL_law_20 ?_
  refine fn_top 6 (by decide) ?_
  refine lv_bipush (v := 6) hx hb dL_law_21 (by decide) ?_
  refine lv_isub hx hb dL_law_23 ?_
  refine fn_top 0 (by decide) ?_
  refine lv_icmp_gt (tgt := 2002) hx hb dL_law_24 (by decide) (fun _ => ?_) (fun h9 => absurd (by decide) h9)
  refine lv_iconst (v := 1) hx hb dL_law_2002 (by decide) ?_
  refine va_forget (fun q hq => by have h9 := hS.2.2 q hq; rw [← hAe] at h9; exact h9) ?_
  refine W.widen (k := 600000) (n := 7302250) (Nat.le_of_ble_eq_true rfl) (Nat.le_of_ble_eq_true rfl) ?_
  exact lw_ret hx hb hr hlocks dL_law_2003
theorem dL_law_367 : decode cL_law 367 = .ok (.aload_n 1, 1) := by decide +kernel
theorem dL_law_368 : decode cL_law 368 = .ok (.aload_n 0, 1) := by decide +kernel
theorem dL_law_369 : decode cL_law 369 = .ok (.iload_n 3, 1) := by decide +kernel
theorem dL_law_370 : decode cL_law 370 = .ok (.iconst 1, 1) := by decide +kernel
theorem dL_law_371 : decode cL_law 371 = .ok (.iadd, 1) := by decide +kernel
theorem dL_law_372 : decode cL_law 372 = .ok (.iaload, 1) := by decide +kernel
theorem dL_law_373 : decode cL_law 373 = .ok (.invokevirtual 18, 3) := by decide +kernel
theorem dL_law_376 : decode cL_law 376 = .ok (.aload_n 2, 1) := by decide +kernel
theorem dL_law_377 : decode cL_law 377 = .ok (.aload_n 0, 1) := by decide +kernel
theorem dL_law_378 : decode cL_law 378 = .ok (.iload_n 3, 1) := by decide +kernel
theorem dL_law_379 : decode cL_law 379 = .ok (.iconst 1, 1) := by decide +kernel
theorem dL_law_380 : decode cL_law 380 = .ok (.iadd, 1) := by decide +kernel
theorem dL_law_381 : decode cL_law 381 = .ok (.iaload, 1) := by decide +kernel
theorem dL_law_382 : decode cL_law 382 = .ok (.invokevirtual 22, 3) := by decide +kernel
theorem dL_law_385 : decode cL_law 385 = .ok (.if_icmp .eq 1611, 3) := by decide +kernel
set_option maxHeartbeats 4000000 in
set_option maxRecDepth 100000 in
theorem law_1 {p : Program} {l : Launch} {e : Env} {s : State} {m : MethodId} {below : List Frame} {meth : Method} {c : Code} {b : Nat} {xs : Nat → Int32} (hx : p.tables.exec = Jvm.exec) (hb : c.code = cL_law) (hr : meth.sig.returnType = ret) (hml : c.maxLocals = 4) (hown : s.vm.findClass RL = some m.cls) (hts : ∀ w ∈ fn_big, w.before #[Value.ref b] s = true) (hX : va_X b 6 xs s s.heap) (hbl : b < s.heap.size) (hlocks : meth.locks = false) {D : va_G} {K : Nat → ClassId} (hK : fn_KK D K s) {x0 m0 : Nat} {u v : Nat → Nat} {fw : Nat → Int32} (hfw : ∀ j, j < 4 → fw j = -1) {A : Nat → Prop} (hAe : (fun q : Nat => s.heap.size ≤ q) = A) : ∀ (H : Heap) (locs : List Loc) (ls : Array Slot), va_P D vwCl (fn_world K x0 m0 u v fw) H → va_D A (fn_world K x0 m0 u v fw) → va_S A s.heap H locs → lv_has ls 4 [(3, .int 0), (2, .ref m0), (1, .ref x0), (0, .ref b)] → W p l e room_1 s m #[Value.ref b] below meth c H locs 144 12710 (lw_Z below #[Value.ref b] s) (F0 m 367 ls []) := by
  intro H locs ls hP hD hS hl
  have hA : ∀ q : Nat, s.heap.size ≤ q → A q := fun q h => by rw [← hAe]; exact h
  have hbA : ¬ A b := by rw [← hAe]; exact Nat.not_le.mpr hbl
  refine lv_aload_n hx hb dL_law_367 rfl (lv_at hl 2 rfl) ?_
  refine lv_aload_n hx hb dL_law_368 rfl (lv_at hl 3 rfl) ?_
  refine lv_iload_n hx hb dL_law_369 rfl (lv_at hl 0 rfl) ?_
  refine lv_iconst (v := 1) hx hb dL_law_370 (by decide) ?_
  refine lv_iadd hx hb dL_law_371 ?_
  refine fn_top 1 (by decide) ?_
  refine va_sld hx hb hX hbl hbA hS (by unfold vp_in; decide) dL_law_372 ?_
  refine fn_top (xs 1) (congrArg xs (by decide)) ?_
  refine fn_goi (wc := [(x0, .inr (11, [.ref (u 0), .ref (u 10), .ref (u 17), .ref (u 25), .ref (u 26), .ref (u 27), .ref (u 28), .ref (u 29), .ref (u 34), .ref (u 39), .ref (u 43), .ref (u 51), .ref (u 55)])), ((u 0), .inr (3, [.ref (u 1), .ref (u 3), .int 0, .int (-1)])), ((u 1), .inr (6, [.int 0, .ref (u 2), .int 0, .int 0, .int 0]))]) (wr := [(m0, .inr (12, [.int 0, .ref (v 0), .ref (v 1), .ref (v 2), .ref (v 3), .ref (v 4), .int 0, .int 0, .int 0, .int 0, .int 0, .long 0, .int 0, .int 0, .int 0, .int (-1), .ref (v 5), .ref (v 6), .ref (v 7), .ref (v 8), .ref (v 9), .ref (v 10), .ref (v 11), .ref (v 12), .ref (v 13), .ref (v 14), .ref (v 15), .ref (v 16), .ref (v 17), .ref (v 18), .ref (v 19), .ref (v 20), .int 0, .int 0, .int 0, .int 0, .ref (v 21), .ref (v 22), .ref (v 23), .int 0, .int 0, .ref (v 24), .ref (v 25), .int 0, .int 0, .ref (v 26), .ref (v 27), .ref (v 28), .int 0, .int 0, .int 0])), ((v 0), .inl (K 0, 4, .inl fw)), ((v 1), .inl (K 0, 4, .inl (fun _ => 0))), ((v 2), .inl (K 3, 240, .inr (.inl (fun _ => 0)))), ((v 4), .inl (K 1, 1400, .inl (fun _ => 0))), ((v 5), .inl (K 0, 5, .inl (fun _ => 0))), ((v 6), .inl (K 0, 40, .inl (fun _ => 0))), ((v 7), .inl (K 0, 50, .inl (fun _ => 0))), ((v 8), .inl (K 0, 60, .inl (fun _ => 0))), ((v 9), .inl (K 0, 480, .inl (fun _ => 0))), ((v 10), .inl (K 0, 600, .inl (fun _ => 0))), ((v 11), .inl (K 2, 3, .inl (fun _ => 0)))]) hK hP hD hS hA [0, 1, 2] [88, 89, 90, 91, 92, 93, 94, 95, 96, 97, 98, 99] rfl rfl (by decide) (fun hp => va_runV (C := RX11) (As := [.int (xs 1)]) (rest := []) ⟨hx, hb, hml, hown, hts⟩ (c_X11_end (l := l) (D := D) (K := K) (x0 := (x0)) (p0 := ((xs 1))) (fx := ([.ref (u 0), .ref (u 10), .ref (u 17), .ref (u 25), .ref (u 26), .ref (u 27), .ref (u 28), .ref (u 29), .ref (u 34), .ref (u 39), .ref (u 43), .ref (u 51), .ref (u 55)])) (rd := ((u 0))) (hx0 := rfl) (tp := ((u 1))) (td := ((u 3))) (tb := ((u 2))) _) (cwV 1 hts (fn_ginV (fn_gin wd_473) wd_470 wd_471 wd_472 wd_1) rfl rfl rfl (by decide +kernel) ⟨Nat.le_of_ble_eq_true rfl, Nat.le_of_ble_eq_true rfl⟩) ⟨fn_blind, va_recv hK.1 hP (ci := 11) (q0 := 0) rfl rfl, hp⟩ rfl rfl hl.1 rfl (lv_room (Nat.le_of_ble_eq_true rfl)) dL_law_373 ⟨Nat.le_of_ble_eq_true rfl, Nat.le_of_ble_eq_true rfl⟩) (fun r2 u1 H locs hwu1 hP hD hS => ?_)
  have r2_e : r2 = (fn_sEnd ((xs 1))) := hwu1
  subst r2_e
  have hP : va_P D vwCl [(m0, .inr (12, [.int 0, .ref (v 0), .ref (v 1), .ref (v 2), .ref (v 3), .ref (v 4), .int 0, .int 0, .int 0, .int 0, .int 0, .long 0, .int 0, .int 0, .int 0, .int (-1), .ref (v 5), .ref (v 6), .ref (v 7), .ref (v 8), .ref (v 9), .ref (v 10), .ref (v 11), .ref (v 12), .ref (v 13), .ref (v 14), .ref (v 15), .ref (v 16), .ref (v 17), .ref (v 18), .ref (v 19), .ref (v 20), .int 0, .int 0, .int 0, .int 0, .ref (v 21), .ref (v 22), .ref (v 23), .int 0, .int 0, .ref (v 24), .ref (v 25), .int 0, .int 0, .ref (v 26), .ref (v 27), .ref (v 28), .int 0, .int 0, .int 0])), ((v 0), .inl (K 0, 4, .inl fw)), ((v 1), .inl (K 0, 4, .inl (fun _ => 0))), ((v 2), .inl (K 3, 240, .inr (.inl (fun _ => 0)))), ((v 4), .inl (K 1, 1400, .inl (fun _ => 0))), ((v 5), .inl (K 0, 5, .inl (fun _ => 0))), ((v 6), .inl (K 0, 40, .inl (fun _ => 0))), ((v 7), .inl (K 0, 50, .inl (fun _ => 0))), ((v 8), .inl (K 0, 60, .inl (fun _ => 0))), ((v 9), .inl (K 0, 480, .inl (fun _ => 0))), ((v 10), .inl (K 0, 600, .inl (fun _ => 0))), ((v 11), .inl (K 2, 3, .inl (fun _ => 0)))] H := hP
  have hD : va_D A [(m0, .inr (12, [.int 0, .ref (v 0), .ref (v 1), .ref (v 2), .ref (v 3), .ref (v 4), .int 0, .int 0, .int 0, .int 0, .int 0, .long 0, .int 0, .int 0, .int 0, .int (-1), .ref (v 5), .ref (v 6), .ref (v 7), .ref (v 8), .ref (v 9), .ref (v 10), .ref (v 11), .ref (v 12), .ref (v 13), .ref (v 14), .ref (v 15), .ref (v 16), .ref (v 17), .ref (v 18), .ref (v 19), .ref (v 20), .int 0, .int 0, .int 0, .int 0, .ref (v 21), .ref (v 22), .ref (v 23), .int 0, .int 0, .ref (v 24), .ref (v 25), .int 0, .int 0, .ref (v 26), .ref (v 27), .ref (v 28), .int 0, .int 0, .int 0])), ((v 0), .inl (K 0, 4, .inl fw)), ((v 1), .inl (K 0, 4, .inl (fun _ => 0))), ((v 2), .inl (K 3, 240, .inr (.inl (fun _ => 0)))), ((v 4), .inl (K 1, 1400, .inl (fun _ => 0))), ((v 5), .inl (K 0, 5, .inl (fun _ => 0))), ((v 6), .inl (K 0, 40, .inl (fun _ => 0))), ((v 7), .inl (K 0, 50, .inl (fun _ => 0))), ((v 8), .inl (K 0, 60, .inl (fun _ => 0))), ((v 9), .inl (K 0, 480, .inl (fun _ => 0))), ((v 10), .inl (K 0, 600, .inl (fun _ => 0))), ((v 11), .inl (K 2, 3, .inl (fun _ => 0)))] := hD
  refine lv_aload_n hx hb dL_law_376 rfl (lv_at hl 1 rfl) ?_
  refine lv_aload_n hx hb dL_law_377 rfl (lv_at hl 3 rfl) ?_
  refine lv_iload_n hx hb dL_law_378 rfl (lv_at hl 0 rfl) ?_
  refine lv_iconst (v := 1) hx hb dL_law_379 (by decide) ?_
  refine lv_iadd hx hb dL_law_380 ?_
  refine fn_top 1 (by decide) ?_
  refine va_sld hx hb hX hbl hbA hS (by unfold vp_in; decide) dL_law_381 ?_
  refine fn_top (xs 1) (congrArg xs (by decide)) ?_
  refine fn_goi (wc := [(m0, .inr (12, [.int 0, .ref (v 0), .ref (v 1), .ref (v 2), .ref (v 3), .ref (v 4), .int 0, .int 0, .int 0, .int 0, .int 0, .long 0, .int 0, .int 0, .int 0, .int (-1), .ref (v 5), .ref (v 6), .ref (v 7), .ref (v 8), .ref (v 9), .ref (v 10), .ref (v 11), .ref (v 12), .ref (v 13), .ref (v 14), .ref (v 15), .ref (v 16), .ref (v 17), .ref (v 18), .ref (v 19), .ref (v 20), .int 0, .int 0, .int 0, .int 0, .ref (v 21), .ref (v 22), .ref (v 23), .int 0, .int 0, .ref (v 24), .ref (v 25), .int 0, .int 0, .ref (v 26), .ref (v 27), .ref (v 28), .int 0, .int 0, .int 0]))]) (wr := []) hK hP hD hS hA [0] [] rfl rfl (by decide) (fun hp => va_runV (C := RX12) (As := [.int (xs 1)]) (rest := [.int (fn_sEnd ((xs 1)))]) ⟨hx, hb, hml, hown, hts⟩ (c_X12_end (l := l) (D := D) (K := K) (m0 := (m0)) (p0 := ((xs 1))) (fm := ([.int 0, .ref (v 0), .ref (v 1), .ref (v 2), .ref (v 3), .ref (v 4), .int 0, .int 0, .int 0, .int 0, .int 0, .long 0, .int 0, .int 0, .int 0, .int (-1), .ref (v 5), .ref (v 6), .ref (v 7), .ref (v 8), .ref (v 9), .ref (v 10), .ref (v 11), .ref (v 12), .ref (v 13), .ref (v 14), .ref (v 15), .ref (v 16), .ref (v 17), .ref (v 18), .ref (v 19), .ref (v 20), .int 0, .int 0, .int 0, .int 0, .ref (v 21), .ref (v 22), .ref (v 23), .int 0, .int 0, .ref (v 24), .ref (v 25), .int 0, .int 0, .ref (v 26), .ref (v 27), .ref (v 28), .int 0, .int 0, .int 0])) (hmn := rfl) (hm6 := rfl) _) (cwV 1 hts (fn_ginV (fn_gin wd_1421) wd_1418 wd_1419 wd_1420 wd_13) rfl rfl rfl (by decide +kernel) ⟨Nat.le_of_ble_eq_true rfl, Nat.le_of_ble_eq_true rfl⟩) ⟨fn_blind, va_recv hK.1 hP (ci := 12) (q0 := 0) rfl rfl, hp⟩ rfl rfl hl.1 rfl (lv_room (Nat.le_of_ble_eq_true rfl)) dL_law_382 ⟨Nat.le_of_ble_eq_true rfl, Nat.le_of_ble_eq_true rfl⟩) (fun r4 u3 H locs hwu3 hP hD hS => ?_)
  have r4_e : r4 = (fn_sEnd ((xs 1))) := hwu3
  subst r4_e
  have hP : va_P D vwCl [] H := hP
  have hD : va_D A [] := hD
  refine lv_icmp_eq (tgt := 1996) hx hb dL_law_385 (by decide) (fun _ => ?_) (fun h9 => absurd rfl h9)
  refine lv_iinc (v := 6) (lv' := [(3, .int 6), (2, .ref m0), (1, .ref x0), (0, .ref b)]) hx hb dL_law_1996 hl (k := 0) rfl (by decide) (by decide) rfl (fun ls hl => ?_)
  refine lv_goto (tgt := 18) hx hb dL_law_1999 (by decide) ?_
  refine lv_iload_n hx hb dL_law_18 rfl (lv_at hl 0 rfl) ?_
  refine lv_aload_n hx hb dL_law_19 rfl (lv_at hl 3 rfl) ?_
  refine fn_at 20 rfl ?_
  refine va_slen hx hb hX hbl hbA hS dL_law_20 ?_
  refine fn_top 6 (by decide) ?_
  refine lv_bipush (v := 6) hx hb dL_law_21 (by decide) ?_
  refine lv_isub hx hb dL_law_23 ?_
  refine fn_top 0 (by decide) ?_
  refine lv_icmp_gt (tgt := 2002) hx hb dL_law_24 (by decide) (fun _ => ?_) (fun h9 => absurd (by decide) h9)
  refine lv_iconst (v := 1) hx hb dL_law_2002 (by decide) ?_
  refine va_forget (fun q hq => by have h9 := hS.2.2 q hq; rw [← hAe] at h9; exact h9) ?_
  refine W.widen (k := 600000) (n := 7302250) (Nat.le_of_ble_eq_true rfl) (Nat.le_of_ble_eq_true rfl) ?_
  exact lw_ret hx hb hr hlocks dL_law_2003
theorem dL_law_390 : decode cL_law 390 = .ok (.aload_n 1, 1) := by decide +kernel
theorem dL_law_391 : decode cL_law 391 = .ok (.invokevirtual 23, 3) := by decide +kernel
theorem dL_law_394 : decode cL_law 394 = .ok (.aload_n 2, 1) := by decide +kernel
theorem dL_law_395 : decode cL_law 395 = .ok (.invokevirtual 27, 3) := by decide +kernel
theorem dL_law_398 : decode cL_law 398 = .ok (.if_icmp .eq 1598, 3) := by decide +kernel
set_option maxHeartbeats 4000000 in
set_option maxRecDepth 100000 in
theorem law_2 {p : Program} {l : Launch} {e : Env} {s : State} {m : MethodId} {below : List Frame} {meth : Method} {c : Code} {b : Nat} {xs : Nat → Int32} (hx : p.tables.exec = Jvm.exec) (hb : c.code = cL_law) (hr : meth.sig.returnType = ret) (hml : c.maxLocals = 4) (hown : s.vm.findClass RL = some m.cls) (hts : ∀ w ∈ fn_big, w.before #[Value.ref b] s = true) (hX : va_X b 6 xs s s.heap) (hbl : b < s.heap.size) (hlocks : meth.locks = false) {D : va_G} {K : Nat → ClassId} (hK : fn_KK D K s) {x0 m0 : Nat} {u v : Nat → Nat} {fw : Nat → Int32} (hfw : ∀ j, j < 4 → fw j = -1) {A : Nat → Prop} (hAe : (fun q : Nat => s.heap.size ≤ q) = A) : ∀ (H : Heap) (locs : List Loc) (ls : Array Slot), va_P D vwCl (fn_world K x0 m0 u v fw) H → va_D A (fn_world K x0 m0 u v fw) → va_S A s.heap H locs → lv_has ls 4 [(3, .int 0), (2, .ref m0), (1, .ref x0), (0, .ref b)] → W p l e room_1 s m #[Value.ref b] below meth c H locs 144 12710 (lw_Z below #[Value.ref b] s) (F0 m 390 ls []) := by
  intro H locs ls hP hD hS hl
  have hA : ∀ q : Nat, s.heap.size ≤ q → A q := fun q h => by rw [← hAe]; exact h
  have hbA : ¬ A b := by rw [← hAe]; exact Nat.not_le.mpr hbl
  refine lv_aload_n hx hb dL_law_390 rfl (lv_at hl 2 rfl) ?_
  refine fn_goi (wc := [(x0, .inr (11, [.ref (u 0), .ref (u 10), .ref (u 17), .ref (u 25), .ref (u 26), .ref (u 27), .ref (u 28), .ref (u 29), .ref (u 34), .ref (u 39), .ref (u 43), .ref (u 51), .ref (u 55)])), ((u 0), .inr (3, [.ref (u 1), .ref (u 3), .int 0, .int (-1)])), ((u 1), .inr (6, [.int 0, .ref (u 2), .int 0, .int 0, .int 0])), ((u 3), .inr (7, [.int 0, .int 0, .int 0, .int 0, .int 0, .int 0, .int 0, .int 0, .int 0, .ref (u 4), .ref (u 5), .ref (u 6), .ref (u 7), .ref (u 8), .ref (u 9)])), ((u 4), .inl (K 0, 5, .inl (fun _ => 0))), ((u 5), .inl (K 0, 6, .inl (fun _ => 0))), ((u 6), .inl (K 0, 12, .inl (fun _ => 0))), ((u 7), .inl (K 0, 24, .inl (fun _ => 0))), ((u 8), .inl (K 0, 24, .inl (fun _ => 0))), ((u 9), .inl (K 0, 24, .inl (fun _ => 0))), ((u 10), .inr (7, [.int 0, .int 0, .int 0, .int 0, .int 0, .int 0, .int 0, .int 0, .int 0, .ref (u 11), .ref (u 12), .ref (u 13), .ref (u 14), .ref (u 15), .ref (u 16)])), ((u 11), .inl (K 0, 5, .inl (fun _ => 0))), ((u 12), .inl (K 0, 6, .inl (fun _ => 0))), ((u 13), .inl (K 0, 12, .inl (fun _ => 0))), ((u 14), .inl (K 0, 24, .inl (fun _ => 0))), ((u 15), .inl (K 0, 24, .inl (fun _ => 0))), ((u 16), .inl (K 0, 24, .inl (fun _ => 0))), ((u 17), .inr (5, [.int 0, .ref (u 18), .ref (u 19), .ref (u 20), .ref (u 21), .ref (u 22), .ref (u 23), .ref (u 24)])), ((u 20), .inl (K 0, 24, .inl (fun _ => 0))), ((u 29), .inr (10, [.int 0, .int 0, .ref (u 30), .ref (u 31), .ref (u 32), .ref (u 33), .int 0])), ((u 30), .inl (K 0, 12, .inl (fun _ => 0))), ((u 32), .inl (K 0, 12, .inl (fun _ => 0)))]) (wr := [(m0, .inr (12, [.int 0, .ref (v 0), .ref (v 1), .ref (v 2), .ref (v 3), .ref (v 4), .int 0, .int 0, .int 0, .int 0, .int 0, .long 0, .int 0, .int 0, .int 0, .int (-1), .ref (v 5), .ref (v 6), .ref (v 7), .ref (v 8), .ref (v 9), .ref (v 10), .ref (v 11), .ref (v 12), .ref (v 13), .ref (v 14), .ref (v 15), .ref (v 16), .ref (v 17), .ref (v 18), .ref (v 19), .ref (v 20), .int 0, .int 0, .int 0, .int 0, .ref (v 21), .ref (v 22), .ref (v 23), .int 0, .int 0, .ref (v 24), .ref (v 25), .int 0, .int 0, .ref (v 26), .ref (v 27), .ref (v 28), .int 0, .int 0, .int 0])), ((v 0), .inl (K 0, 4, .inl fw)), ((v 1), .inl (K 0, 4, .inl (fun _ => 0))), ((v 2), .inl (K 3, 240, .inr (.inl (fun _ => 0)))), ((v 4), .inl (K 1, 1400, .inl (fun _ => 0))), ((v 5), .inl (K 0, 5, .inl (fun _ => 0))), ((v 6), .inl (K 0, 40, .inl (fun _ => 0))), ((v 7), .inl (K 0, 50, .inl (fun _ => 0))), ((v 8), .inl (K 0, 60, .inl (fun _ => 0))), ((v 9), .inl (K 0, 480, .inl (fun _ => 0))), ((v 10), .inl (K 0, 600, .inl (fun _ => 0))), ((v 11), .inl (K 2, 3, .inl (fun _ => 0)))]) hK hP hD hS hA [0, 1, 2, 4, 5, 6, 7, 8, 9, 10, 11, 12, 13, 14, 15, 16, 17, 18, 21, 30, 31, 33] [88, 89, 90, 91, 92, 93, 94, 95, 96, 97, 98, 99] rfl rfl (by decide) (fun hp => va_runV (C := RX11) (As := []) (rest := []) ⟨hx, hb, hml, hown, hts⟩ (c_X11_town (l := l) (D := D) (K := K) (x0 := (x0)) (fx := ([.ref (u 0), .ref (u 10), .ref (u 17), .ref (u 25), .ref (u 26), .ref (u 27), .ref (u 28), .ref (u 29), .ref (u 34), .ref (u 39), .ref (u 43), .ref (u 51), .ref (u 55)])) (rd := ((u 0))) (hx0 := rfl) (t0 := ((u 10))) (hx1 := rfl) (sh := ((u 17))) (hx2 := rfl) (wb := ((u 29))) (hx7 := rfl) (tp := ((u 1))) (td := ((u 3))) (tb := ((u 2))) (d0 := ((u 4))) (d1 := ((u 5))) (d2 := ((u 6))) (d3 := ((u 7))) (d4 := ((u 8))) (d5 := ((u 9))) (fd0 := (fun _ => 0)) (fd1 := (fun _ => 0)) (fd2 := (fun _ => 0)) (fd3 := (fun _ => 0)) (fd4 := (fun _ => 0)) (fd5 := (fun _ => 0)) (t0_ := ((u 11))) (t1_ := ((u 12))) (t2_ := ((u 13))) (t3_ := ((u 14))) (t4_ := ((u 15))) (t5_ := ((u 16))) (ft0_ := (fun _ => 0)) (ft1_ := (fun _ => 0)) (ft2_ := (fun _ => 0)) (ft3_ := (fun _ => 0)) (ft4_ := (fun _ => 0)) (ft5_ := (fun _ => 0)) (s0 := ((u 18))) (s1 := ((u 19))) (s2 := ((u 20))) (s3 := ((u 21))) (s4 := ((u 22))) (s5 := ((u 23))) (s6 := ((u 24))) (fs2 := (fun _ => 0)) (w0 := ((u 30))) (w1 := ((u 31))) (w2 := ((u 32))) (w3 := ((u 33))) (fw0 := (fun _ => 0)) (fw2 := (fun _ => 0)) _) (cwV 0 hts (fn_ginV (fn_gin wd_477) wd_474 wd_475 wd_476 wd_1) rfl rfl rfl (by decide +kernel) ⟨Nat.le_of_ble_eq_true rfl, Nat.le_of_ble_eq_true rfl⟩) ⟨fn_blind, va_recv hK.1 hP (ci := 11) (q0 := 0) rfl rfl, hp⟩ rfl rfl hl.1 rfl (lv_room (Nat.le_of_ble_eq_true rfl)) dL_law_391 ⟨Nat.le_of_ble_eq_true rfl, Nat.le_of_ble_eq_true rfl⟩) (fun r2 u1 H locs hwu1 hP hD hS => ?_)
  have r2_e : r2 = 0 := hwu1
  subst r2_e
  have hP : va_P D vwCl [(m0, .inr (12, [.int 0, .ref (v 0), .ref (v 1), .ref (v 2), .ref (v 3), .ref (v 4), .int 0, .int 0, .int 0, .int 0, .int 0, .long 0, .int 0, .int 0, .int 0, .int (-1), .ref (v 5), .ref (v 6), .ref (v 7), .ref (v 8), .ref (v 9), .ref (v 10), .ref (v 11), .ref (v 12), .ref (v 13), .ref (v 14), .ref (v 15), .ref (v 16), .ref (v 17), .ref (v 18), .ref (v 19), .ref (v 20), .int 0, .int 0, .int 0, .int 0, .ref (v 21), .ref (v 22), .ref (v 23), .int 0, .int 0, .ref (v 24), .ref (v 25), .int 0, .int 0, .ref (v 26), .ref (v 27), .ref (v 28), .int 0, .int 0, .int 0])), ((v 0), .inl (K 0, 4, .inl fw)), ((v 1), .inl (K 0, 4, .inl (fun _ => 0))), ((v 2), .inl (K 3, 240, .inr (.inl (fun _ => 0)))), ((v 4), .inl (K 1, 1400, .inl (fun _ => 0))), ((v 5), .inl (K 0, 5, .inl (fun _ => 0))), ((v 6), .inl (K 0, 40, .inl (fun _ => 0))), ((v 7), .inl (K 0, 50, .inl (fun _ => 0))), ((v 8), .inl (K 0, 60, .inl (fun _ => 0))), ((v 9), .inl (K 0, 480, .inl (fun _ => 0))), ((v 10), .inl (K 0, 600, .inl (fun _ => 0))), ((v 11), .inl (K 2, 3, .inl (fun _ => 0)))] H := hP
  have hD : va_D A [(m0, .inr (12, [.int 0, .ref (v 0), .ref (v 1), .ref (v 2), .ref (v 3), .ref (v 4), .int 0, .int 0, .int 0, .int 0, .int 0, .long 0, .int 0, .int 0, .int 0, .int (-1), .ref (v 5), .ref (v 6), .ref (v 7), .ref (v 8), .ref (v 9), .ref (v 10), .ref (v 11), .ref (v 12), .ref (v 13), .ref (v 14), .ref (v 15), .ref (v 16), .ref (v 17), .ref (v 18), .ref (v 19), .ref (v 20), .int 0, .int 0, .int 0, .int 0, .ref (v 21), .ref (v 22), .ref (v 23), .int 0, .int 0, .ref (v 24), .ref (v 25), .int 0, .int 0, .ref (v 26), .ref (v 27), .ref (v 28), .int 0, .int 0, .int 0])), ((v 0), .inl (K 0, 4, .inl fw)), ((v 1), .inl (K 0, 4, .inl (fun _ => 0))), ((v 2), .inl (K 3, 240, .inr (.inl (fun _ => 0)))), ((v 4), .inl (K 1, 1400, .inl (fun _ => 0))), ((v 5), .inl (K 0, 5, .inl (fun _ => 0))), ((v 6), .inl (K 0, 40, .inl (fun _ => 0))), ((v 7), .inl (K 0, 50, .inl (fun _ => 0))), ((v 8), .inl (K 0, 60, .inl (fun _ => 0))), ((v 9), .inl (K 0, 480, .inl (fun _ => 0))), ((v 10), .inl (K 0, 600, .inl (fun _ => 0))), ((v 11), .inl (K 2, 3, .inl (fun _ => 0)))] := hD
  refine lv_aload_n hx hb dL_law_394 rfl (lv_at hl 1 rfl) ?_
  refine fn_goi (wc := [(m0, .inr (12, [.int 0, .ref (v 0), .ref (v 1), .ref (v 2), .ref (v 3), .ref (v 4), .int 0, .int 0, .int 0, .int 0, .int 0, .long 0, .int 0, .int 0, .int 0, .int (-1), .ref (v 5), .ref (v 6), .ref (v 7), .ref (v 8), .ref (v 9), .ref (v 10), .ref (v 11), .ref (v 12), .ref (v 13), .ref (v 14), .ref (v 15), .ref (v 16), .ref (v 17), .ref (v 18), .ref (v 19), .ref (v 20), .int 0, .int 0, .int 0, .int 0, .ref (v 21), .ref (v 22), .ref (v 23), .int 0, .int 0, .ref (v 24), .ref (v 25), .int 0, .int 0, .ref (v 26), .ref (v 27), .ref (v 28), .int 0, .int 0, .int 0])), ((v 5), .inl (K 0, 5, .inl (fun _ => 0))), ((v 6), .inl (K 0, 40, .inl (fun _ => 0))), ((v 7), .inl (K 0, 50, .inl (fun _ => 0))), ((v 8), .inl (K 0, 60, .inl (fun _ => 0))), ((v 9), .inl (K 0, 480, .inl (fun _ => 0))), ((v 10), .inl (K 0, 600, .inl (fun _ => 0)))]) (wr := []) hK hP hD hS hA [0, 5, 6, 7, 8, 9, 10] [] rfl rfl (by decide) (fun hp => va_runV (C := RX12) (As := []) (rest := [.int 0]) ⟨hx, hb, hml, hown, hts⟩ (c_X12_town (l := l) (D := D) (K := K) (m0 := (m0)) (fm := ([.int 0, .ref (v 0), .ref (v 1), .ref (v 2), .ref (v 3), .ref (v 4), .int 0, .int 0, .int 0, .int 0, .int 0, .long 0, .int 0, .int 0, .int 0, .int (-1), .ref (v 5), .ref (v 6), .ref (v 7), .ref (v 8), .ref (v 9), .ref (v 10), .ref (v 11), .ref (v 12), .ref (v 13), .ref (v 14), .ref (v 15), .ref (v 16), .ref (v 17), .ref (v 18), .ref (v 19), .ref (v 20), .int 0, .int 0, .int 0, .int 0, .ref (v 21), .ref (v 22), .ref (v 23), .int 0, .int 0, .ref (v 24), .ref (v 25), .int 0, .int 0, .ref (v 26), .ref (v 27), .ref (v 28), .int 0, .int 0, .int 0])) (hmn := rfl) (hm6 := rfl) (al := ((v 5))) (hm16 := rfl) (ah := ((v 6))) (hm17 := rfl) (ab := ((v 7))) (hm18 := rfl) (ao := ((v 8))) (hm19 := rfl) (an := ((v 9))) (hm20 := rfl) (aa := ((v 10))) (hm21 := rfl) (fal := (fun _ => 0)) (hfal := (fun _ => rfl)) (fah := (fun _ => 0)) (hfah := (fun _ => rfl)) (fab := (fun _ => 0)) (hfab := (fun _ => rfl)) (fao := (fun _ => 0)) (hfao := (fun _ => rfl)) (fan := (fun _ => 0)) (hfan := (fun _ => rfl)) (faa := (fun _ => 0)) (hfaa := (fun _ => rfl)) _) (cwV 0 hts (fn_ginV (fn_gin wd_1429) wd_1426 wd_1427 wd_1428 wd_13) rfl rfl rfl (by decide +kernel) ⟨Nat.le_of_ble_eq_true rfl, Nat.le_of_ble_eq_true rfl⟩) ⟨fn_blind, va_recv hK.1 hP (ci := 12) (q0 := 0) rfl rfl, hp⟩ rfl rfl hl.1 rfl (lv_room (Nat.le_of_ble_eq_true rfl)) dL_law_395 ⟨Nat.le_of_ble_eq_true rfl, Nat.le_of_ble_eq_true rfl⟩) (fun r4 u3 H locs hwu3 hP hD hS => ?_)
  have r4_e : r4 = 0 := hwu3
  subst r4_e
  have hP : va_P D vwCl [] H := hP
  have hD : va_D A [] := hD
  refine lv_icmp_eq (tgt := 1996) hx hb dL_law_398 (by decide) (fun _ => ?_) (fun h9 => absurd (by decide) h9)
  refine lv_iinc (v := 6) (lv' := [(3, .int 6), (2, .ref m0), (1, .ref x0), (0, .ref b)]) hx hb dL_law_1996 hl (k := 0) rfl (by decide) (by decide) rfl (fun ls hl => ?_)
  refine lv_goto (tgt := 18) hx hb dL_law_1999 (by decide) ?_
  refine lv_iload_n hx hb dL_law_18 rfl (lv_at hl 0 rfl) ?_
  refine lv_aload_n hx hb dL_law_19 rfl (lv_at hl 3 rfl) ?_
  refine va_slen hx hb hX hbl hbA hS dL_law_20 ?_
  refine fn_top 6 (by decide) ?_
  refine lv_bipush (v := 6) hx hb dL_law_21 (by decide) ?_
  refine lv_isub hx hb dL_law_23 ?_
  refine fn_top 0 (by decide) ?_
  refine lv_icmp_gt (tgt := 2002) hx hb dL_law_24 (by decide) (fun _ => ?_) (fun h9 => absurd (by decide) h9)
  refine lv_iconst (v := 1) hx hb dL_law_2002 (by decide) ?_
  refine va_forget (fun q hq => by have h9 := hS.2.2 q hq; rw [← hAe] at h9; exact h9) ?_
  refine W.widen (k := 600000) (n := 7302250) (Nat.le_of_ble_eq_true rfl) (Nat.le_of_ble_eq_true rfl) ?_
  exact lw_ret hx hb hr hlocks dL_law_2003
theorem dL_law_403 : decode cL_law 403 = .ok (.aload_n 1, 1) := by decide +kernel
theorem dL_law_404 : decode cL_law 404 = .ok (.aload_n 0, 1) := by decide +kernel
theorem dL_law_405 : decode cL_law 405 = .ok (.iload_n 3, 1) := by decide +kernel
theorem dL_law_406 : decode cL_law 406 = .ok (.iconst 1, 1) := by decide +kernel
theorem dL_law_407 : decode cL_law 407 = .ok (.iadd, 1) := by decide +kernel
theorem dL_law_408 : decode cL_law 408 = .ok (.iaload, 1) := by decide +kernel
theorem dL_law_409 : decode cL_law 409 = .ok (.invokevirtual 28, 3) := by decide +kernel
theorem dL_law_412 : decode cL_law 412 = .ok (.aload_n 2, 1) := by decide +kernel
theorem dL_law_413 : decode cL_law 413 = .ok (.aload_n 0, 1) := by decide +kernel
theorem dL_law_414 : decode cL_law 414 = .ok (.iload_n 3, 1) := by decide +kernel
theorem dL_law_415 : decode cL_law 415 = .ok (.iconst 1, 1) := by decide +kernel
theorem dL_law_416 : decode cL_law 416 = .ok (.iadd, 1) := by decide +kernel
theorem dL_law_417 : decode cL_law 417 = .ok (.iaload, 1) := by decide +kernel
theorem dL_law_418 : decode cL_law 418 = .ok (.invokevirtual 31, 3) := by decide +kernel
theorem dL_law_421 : decode cL_law 421 = .ok (.if_icmp .eq 1575, 3) := by decide +kernel
set_option maxHeartbeats 4000000 in
set_option maxRecDepth 100000 in
theorem law_3 {p : Program} {l : Launch} {e : Env} {s : State} {m : MethodId} {below : List Frame} {meth : Method} {c : Code} {b : Nat} {xs : Nat → Int32} (hx : p.tables.exec = Jvm.exec) (hb : c.code = cL_law) (hr : meth.sig.returnType = ret) (hml : c.maxLocals = 4) (hown : s.vm.findClass RL = some m.cls) (hts : ∀ w ∈ fn_big, w.before #[Value.ref b] s = true) (hX : va_X b 6 xs s s.heap) (hbl : b < s.heap.size) (hlocks : meth.locks = false) {D : va_G} {K : Nat → ClassId} (hK : fn_KK D K s) {x0 m0 : Nat} {u v : Nat → Nat} {fw : Nat → Int32} (hfw : ∀ j, j < 4 → fw j = -1) {A : Nat → Prop} (hAe : (fun q : Nat => s.heap.size ≤ q) = A) : ∀ (H : Heap) (locs : List Loc) (ls : Array Slot), va_P D vwCl (fn_world K x0 m0 u v fw) H → va_D A (fn_world K x0 m0 u v fw) → va_S A s.heap H locs → lv_has ls 4 [(3, .int 0), (2, .ref m0), (1, .ref x0), (0, .ref b)] → W p l e room_1 s m #[Value.ref b] below meth c H locs 144 12710 (lw_Z below #[Value.ref b] s) (F0 m 403 ls []) := by
  intro H locs ls hP hD hS hl
  have hA : ∀ q : Nat, s.heap.size ≤ q → A q := fun q h => by rw [← hAe]; exact h
  have hbA : ¬ A b := by rw [← hAe]; exact Nat.not_le.mpr hbl
  refine lv_aload_n hx hb dL_law_403 rfl (lv_at hl 2 rfl) ?_
  refine lv_aload_n hx hb dL_law_404 rfl (lv_at hl 3 rfl) ?_
  refine lv_iload_n hx hb dL_law_405 rfl (lv_at hl 0 rfl) ?_
  refine lv_iconst (v := 1) hx hb dL_law_406 (by decide) ?_
  refine lv_iadd hx hb dL_law_407 ?_
  refine fn_top 1 (by decide) ?_
  refine va_sld hx hb hX hbl hbA hS (by unfold vp_in; decide) dL_law_408 ?_
  refine fn_top (xs 1) (congrArg xs (by decide)) ?_
  refine fn_goi (wc := [(x0, .inr (11, [.ref (u 0), .ref (u 10), .ref (u 17), .ref (u 25), .ref (u 26), .ref (u 27), .ref (u 28), .ref (u 29), .ref (u 34), .ref (u 39), .ref (u 43), .ref (u 51), .ref (u 55)])), ((u 0), .inr (3, [.ref (u 1), .ref (u 3), .int 0, .int (-1)]))]) (wr := [(m0, .inr (12, [.int 0, .ref (v 0), .ref (v 1), .ref (v 2), .ref (v 3), .ref (v 4), .int 0, .int 0, .int 0, .int 0, .int 0, .long 0, .int 0, .int 0, .int 0, .int (-1), .ref (v 5), .ref (v 6), .ref (v 7), .ref (v 8), .ref (v 9), .ref (v 10), .ref (v 11), .ref (v 12), .ref (v 13), .ref (v 14), .ref (v 15), .ref (v 16), .ref (v 17), .ref (v 18), .ref (v 19), .ref (v 20), .int 0, .int 0, .int 0, .int 0, .ref (v 21), .ref (v 22), .ref (v 23), .int 0, .int 0, .ref (v 24), .ref (v 25), .int 0, .int 0, .ref (v 26), .ref (v 27), .ref (v 28), .int 0, .int 0, .int 0])), ((v 0), .inl (K 0, 4, .inl fw)), ((v 1), .inl (K 0, 4, .inl (fun _ => 0))), ((v 2), .inl (K 3, 240, .inr (.inl (fun _ => 0)))), ((v 4), .inl (K 1, 1400, .inl (fun _ => 0))), ((v 5), .inl (K 0, 5, .inl (fun _ => 0))), ((v 6), .inl (K 0, 40, .inl (fun _ => 0))), ((v 7), .inl (K 0, 50, .inl (fun _ => 0))), ((v 8), .inl (K 0, 60, .inl (fun _ => 0))), ((v 9), .inl (K 0, 480, .inl (fun _ => 0))), ((v 10), .inl (K 0, 600, .inl (fun _ => 0))), ((v 11), .inl (K 2, 3, .inl (fun _ => 0)))]) hK hP hD hS hA [0, 1] [88, 89, 90, 91, 92, 93, 94, 95, 96, 97, 98, 99] rfl rfl (by decide) (fun hp => va_runV (C := RX11) (As := [.int (xs 1)]) (rest := []) ⟨hx, hb, hml, hown, hts⟩ (c_X11_fault (l := l) (D := D) (K := K) (x0 := (x0)) (p0 := ((xs 1))) (fx := ([.ref (u 0), .ref (u 10), .ref (u 17), .ref (u 25), .ref (u 26), .ref (u 27), .ref (u 28), .ref (u 29), .ref (u 34), .ref (u 39), .ref (u 43), .ref (u 51), .ref (u 55)])) (rd := ((u 0))) (hx0 := rfl) (tp := ((u 1))) (td := ((u 3))) _) (cwV 1 hts (fn_ginV (fn_gin wd_654) wd_651 wd_652 wd_653 wd_1) rfl rfl rfl (by decide +kernel) ⟨Nat.le_of_ble_eq_true rfl, Nat.le_of_ble_eq_true rfl⟩) ⟨fn_blind, va_recv hK.1 hP (ci := 11) (q0 := 0) rfl rfl, hp⟩ rfl rfl hl.1 rfl (lv_room (Nat.le_of_ble_eq_true rfl)) dL_law_409 ⟨Nat.le_of_ble_eq_true rfl, Nat.le_of_ble_eq_true rfl⟩) (fun r2 u1 H locs hwu1 hP hD hS => ?_)
  have r2_e : r2 = (fn_sEnd ((xs 1))) := hwu1
  subst r2_e
  have hP : va_P D vwCl [(m0, .inr (12, [.int 0, .ref (v 0), .ref (v 1), .ref (v 2), .ref (v 3), .ref (v 4), .int 0, .int 0, .int 0, .int 0, .int 0, .long 0, .int 0, .int 0, .int 0, .int (-1), .ref (v 5), .ref (v 6), .ref (v 7), .ref (v 8), .ref (v 9), .ref (v 10), .ref (v 11), .ref (v 12), .ref (v 13), .ref (v 14), .ref (v 15), .ref (v 16), .ref (v 17), .ref (v 18), .ref (v 19), .ref (v 20), .int 0, .int 0, .int 0, .int 0, .ref (v 21), .ref (v 22), .ref (v 23), .int 0, .int 0, .ref (v 24), .ref (v 25), .int 0, .int 0, .ref (v 26), .ref (v 27), .ref (v 28), .int 0, .int 0, .int 0])), ((v 0), .inl (K 0, 4, .inl fw)), ((v 1), .inl (K 0, 4, .inl (fun _ => 0))), ((v 2), .inl (K 3, 240, .inr (.inl (fun _ => 0)))), ((v 4), .inl (K 1, 1400, .inl (fun _ => 0))), ((v 5), .inl (K 0, 5, .inl (fun _ => 0))), ((v 6), .inl (K 0, 40, .inl (fun _ => 0))), ((v 7), .inl (K 0, 50, .inl (fun _ => 0))), ((v 8), .inl (K 0, 60, .inl (fun _ => 0))), ((v 9), .inl (K 0, 480, .inl (fun _ => 0))), ((v 10), .inl (K 0, 600, .inl (fun _ => 0))), ((v 11), .inl (K 2, 3, .inl (fun _ => 0)))] H := hP
  have hD : va_D A [(m0, .inr (12, [.int 0, .ref (v 0), .ref (v 1), .ref (v 2), .ref (v 3), .ref (v 4), .int 0, .int 0, .int 0, .int 0, .int 0, .long 0, .int 0, .int 0, .int 0, .int (-1), .ref (v 5), .ref (v 6), .ref (v 7), .ref (v 8), .ref (v 9), .ref (v 10), .ref (v 11), .ref (v 12), .ref (v 13), .ref (v 14), .ref (v 15), .ref (v 16), .ref (v 17), .ref (v 18), .ref (v 19), .ref (v 20), .int 0, .int 0, .int 0, .int 0, .ref (v 21), .ref (v 22), .ref (v 23), .int 0, .int 0, .ref (v 24), .ref (v 25), .int 0, .int 0, .ref (v 26), .ref (v 27), .ref (v 28), .int 0, .int 0, .int 0])), ((v 0), .inl (K 0, 4, .inl fw)), ((v 1), .inl (K 0, 4, .inl (fun _ => 0))), ((v 2), .inl (K 3, 240, .inr (.inl (fun _ => 0)))), ((v 4), .inl (K 1, 1400, .inl (fun _ => 0))), ((v 5), .inl (K 0, 5, .inl (fun _ => 0))), ((v 6), .inl (K 0, 40, .inl (fun _ => 0))), ((v 7), .inl (K 0, 50, .inl (fun _ => 0))), ((v 8), .inl (K 0, 60, .inl (fun _ => 0))), ((v 9), .inl (K 0, 480, .inl (fun _ => 0))), ((v 10), .inl (K 0, 600, .inl (fun _ => 0))), ((v 11), .inl (K 2, 3, .inl (fun _ => 0)))] := hD
  refine lv_aload_n hx hb dL_law_412 rfl (lv_at hl 1 rfl) ?_
  refine lv_aload_n hx hb dL_law_413 rfl (lv_at hl 3 rfl) ?_
  refine lv_iload_n hx hb dL_law_414 rfl (lv_at hl 0 rfl) ?_
  refine lv_iconst (v := 1) hx hb dL_law_415 (by decide) ?_
  refine lv_iadd hx hb dL_law_416 ?_
  refine fn_top 1 (by decide) ?_
  refine va_sld hx hb hX hbl hbA hS (by unfold vp_in; decide) dL_law_417 ?_
  refine fn_top (xs 1) (congrArg xs (by decide)) ?_
  refine fn_goi (wc := [(m0, .inr (12, [.int 0, .ref (v 0), .ref (v 1), .ref (v 2), .ref (v 3), .ref (v 4), .int 0, .int 0, .int 0, .int 0, .int 0, .long 0, .int 0, .int 0, .int 0, .int (-1), .ref (v 5), .ref (v 6), .ref (v 7), .ref (v 8), .ref (v 9), .ref (v 10), .ref (v 11), .ref (v 12), .ref (v 13), .ref (v 14), .ref (v 15), .ref (v 16), .ref (v 17), .ref (v 18), .ref (v 19), .ref (v 20), .int 0, .int 0, .int 0, .int 0, .ref (v 21), .ref (v 22), .ref (v 23), .int 0, .int 0, .ref (v 24), .ref (v 25), .int 0, .int 0, .ref (v 26), .ref (v 27), .ref (v 28), .int 0, .int 0, .int 0]))]) (wr := []) hK hP hD hS hA [0] [] rfl rfl (by decide) (fun hp => va_runV (C := RX12) (As := [.int (xs 1)]) (rest := [.int (fn_sEnd ((xs 1)))]) ⟨hx, hb, hml, hown, hts⟩ (c_X12_fault (l := l) (D := D) (K := K) (m0 := (m0)) (p0 := ((xs 1))) (fm := ([.int 0, .ref (v 0), .ref (v 1), .ref (v 2), .ref (v 3), .ref (v 4), .int 0, .int 0, .int 0, .int 0, .int 0, .long 0, .int 0, .int 0, .int 0, .int (-1), .ref (v 5), .ref (v 6), .ref (v 7), .ref (v 8), .ref (v 9), .ref (v 10), .ref (v 11), .ref (v 12), .ref (v 13), .ref (v 14), .ref (v 15), .ref (v 16), .ref (v 17), .ref (v 18), .ref (v 19), .ref (v 20), .int 0, .int 0, .int 0, .int 0, .ref (v 21), .ref (v 22), .ref (v 23), .int 0, .int 0, .ref (v 24), .ref (v 25), .int 0, .int 0, .ref (v 26), .ref (v 27), .ref (v 28), .int 0, .int 0, .int 0])) (hmn := rfl) (hm14 := rfl) (hm15 := rfl) _) (cwV 1 hts (fn_ginV (fn_gin wd_1425) wd_1422 wd_1423 wd_1424 wd_13) rfl rfl rfl (by decide +kernel) ⟨Nat.le_of_ble_eq_true rfl, Nat.le_of_ble_eq_true rfl⟩) ⟨fn_blind, va_recv hK.1 hP (ci := 12) (q0 := 0) rfl rfl, hp⟩ rfl rfl hl.1 rfl (lv_room (Nat.le_of_ble_eq_true rfl)) dL_law_418 ⟨Nat.le_of_ble_eq_true rfl, Nat.le_of_ble_eq_true rfl⟩) (fun r4 u3 H locs hwu3 hP hD hS => ?_)
  have r4_e : r4 = (fn_sEnd ((xs 1))) := hwu3
  subst r4_e
  have hP : va_P D vwCl [] H := hP
  have hD : va_D A [] := hD
  refine lv_icmp_eq (tgt := 1996) hx hb dL_law_421 (by decide) (fun _ => ?_) (fun h9 => absurd rfl h9)
  refine lv_iinc (v := 6) (lv' := [(3, .int 6), (2, .ref m0), (1, .ref x0), (0, .ref b)]) hx hb dL_law_1996 hl (k := 0) rfl (by decide) (by decide) rfl (fun ls hl => ?_)
  refine lv_goto (tgt := 18) hx hb dL_law_1999 (by decide) ?_
  refine lv_iload_n hx hb dL_law_18 rfl (lv_at hl 0 rfl) ?_
  refine lv_aload_n hx hb dL_law_19 rfl (lv_at hl 3 rfl) ?_
  refine fn_at 20 rfl ?_
  refine va_slen hx hb hX hbl hbA hS dL_law_20 ?_
  refine fn_top 6 (by decide) ?_
  refine lv_bipush (v := 6) hx hb dL_law_21 (by decide) ?_
  refine lv_isub hx hb dL_law_23 ?_
  refine fn_top 0 (by decide) ?_
  refine lv_icmp_gt (tgt := 2002) hx hb dL_law_24 (by decide) (fun _ => ?_) (fun h9 => absurd (by decide) h9)
  refine lv_iconst (v := 1) hx hb dL_law_2002 (by decide) ?_
  refine va_forget (fun q hq => by have h9 := hS.2.2 q hq; rw [← hAe] at h9; exact h9) ?_
  refine W.widen (k := 600000) (n := 7302250) (Nat.le_of_ble_eq_true rfl) (Nat.le_of_ble_eq_true rfl) ?_
  exact lw_ret hx hb hr hlocks dL_law_2003
theorem dL_law_426 : decode cL_law 426 = .ok (.aload_n 1, 1) := by decide +kernel
theorem dL_law_427 : decode cL_law 427 = .ok (.aload_n 0, 1) := by decide +kernel
theorem dL_law_428 : decode cL_law 428 = .ok (.iload_n 3, 1) := by decide +kernel
theorem dL_law_429 : decode cL_law 429 = .ok (.iconst 1, 1) := by decide +kernel
theorem dL_law_430 : decode cL_law 430 = .ok (.iadd, 1) := by decide +kernel
theorem dL_law_431 : decode cL_law 431 = .ok (.iaload, 1) := by decide +kernel
theorem dL_law_432 : decode cL_law 432 = .ok (.aload_n 0, 1) := by decide +kernel
theorem dL_law_433 : decode cL_law 433 = .ok (.iload_n 3, 1) := by decide +kernel
theorem dL_law_434 : decode cL_law 434 = .ok (.iconst 2, 1) := by decide +kernel
theorem dL_law_435 : decode cL_law 435 = .ok (.iadd, 1) := by decide +kernel
theorem dL_law_436 : decode cL_law 436 = .ok (.iaload, 1) := by decide +kernel
theorem dL_law_437 : decode cL_law 437 = .ok (.invokevirtual 32, 3) := by decide +kernel
theorem dL_law_440 : decode cL_law 440 = .ok (.aload_n 2, 1) := by decide +kernel
theorem dL_law_441 : decode cL_law 441 = .ok (.aload_n 0, 1) := by decide +kernel
theorem dL_law_442 : decode cL_law 442 = .ok (.iload_n 3, 1) := by decide +kernel
theorem dL_law_443 : decode cL_law 443 = .ok (.iconst 1, 1) := by decide +kernel
theorem dL_law_444 : decode cL_law 444 = .ok (.iadd, 1) := by decide +kernel
theorem dL_law_445 : decode cL_law 445 = .ok (.iaload, 1) := by decide +kernel
theorem dL_law_446 : decode cL_law 446 = .ok (.aload_n 0, 1) := by decide +kernel
theorem dL_law_447 : decode cL_law 447 = .ok (.iload_n 3, 1) := by decide +kernel
theorem dL_law_448 : decode cL_law 448 = .ok (.iconst 2, 1) := by decide +kernel
theorem dL_law_449 : decode cL_law 449 = .ok (.iadd, 1) := by decide +kernel
theorem dL_law_450 : decode cL_law 450 = .ok (.iaload, 1) := by decide +kernel
theorem dL_law_451 : decode cL_law 451 = .ok (.invokevirtual 36, 3) := by decide +kernel
theorem dL_law_454 : decode cL_law 454 = .ok (.if_icmp .eq 1542, 3) := by decide +kernel
set_option maxHeartbeats 4000000 in
set_option maxRecDepth 100000 in
theorem law_4 {p : Program} {l : Launch} {e : Env} {s : State} {m : MethodId} {below : List Frame} {meth : Method} {c : Code} {b : Nat} {xs : Nat → Int32} (hx : p.tables.exec = Jvm.exec) (hb : c.code = cL_law) (hr : meth.sig.returnType = ret) (hml : c.maxLocals = 4) (hown : s.vm.findClass RL = some m.cls) (hts : ∀ w ∈ fn_big, w.before #[Value.ref b] s = true) (hX : va_X b 6 xs s s.heap) (hbl : b < s.heap.size) (hlocks : meth.locks = false) {D : va_G} {K : Nat → ClassId} (hK : fn_KK D K s) {x0 m0 : Nat} {u v : Nat → Nat} {fw : Nat → Int32} (hfw : ∀ j, j < 4 → fw j = -1) {A : Nat → Prop} (hAe : (fun q : Nat => s.heap.size ≤ q) = A) : ∀ (H : Heap) (locs : List Loc) (ls : Array Slot), va_P D vwCl (fn_world K x0 m0 u v fw) H → va_D A (fn_world K x0 m0 u v fw) → va_S A s.heap H locs → lv_has ls 4 [(3, .int 0), (2, .ref m0), (1, .ref x0), (0, .ref b)] → W p l e room_1 s m #[Value.ref b] below meth c H locs 144 12710 (lw_Z below #[Value.ref b] s) (F0 m 426 ls []) := by
  intro H locs ls hP hD hS hl
  have hA : ∀ q : Nat, s.heap.size ≤ q → A q := fun q h => by rw [← hAe]; exact h
  have hbA : ¬ A b := by rw [← hAe]; exact Nat.not_le.mpr hbl
  refine lv_aload_n hx hb dL_law_426 rfl (lv_at hl 2 rfl) ?_
  refine lv_aload_n hx hb dL_law_427 rfl (lv_at hl 3 rfl) ?_
  refine lv_iload_n hx hb dL_law_428 rfl (lv_at hl 0 rfl) ?_
  refine lv_iconst (v := 1) hx hb dL_law_429 (by decide) ?_
  refine lv_iadd hx hb dL_law_430 ?_
  refine fn_top 1 (by decide) ?_
  refine va_sld hx hb hX hbl hbA hS (by unfold vp_in; decide) dL_law_431 ?_
  refine fn_top (xs 1) (congrArg xs (by decide)) ?_
  refine lv_aload_n hx hb dL_law_432 rfl (lv_at hl 3 rfl) ?_
  refine lv_iload_n hx hb dL_law_433 rfl (lv_at hl 0 rfl) ?_
  refine lv_iconst (v := 2) hx hb dL_law_434 (by decide) ?_
  refine lv_iadd hx hb dL_law_435 ?_
  refine fn_top 2 (by decide) ?_
  refine va_sld hx hb hX hbl hbA hS (by unfold vp_in; decide) dL_law_436 ?_
  refine fn_top (xs 2) (congrArg xs (by decide)) ?_
  refine fn_goi (wc := [(x0, .inr (11, [.ref (u 0), .ref (u 10), .ref (u 17), .ref (u 25), .ref (u 26), .ref (u 27), .ref (u 28), .ref (u 29), .ref (u 34), .ref (u 39), .ref (u 43), .ref (u 51), .ref (u 55)])), ((u 10), .inr (7, [.int 0, .int 0, .int 0, .int 0, .int 0, .int 0, .int 0, .int 0, .int 0, .ref (u 11), .ref (u 12), .ref (u 13), .ref (u 14), .ref (u 15), .ref (u 16)]))]) (wr := [(m0, .inr (12, [.int 0, .ref (v 0), .ref (v 1), .ref (v 2), .ref (v 3), .ref (v 4), .int 0, .int 0, .int 0, .int 0, .int 0, .long 0, .int 0, .int 0, .int 0, .int (-1), .ref (v 5), .ref (v 6), .ref (v 7), .ref (v 8), .ref (v 9), .ref (v 10), .ref (v 11), .ref (v 12), .ref (v 13), .ref (v 14), .ref (v 15), .ref (v 16), .ref (v 17), .ref (v 18), .ref (v 19), .ref (v 20), .int 0, .int 0, .int 0, .int 0, .ref (v 21), .ref (v 22), .ref (v 23), .int 0, .int 0, .ref (v 24), .ref (v 25), .int 0, .int 0, .ref (v 26), .ref (v 27), .ref (v 28), .int 0, .int 0, .int 0])), ((v 0), .inl (K 0, 4, .inl fw)), ((v 1), .inl (K 0, 4, .inl (fun _ => 0))), ((v 2), .inl (K 3, 240, .inr (.inl (fun _ => 0)))), ((v 4), .inl (K 1, 1400, .inl (fun _ => 0))), ((v 5), .inl (K 0, 5, .inl (fun _ => 0))), ((v 6), .inl (K 0, 40, .inl (fun _ => 0))), ((v 7), .inl (K 0, 50, .inl (fun _ => 0))), ((v 8), .inl (K 0, 60, .inl (fun _ => 0))), ((v 9), .inl (K 0, 480, .inl (fun _ => 0))), ((v 10), .inl (K 0, 600, .inl (fun _ => 0))), ((v 11), .inl (K 2, 3, .inl (fun _ => 0)))]) hK hP hD hS hA [0, 11] [88, 89, 90, 91, 92, 93, 94, 95, 96, 97, 98, 99] rfl rfl (by decide) (fun hp => va_runV (C := RX11) (As := [.int (xs 1), .int (xs 2)]) (rest := []) ⟨hx, hb, hml, hown, hts⟩ (c_X11_page (l := l) (D := D) (K := K) (x0 := (x0)) (p0 := ((xs 1))) (p1 := ((xs 2))) (fx := ([.ref (u 0), .ref (u 10), .ref (u 17), .ref (u 25), .ref (u 26), .ref (u 27), .ref (u 28), .ref (u 29), .ref (u 34), .ref (u 39), .ref (u 43), .ref (u 51), .ref (u 55)])) (t0 := ((u 10))) (hx1 := rfl) (ft := ([.int 0, .int 0, .int 0, .int 0, .int 0, .int 0, .int 0, .int 0, .int 0, .ref (u 11), .ref (u 12), .ref (u 13), .ref (u 14), .ref (u 15), .ref (u 16)])) (ht0 := rfl) (ht3 := rfl) (ht4 := rfl) (ht5 := rfl) _) (cwV 2 hts (fn_ginV (fn_gin wd_658) wd_655 wd_656 wd_657 wd_1) rfl rfl rfl (by decide +kernel) ⟨Nat.le_of_ble_eq_true rfl, Nat.le_of_ble_eq_true rfl⟩) ⟨fn_blind, va_recv hK.1 hP (ci := 11) (q0 := 0) rfl rfl, hp⟩ rfl rfl hl.1 rfl (lv_room (Nat.le_of_ble_eq_true rfl)) dL_law_437 ⟨Nat.le_of_ble_eq_true rfl, Nat.le_of_ble_eq_true rfl⟩) (fun r2 u1 H locs hwu1 hP hD hS => ?_)
  have r2_e : r2 = (-2) := hwu1
  subst r2_e
  have hP : va_P D vwCl [(m0, .inr (12, [.int 0, .ref (v 0), .ref (v 1), .ref (v 2), .ref (v 3), .ref (v 4), .int 0, .int 0, .int 0, .int 0, .int 0, .long 0, .int 0, .int 0, .int 0, .int (-1), .ref (v 5), .ref (v 6), .ref (v 7), .ref (v 8), .ref (v 9), .ref (v 10), .ref (v 11), .ref (v 12), .ref (v 13), .ref (v 14), .ref (v 15), .ref (v 16), .ref (v 17), .ref (v 18), .ref (v 19), .ref (v 20), .int 0, .int 0, .int 0, .int 0, .ref (v 21), .ref (v 22), .ref (v 23), .int 0, .int 0, .ref (v 24), .ref (v 25), .int 0, .int 0, .ref (v 26), .ref (v 27), .ref (v 28), .int 0, .int 0, .int 0])), ((v 0), .inl (K 0, 4, .inl fw)), ((v 1), .inl (K 0, 4, .inl (fun _ => 0))), ((v 2), .inl (K 3, 240, .inr (.inl (fun _ => 0)))), ((v 4), .inl (K 1, 1400, .inl (fun _ => 0))), ((v 5), .inl (K 0, 5, .inl (fun _ => 0))), ((v 6), .inl (K 0, 40, .inl (fun _ => 0))), ((v 7), .inl (K 0, 50, .inl (fun _ => 0))), ((v 8), .inl (K 0, 60, .inl (fun _ => 0))), ((v 9), .inl (K 0, 480, .inl (fun _ => 0))), ((v 10), .inl (K 0, 600, .inl (fun _ => 0))), ((v 11), .inl (K 2, 3, .inl (fun _ => 0)))] H := hP
  have hD : va_D A [(m0, .inr (12, [.int 0, .ref (v 0), .ref (v 1), .ref (v 2), .ref (v 3), .ref (v 4), .int 0, .int 0, .int 0, .int 0, .int 0, .long 0, .int 0, .int 0, .int 0, .int (-1), .ref (v 5), .ref (v 6), .ref (v 7), .ref (v 8), .ref (v 9), .ref (v 10), .ref (v 11), .ref (v 12), .ref (v 13), .ref (v 14), .ref (v 15), .ref (v 16), .ref (v 17), .ref (v 18), .ref (v 19), .ref (v 20), .int 0, .int 0, .int 0, .int 0, .ref (v 21), .ref (v 22), .ref (v 23), .int 0, .int 0, .ref (v 24), .ref (v 25), .int 0, .int 0, .ref (v 26), .ref (v 27), .ref (v 28), .int 0, .int 0, .int 0])), ((v 0), .inl (K 0, 4, .inl fw)), ((v 1), .inl (K 0, 4, .inl (fun _ => 0))), ((v 2), .inl (K 3, 240, .inr (.inl (fun _ => 0)))), ((v 4), .inl (K 1, 1400, .inl (fun _ => 0))), ((v 5), .inl (K 0, 5, .inl (fun _ => 0))), ((v 6), .inl (K 0, 40, .inl (fun _ => 0))), ((v 7), .inl (K 0, 50, .inl (fun _ => 0))), ((v 8), .inl (K 0, 60, .inl (fun _ => 0))), ((v 9), .inl (K 0, 480, .inl (fun _ => 0))), ((v 10), .inl (K 0, 600, .inl (fun _ => 0))), ((v 11), .inl (K 2, 3, .inl (fun _ => 0)))] := hD
  refine lv_aload_n hx hb dL_law_440 rfl (lv_at hl 1 rfl) ?_
  refine lv_aload_n hx hb dL_law_441 rfl (lv_at hl 3 rfl) ?_
  refine lv_iload_n hx hb dL_law_442 rfl (lv_at hl 0 rfl) ?_
  refine lv_iconst (v := 1) hx hb dL_law_443 (by decide) ?_
  refine lv_iadd hx hb dL_law_444 ?_
  refine fn_top 1 (by decide) ?_
  refine va_sld hx hb hX hbl hbA hS (by unfold vp_in; decide) dL_law_445 ?_
  refine fn_top (xs 1) (congrArg xs (by decide)) ?_
  refine lv_aload_n hx hb dL_law_446 rfl (lv_at hl 3 rfl) ?_
  refine fn_at 447 rfl ?_
  refine lv_iload_n hx hb dL_law_447 rfl (lv_at hl 0 rfl) ?_
  refine lv_iconst (v := 2) hx hb dL_law_448 (by decide) ?_
  refine lv_iadd hx hb dL_law_449 ?_
  refine fn_top 2 (by decide) ?_
  refine va_sld hx hb hX hbl hbA hS (by unfold vp_in; decide) dL_law_450 ?_
  refine fn_top (xs 2) (congrArg xs (by decide)) ?_
  refine fn_goi (wc := [(m0, .inr (12, [.int 0, .ref (v 0), .ref (v 1), .ref (v 2), .ref (v 3), .ref (v 4), .int 0, .int 0, .int 0, .int 0, .int 0, .long 0, .int 0, .int 0, .int 0, .int (-1), .ref (v 5), .ref (v 6), .ref (v 7), .ref (v 8), .ref (v 9), .ref (v 10), .ref (v 11), .ref (v 12), .ref (v 13), .ref (v 14), .ref (v 15), .ref (v 16), .ref (v 17), .ref (v 18), .ref (v 19), .ref (v 20), .int 0, .int 0, .int 0, .int 0, .ref (v 21), .ref (v 22), .ref (v 23), .int 0, .int 0, .ref (v 24), .ref (v 25), .int 0, .int 0, .ref (v 26), .ref (v 27), .ref (v 28), .int 0, .int 0, .int 0])), ((v 5), .inl (K 0, 5, .inl (fun _ => 0))), ((v 6), .inl (K 0, 40, .inl (fun _ => 0)))]) (wr := []) hK hP hD hS hA [0, 5, 6] [] rfl rfl (by decide) (fun hp => va_runV (C := RX12) (As := [.int (xs 1), .int (xs 2)]) (rest := [.int (-2)]) ⟨hx, hb, hml, hown, hts⟩ (c_X12_page (l := l) (D := D) (K := K) (m0 := (m0)) (p0 := ((xs 1))) (p1 := ((xs 2))) (fm := ([.int 0, .ref (v 0), .ref (v 1), .ref (v 2), .ref (v 3), .ref (v 4), .int 0, .int 0, .int 0, .int 0, .int 0, .long 0, .int 0, .int 0, .int 0, .int (-1), .ref (v 5), .ref (v 6), .ref (v 7), .ref (v 8), .ref (v 9), .ref (v 10), .ref (v 11), .ref (v 12), .ref (v 13), .ref (v 14), .ref (v 15), .ref (v 16), .ref (v 17), .ref (v 18), .ref (v 19), .ref (v 20), .int 0, .int 0, .int 0, .int 0, .ref (v 21), .ref (v 22), .ref (v 23), .int 0, .int 0, .ref (v 24), .ref (v 25), .int 0, .int 0, .ref (v 26), .ref (v 27), .ref (v 28), .int 0, .int 0, .int 0])) (hmn := rfl) (al := ((v 5))) (hm16 := rfl) (ah := ((v 6))) (hm17 := rfl) (fl := (fun _ => 0)) (hfl := (fun _ => rfl)) (fh := (fun _ => 0)) (hfh := (fun _ => rfl)) _) (cwV 2 hts (fn_ginV (fn_gin wd_1539) wd_1536 wd_1537 wd_1538 wd_13) rfl rfl rfl (by decide +kernel) ⟨Nat.le_of_ble_eq_true rfl, Nat.le_of_ble_eq_true rfl⟩) ⟨fn_blind, va_recv hK.1 hP (ci := 12) (q0 := 0) rfl rfl, hp⟩ rfl rfl hl.1 rfl (lv_room (Nat.le_of_ble_eq_true rfl)) dL_law_451 ⟨Nat.le_of_ble_eq_true rfl, Nat.le_of_ble_eq_true rfl⟩) (fun r4 u3 H locs hwu3 hP hD hS => ?_)
  have r4_e : r4 = (-2) := hwu3
  subst r4_e
  have hP : va_P D vwCl [] H := hP
  have hD : va_D A [] := hD
  refine lv_icmp_eq (tgt := 1996) hx hb dL_law_454 (by decide) (fun _ => ?_) (fun h9 => absurd (by decide) h9)
  refine lv_iinc (v := 6) (lv' := [(3, .int 6), (2, .ref m0), (1, .ref x0), (0, .ref b)]) hx hb dL_law_1996 hl (k := 0) rfl (by decide) (by decide) rfl (fun ls hl => ?_)
  refine lv_goto (tgt := 18) hx hb dL_law_1999 (by decide) ?_
  refine lv_iload_n hx hb dL_law_18 rfl (lv_at hl 0 rfl) ?_
  refine lv_aload_n hx hb dL_law_19 rfl (lv_at hl 3 rfl) ?_
  refine va_slen hx hb hX hbl hbA hS dL_law_20 ?_
  refine fn_top 6 (by decide) ?_
  refine lv_bipush (v := 6) hx hb dL_law_21 (by decide) ?_
  refine lv_isub hx hb dL_law_23 ?_
  refine fn_top 0 (by decide) ?_
  refine lv_icmp_gt (tgt := 2002) hx hb dL_law_24 (by decide) (fun _ => ?_) (fun h9 => absurd (by decide) h9)
  refine lv_iconst (v := 1) hx hb dL_law_2002 (by decide) ?_
  refine va_forget (fun q hq => by have h9 := hS.2.2 q hq; rw [← hAe] at h9; exact h9) ?_
  refine W.widen (k := 600000) (n := 7302250) (Nat.le_of_ble_eq_true rfl) (Nat.le_of_ble_eq_true rfl) ?_
  exact lw_ret hx hb hr hlocks dL_law_2003
theorem dL_law_459 : decode cL_law 459 = .ok (.aload_n 1, 1) := by decide +kernel
theorem dL_law_460 : decode cL_law 460 = .ok (.aload_n 0, 1) := by decide +kernel
theorem dL_law_461 : decode cL_law 461 = .ok (.iload_n 3, 1) := by decide +kernel
theorem dL_law_462 : decode cL_law 462 = .ok (.iconst 1, 1) := by decide +kernel
theorem dL_law_463 : decode cL_law 463 = .ok (.iadd, 1) := by decide +kernel
theorem dL_law_464 : decode cL_law 464 = .ok (.iaload, 1) := by decide +kernel
theorem dL_law_465 : decode cL_law 465 = .ok (.aload_n 0, 1) := by decide +kernel
theorem dL_law_466 : decode cL_law 466 = .ok (.iload_n 3, 1) := by decide +kernel
theorem dL_law_467 : decode cL_law 467 = .ok (.iconst 2, 1) := by decide +kernel
theorem dL_law_468 : decode cL_law 468 = .ok (.iadd, 1) := by decide +kernel
theorem dL_law_469 : decode cL_law 469 = .ok (.iaload, 1) := by decide +kernel
theorem dL_law_470 : decode cL_law 470 = .ok (.invokevirtual 37, 3) := by decide +kernel
theorem dL_law_473 : decode cL_law 473 = .ok (.aload_n 2, 1) := by decide +kernel
theorem dL_law_474 : decode cL_law 474 = .ok (.aload_n 0, 1) := by decide +kernel
theorem dL_law_475 : decode cL_law 475 = .ok (.iload_n 3, 1) := by decide +kernel
theorem dL_law_476 : decode cL_law 476 = .ok (.iconst 1, 1) := by decide +kernel
theorem dL_law_477 : decode cL_law 477 = .ok (.iadd, 1) := by decide +kernel
theorem dL_law_478 : decode cL_law 478 = .ok (.iaload, 1) := by decide +kernel
theorem dL_law_479 : decode cL_law 479 = .ok (.aload_n 0, 1) := by decide +kernel
theorem dL_law_480 : decode cL_law 480 = .ok (.iload_n 3, 1) := by decide +kernel
theorem dL_law_481 : decode cL_law 481 = .ok (.iconst 2, 1) := by decide +kernel
theorem dL_law_482 : decode cL_law 482 = .ok (.iadd, 1) := by decide +kernel
theorem dL_law_483 : decode cL_law 483 = .ok (.iaload, 1) := by decide +kernel
theorem dL_law_484 : decode cL_law 484 = .ok (.invokevirtual 40, 3) := by decide +kernel
theorem dL_law_487 : decode cL_law 487 = .ok (.if_icmp .eq 1509, 3) := by decide +kernel
set_option maxHeartbeats 4000000 in
set_option maxRecDepth 100000 in
theorem law_5 {p : Program} {l : Launch} {e : Env} {s : State} {m : MethodId} {below : List Frame} {meth : Method} {c : Code} {b : Nat} {xs : Nat → Int32} (hx : p.tables.exec = Jvm.exec) (hb : c.code = cL_law) (hr : meth.sig.returnType = ret) (hml : c.maxLocals = 4) (hown : s.vm.findClass RL = some m.cls) (hts : ∀ w ∈ fn_big, w.before #[Value.ref b] s = true) (hX : va_X b 6 xs s s.heap) (hbl : b < s.heap.size) (hlocks : meth.locks = false) {D : va_G} {K : Nat → ClassId} (hK : fn_KK D K s) {x0 m0 : Nat} {u v : Nat → Nat} {fw : Nat → Int32} (hfw : ∀ j, j < 4 → fw j = -1) {A : Nat → Prop} (hAe : (fun q : Nat => s.heap.size ≤ q) = A) : ∀ (H : Heap) (locs : List Loc) (ls : Array Slot), va_P D vwCl (fn_world K x0 m0 u v fw) H → va_D A (fn_world K x0 m0 u v fw) → va_S A s.heap H locs → lv_has ls 4 [(3, .int 0), (2, .ref m0), (1, .ref x0), (0, .ref b)] → W p l e room_1 s m #[Value.ref b] below meth c H locs 144 12710 (lw_Z below #[Value.ref b] s) (F0 m 459 ls []) := by
  intro H locs ls hP hD hS hl
  have hA : ∀ q : Nat, s.heap.size ≤ q → A q := fun q h => by rw [← hAe]; exact h
  have hbA : ¬ A b := by rw [← hAe]; exact Nat.not_le.mpr hbl
  refine lv_aload_n hx hb dL_law_459 rfl (lv_at hl 2 rfl) ?_
  refine lv_aload_n hx hb dL_law_460 rfl (lv_at hl 3 rfl) ?_
  refine lv_iload_n hx hb dL_law_461 rfl (lv_at hl 0 rfl) ?_
  refine lv_iconst (v := 1) hx hb dL_law_462 (by decide) ?_
  refine lv_iadd hx hb dL_law_463 ?_
  refine fn_top 1 (by decide) ?_
  refine va_sld hx hb hX hbl hbA hS (by unfold vp_in; decide) dL_law_464 ?_
  refine fn_top (xs 1) (congrArg xs (by decide)) ?_
  refine lv_aload_n hx hb dL_law_465 rfl (lv_at hl 3 rfl) ?_
  refine lv_iload_n hx hb dL_law_466 rfl (lv_at hl 0 rfl) ?_
  refine lv_iconst (v := 2) hx hb dL_law_467 (by decide) ?_
  refine lv_iadd hx hb dL_law_468 ?_
  refine fn_top 2 (by decide) ?_
  refine va_sld hx hb hX hbl hbA hS (by unfold vp_in; decide) dL_law_469 ?_
  refine fn_top (xs 2) (congrArg xs (by decide)) ?_
  refine fn_goi (wc := [(x0, .inr (11, [.ref (u 0), .ref (u 10), .ref (u 17), .ref (u 25), .ref (u 26), .ref (u 27), .ref (u 28), .ref (u 29), .ref (u 34), .ref (u 39), .ref (u 43), .ref (u 51), .ref (u 55)])), ((u 10), .inr (7, [.int 0, .int 0, .int 0, .int 0, .int 0, .int 0, .int 0, .int 0, .int 0, .ref (u 11), .ref (u 12), .ref (u 13), .ref (u 14), .ref (u 15), .ref (u 16)]))]) (wr := [(m0, .inr (12, [.int 0, .ref (v 0), .ref (v 1), .ref (v 2), .ref (v 3), .ref (v 4), .int 0, .int 0, .int 0, .int 0, .int 0, .long 0, .int 0, .int 0, .int 0, .int (-1), .ref (v 5), .ref (v 6), .ref (v 7), .ref (v 8), .ref (v 9), .ref (v 10), .ref (v 11), .ref (v 12), .ref (v 13), .ref (v 14), .ref (v 15), .ref (v 16), .ref (v 17), .ref (v 18), .ref (v 19), .ref (v 20), .int 0, .int 0, .int 0, .int 0, .ref (v 21), .ref (v 22), .ref (v 23), .int 0, .int 0, .ref (v 24), .ref (v 25), .int 0, .int 0, .ref (v 26), .ref (v 27), .ref (v 28), .int 0, .int 0, .int 0])), ((v 0), .inl (K 0, 4, .inl fw)), ((v 1), .inl (K 0, 4, .inl (fun _ => 0))), ((v 2), .inl (K 3, 240, .inr (.inl (fun _ => 0)))), ((v 4), .inl (K 1, 1400, .inl (fun _ => 0))), ((v 5), .inl (K 0, 5, .inl (fun _ => 0))), ((v 6), .inl (K 0, 40, .inl (fun _ => 0))), ((v 7), .inl (K 0, 50, .inl (fun _ => 0))), ((v 8), .inl (K 0, 60, .inl (fun _ => 0))), ((v 9), .inl (K 0, 480, .inl (fun _ => 0))), ((v 10), .inl (K 0, 600, .inl (fun _ => 0))), ((v 11), .inl (K 2, 3, .inl (fun _ => 0)))]) hK hP hD hS hA [0, 11] [88, 89, 90, 91, 92, 93, 94, 95, 96, 97, 98, 99] rfl rfl (by decide) (fun hp => va_runV (C := RX11) (As := [.int (xs 1), .int (xs 2)]) (rest := []) ⟨hx, hb, hml, hown, hts⟩ (c_X11_book (l := l) (D := D) (K := K) (x0 := (x0)) (p0 := ((xs 1))) (p1 := ((xs 2))) (fx := ([.ref (u 0), .ref (u 10), .ref (u 17), .ref (u 25), .ref (u 26), .ref (u 27), .ref (u 28), .ref (u 29), .ref (u 34), .ref (u 39), .ref (u 43), .ref (u 51), .ref (u 55)])) (t0 := ((u 10))) (hx1 := rfl) (ft := ([.int 0, .int 0, .int 0, .int 0, .int 0, .int 0, .int 0, .int 0, .int 0, .ref (u 11), .ref (u 12), .ref (u 13), .ref (u 14), .ref (u 15), .ref (u 16)])) (ht0 := rfl) (ht3 := rfl) (ht4 := rfl) (ht5 := rfl) _) (cwV 2 hts (fn_ginV (fn_gin wd_670) wd_667 wd_668 wd_669 wd_1) rfl rfl rfl (by decide +kernel) ⟨Nat.le_of_ble_eq_true rfl, Nat.le_of_ble_eq_true rfl⟩) ⟨fn_blind, va_recv hK.1 hP (ci := 11) (q0 := 0) rfl rfl, hp⟩ rfl rfl hl.1 rfl (lv_room (Nat.le_of_ble_eq_true rfl)) dL_law_470 ⟨Nat.le_of_ble_eq_true rfl, Nat.le_of_ble_eq_true rfl⟩) (fun r2 u1 H locs hwu1 hP hD hS => ?_)
  have r2_e : r2 = (-2) := hwu1
  subst r2_e
  have hP : va_P D vwCl [(m0, .inr (12, [.int 0, .ref (v 0), .ref (v 1), .ref (v 2), .ref (v 3), .ref (v 4), .int 0, .int 0, .int 0, .int 0, .int 0, .long 0, .int 0, .int 0, .int 0, .int (-1), .ref (v 5), .ref (v 6), .ref (v 7), .ref (v 8), .ref (v 9), .ref (v 10), .ref (v 11), .ref (v 12), .ref (v 13), .ref (v 14), .ref (v 15), .ref (v 16), .ref (v 17), .ref (v 18), .ref (v 19), .ref (v 20), .int 0, .int 0, .int 0, .int 0, .ref (v 21), .ref (v 22), .ref (v 23), .int 0, .int 0, .ref (v 24), .ref (v 25), .int 0, .int 0, .ref (v 26), .ref (v 27), .ref (v 28), .int 0, .int 0, .int 0])), ((v 0), .inl (K 0, 4, .inl fw)), ((v 1), .inl (K 0, 4, .inl (fun _ => 0))), ((v 2), .inl (K 3, 240, .inr (.inl (fun _ => 0)))), ((v 4), .inl (K 1, 1400, .inl (fun _ => 0))), ((v 5), .inl (K 0, 5, .inl (fun _ => 0))), ((v 6), .inl (K 0, 40, .inl (fun _ => 0))), ((v 7), .inl (K 0, 50, .inl (fun _ => 0))), ((v 8), .inl (K 0, 60, .inl (fun _ => 0))), ((v 9), .inl (K 0, 480, .inl (fun _ => 0))), ((v 10), .inl (K 0, 600, .inl (fun _ => 0))), ((v 11), .inl (K 2, 3, .inl (fun _ => 0)))] H := hP
  have hD : va_D A [(m0, .inr (12, [.int 0, .ref (v 0), .ref (v 1), .ref (v 2), .ref (v 3), .ref (v 4), .int 0, .int 0, .int 0, .int 0, .int 0, .long 0, .int 0, .int 0, .int 0, .int (-1), .ref (v 5), .ref (v 6), .ref (v 7), .ref (v 8), .ref (v 9), .ref (v 10), .ref (v 11), .ref (v 12), .ref (v 13), .ref (v 14), .ref (v 15), .ref (v 16), .ref (v 17), .ref (v 18), .ref (v 19), .ref (v 20), .int 0, .int 0, .int 0, .int 0, .ref (v 21), .ref (v 22), .ref (v 23), .int 0, .int 0, .ref (v 24), .ref (v 25), .int 0, .int 0, .ref (v 26), .ref (v 27), .ref (v 28), .int 0, .int 0, .int 0])), ((v 0), .inl (K 0, 4, .inl fw)), ((v 1), .inl (K 0, 4, .inl (fun _ => 0))), ((v 2), .inl (K 3, 240, .inr (.inl (fun _ => 0)))), ((v 4), .inl (K 1, 1400, .inl (fun _ => 0))), ((v 5), .inl (K 0, 5, .inl (fun _ => 0))), ((v 6), .inl (K 0, 40, .inl (fun _ => 0))), ((v 7), .inl (K 0, 50, .inl (fun _ => 0))), ((v 8), .inl (K 0, 60, .inl (fun _ => 0))), ((v 9), .inl (K 0, 480, .inl (fun _ => 0))), ((v 10), .inl (K 0, 600, .inl (fun _ => 0))), ((v 11), .inl (K 2, 3, .inl (fun _ => 0)))] := hD
  refine lv_aload_n hx hb dL_law_473 rfl (lv_at hl 1 rfl) ?_
  refine lv_aload_n hx hb dL_law_474 rfl (lv_at hl 3 rfl) ?_
  refine lv_iload_n hx hb dL_law_475 rfl (lv_at hl 0 rfl) ?_
  refine lv_iconst (v := 1) hx hb dL_law_476 (by decide) ?_
  refine lv_iadd hx hb dL_law_477 ?_
  refine fn_top 1 (by decide) ?_
  refine va_sld hx hb hX hbl hbA hS (by unfold vp_in; decide) dL_law_478 ?_
  refine fn_top (xs 1) (congrArg xs (by decide)) ?_
  refine lv_aload_n hx hb dL_law_479 rfl (lv_at hl 3 rfl) ?_
  refine fn_at 480 rfl ?_
  refine lv_iload_n hx hb dL_law_480 rfl (lv_at hl 0 rfl) ?_
  refine lv_iconst (v := 2) hx hb dL_law_481 (by decide) ?_
  refine lv_iadd hx hb dL_law_482 ?_
  refine fn_top 2 (by decide) ?_
  refine va_sld hx hb hX hbl hbA hS (by unfold vp_in; decide) dL_law_483 ?_
  refine fn_top (xs 2) (congrArg xs (by decide)) ?_
  refine fn_goi (wc := [(m0, .inr (12, [.int 0, .ref (v 0), .ref (v 1), .ref (v 2), .ref (v 3), .ref (v 4), .int 0, .int 0, .int 0, .int 0, .int 0, .long 0, .int 0, .int 0, .int 0, .int (-1), .ref (v 5), .ref (v 6), .ref (v 7), .ref (v 8), .ref (v 9), .ref (v 10), .ref (v 11), .ref (v 12), .ref (v 13), .ref (v 14), .ref (v 15), .ref (v 16), .ref (v 17), .ref (v 18), .ref (v 19), .ref (v 20), .int 0, .int 0, .int 0, .int 0, .ref (v 21), .ref (v 22), .ref (v 23), .int 0, .int 0, .ref (v 24), .ref (v 25), .int 0, .int 0, .ref (v 26), .ref (v 27), .ref (v 28), .int 0, .int 0, .int 0])), ((v 5), .inl (K 0, 5, .inl (fun _ => 0))), ((v 6), .inl (K 0, 40, .inl (fun _ => 0)))]) (wr := []) hK hP hD hS hA [0, 5, 6] [] rfl rfl (by decide) (fun hp => va_runV (C := RX12) (As := [.int (xs 1), .int (xs 2)]) (rest := [.int (-2)]) ⟨hx, hb, hml, hown, hts⟩ (c_X12_book (l := l) (D := D) (K := K) (m0 := (m0)) (p0 := ((xs 1))) (p1 := ((xs 2))) (fm := ([.int 0, .ref (v 0), .ref (v 1), .ref (v 2), .ref (v 3), .ref (v 4), .int 0, .int 0, .int 0, .int 0, .int 0, .long 0, .int 0, .int 0, .int 0, .int (-1), .ref (v 5), .ref (v 6), .ref (v 7), .ref (v 8), .ref (v 9), .ref (v 10), .ref (v 11), .ref (v 12), .ref (v 13), .ref (v 14), .ref (v 15), .ref (v 16), .ref (v 17), .ref (v 18), .ref (v 19), .ref (v 20), .int 0, .int 0, .int 0, .int 0, .ref (v 21), .ref (v 22), .ref (v 23), .int 0, .int 0, .ref (v 24), .ref (v 25), .int 0, .int 0, .ref (v 26), .ref (v 27), .ref (v 28), .int 0, .int 0, .int 0])) (hmn := rfl) (al := ((v 5))) (hm16 := rfl) (ah := ((v 6))) (hm17 := rfl) (fl := (fun _ => 0)) (hfl := (fun _ => rfl)) (fh := (fun _ => 0)) (hfh := (fun _ => rfl)) _) (cwV 2 hts (fn_ginV (fn_gin wd_1567) wd_1564 wd_1565 wd_1566 wd_13) rfl rfl rfl (by decide +kernel) ⟨Nat.le_of_ble_eq_true rfl, Nat.le_of_ble_eq_true rfl⟩) ⟨fn_blind, va_recv hK.1 hP (ci := 12) (q0 := 0) rfl rfl, hp⟩ rfl rfl hl.1 rfl (lv_room (Nat.le_of_ble_eq_true rfl)) dL_law_484 ⟨Nat.le_of_ble_eq_true rfl, Nat.le_of_ble_eq_true rfl⟩) (fun r4 u3 H locs hwu3 hP hD hS => ?_)
  have r4_e : r4 = (-2) := hwu3
  subst r4_e
  have hP : va_P D vwCl [] H := hP
  have hD : va_D A [] := hD
  refine lv_icmp_eq (tgt := 1996) hx hb dL_law_487 (by decide) (fun _ => ?_) (fun h9 => absurd (by decide) h9)
  refine lv_iinc (v := 6) (lv' := [(3, .int 6), (2, .ref m0), (1, .ref x0), (0, .ref b)]) hx hb dL_law_1996 hl (k := 0) rfl (by decide) (by decide) rfl (fun ls hl => ?_)
  refine lv_goto (tgt := 18) hx hb dL_law_1999 (by decide) ?_
  refine lv_iload_n hx hb dL_law_18 rfl (lv_at hl 0 rfl) ?_
  refine lv_aload_n hx hb dL_law_19 rfl (lv_at hl 3 rfl) ?_
  refine va_slen hx hb hX hbl hbA hS dL_law_20 ?_
  refine fn_top 6 (by decide) ?_
  refine lv_bipush (v := 6) hx hb dL_law_21 (by decide) ?_
  refine lv_isub hx hb dL_law_23 ?_
  refine fn_top 0 (by decide) ?_
  refine lv_icmp_gt (tgt := 2002) hx hb dL_law_24 (by decide) (fun _ => ?_) (fun h9 => absurd (by decide) h9)
  refine lv_iconst (v := 1) hx hb dL_law_2002 (by decide) ?_
  refine va_forget (fun q hq => by have h9 := hS.2.2 q hq; rw [← hAe] at h9; exact h9) ?_
  refine W.widen (k := 600000) (n := 7302250) (Nat.le_of_ble_eq_true rfl) (Nat.le_of_ble_eq_true rfl) ?_
  exact lw_ret hx hb hr hlocks dL_law_2003
theorem dL_law_492 : decode cL_law 492 = .ok (.aload_n 1, 1) := by decide +kernel
theorem dL_law_493 : decode cL_law 493 = .ok (.aload_n 0, 1) := by decide +kernel
theorem dL_law_494 : decode cL_law 494 = .ok (.iload_n 3, 1) := by decide +kernel
theorem dL_law_495 : decode cL_law 495 = .ok (.iconst 1, 1) := by decide +kernel
theorem dL_law_496 : decode cL_law 496 = .ok (.iadd, 1) := by decide +kernel
theorem dL_law_497 : decode cL_law 497 = .ok (.iaload, 1) := by decide +kernel
theorem dL_law_498 : decode cL_law 498 = .ok (.aload_n 0, 1) := by decide +kernel
theorem dL_law_499 : decode cL_law 499 = .ok (.iload_n 3, 1) := by decide +kernel
theorem dL_law_500 : decode cL_law 500 = .ok (.iconst 2, 1) := by decide +kernel
theorem dL_law_501 : decode cL_law 501 = .ok (.iadd, 1) := by decide +kernel
theorem dL_law_502 : decode cL_law 502 = .ok (.iaload, 1) := by decide +kernel
theorem dL_law_503 : decode cL_law 503 = .ok (.invokevirtual 41, 3) := by decide +kernel
theorem dL_law_506 : decode cL_law 506 = .ok (.aload_n 2, 1) := by decide +kernel
theorem dL_law_507 : decode cL_law 507 = .ok (.aload_n 0, 1) := by decide +kernel
theorem dL_law_508 : decode cL_law 508 = .ok (.iload_n 3, 1) := by decide +kernel
theorem dL_law_509 : decode cL_law 509 = .ok (.iconst 1, 1) := by decide +kernel
theorem dL_law_510 : decode cL_law 510 = .ok (.iadd, 1) := by decide +kernel
theorem dL_law_511 : decode cL_law 511 = .ok (.iaload, 1) := by decide +kernel
theorem dL_law_512 : decode cL_law 512 = .ok (.aload_n 0, 1) := by decide +kernel
theorem dL_law_513 : decode cL_law 513 = .ok (.iload_n 3, 1) := by decide +kernel
theorem dL_law_514 : decode cL_law 514 = .ok (.iconst 2, 1) := by decide +kernel
theorem dL_law_515 : decode cL_law 515 = .ok (.iadd, 1) := by decide +kernel
theorem dL_law_516 : decode cL_law 516 = .ok (.iaload, 1) := by decide +kernel
theorem dL_law_517 : decode cL_law 517 = .ok (.invokevirtual 44, 3) := by decide +kernel
theorem dL_law_520 : decode cL_law 520 = .ok (.if_icmp .eq 1476, 3) := by decide +kernel
set_option maxHeartbeats 4000000 in
set_option maxRecDepth 100000 in
theorem law_6 {p : Program} {l : Launch} {e : Env} {s : State} {m : MethodId} {below : List Frame} {meth : Method} {c : Code} {b : Nat} {xs : Nat → Int32} (hx : p.tables.exec = Jvm.exec) (hb : c.code = cL_law) (hr : meth.sig.returnType = ret) (hml : c.maxLocals = 4) (hown : s.vm.findClass RL = some m.cls) (hts : ∀ w ∈ fn_big, w.before #[Value.ref b] s = true) (hX : va_X b 6 xs s s.heap) (hbl : b < s.heap.size) (hlocks : meth.locks = false) {D : va_G} {K : Nat → ClassId} (hK : fn_KK D K s) {x0 m0 : Nat} {u v : Nat → Nat} {fw : Nat → Int32} (hfw : ∀ j, j < 4 → fw j = -1) {A : Nat → Prop} (hAe : (fun q : Nat => s.heap.size ≤ q) = A) : ∀ (H : Heap) (locs : List Loc) (ls : Array Slot), va_P D vwCl (fn_world K x0 m0 u v fw) H → va_D A (fn_world K x0 m0 u v fw) → va_S A s.heap H locs → lv_has ls 4 [(3, .int 0), (2, .ref m0), (1, .ref x0), (0, .ref b)] → W p l e room_1 s m #[Value.ref b] below meth c H locs 144 12710 (lw_Z below #[Value.ref b] s) (F0 m 492 ls []) := by
  intro H locs ls hP hD hS hl
  have hA : ∀ q : Nat, s.heap.size ≤ q → A q := fun q h => by rw [← hAe]; exact h
  have hbA : ¬ A b := by rw [← hAe]; exact Nat.not_le.mpr hbl
  refine lv_aload_n hx hb dL_law_492 rfl (lv_at hl 2 rfl) ?_
  refine lv_aload_n hx hb dL_law_493 rfl (lv_at hl 3 rfl) ?_
  refine lv_iload_n hx hb dL_law_494 rfl (lv_at hl 0 rfl) ?_
  refine lv_iconst (v := 1) hx hb dL_law_495 (by decide) ?_
  refine lv_iadd hx hb dL_law_496 ?_
  refine fn_top 1 (by decide) ?_
  refine va_sld hx hb hX hbl hbA hS (by unfold vp_in; decide) dL_law_497 ?_
  refine fn_top (xs 1) (congrArg xs (by decide)) ?_
  refine lv_aload_n hx hb dL_law_498 rfl (lv_at hl 3 rfl) ?_
  refine lv_iload_n hx hb dL_law_499 rfl (lv_at hl 0 rfl) ?_
  refine lv_iconst (v := 2) hx hb dL_law_500 (by decide) ?_
  refine lv_iadd hx hb dL_law_501 ?_
  refine fn_top 2 (by decide) ?_
  refine va_sld hx hb hX hbl hbA hS (by unfold vp_in; decide) dL_law_502 ?_
  refine fn_top (xs 2) (congrArg xs (by decide)) ?_
  refine fn_goi (wc := [(x0, .inr (11, [.ref (u 0), .ref (u 10), .ref (u 17), .ref (u 25), .ref (u 26), .ref (u 27), .ref (u 28), .ref (u 29), .ref (u 34), .ref (u 39), .ref (u 43), .ref (u 51), .ref (u 55)])), ((u 10), .inr (7, [.int 0, .int 0, .int 0, .int 0, .int 0, .int 0, .int 0, .int 0, .int 0, .ref (u 11), .ref (u 12), .ref (u 13), .ref (u 14), .ref (u 15), .ref (u 16)]))]) (wr := [(m0, .inr (12, [.int 0, .ref (v 0), .ref (v 1), .ref (v 2), .ref (v 3), .ref (v 4), .int 0, .int 0, .int 0, .int 0, .int 0, .long 0, .int 0, .int 0, .int 0, .int (-1), .ref (v 5), .ref (v 6), .ref (v 7), .ref (v 8), .ref (v 9), .ref (v 10), .ref (v 11), .ref (v 12), .ref (v 13), .ref (v 14), .ref (v 15), .ref (v 16), .ref (v 17), .ref (v 18), .ref (v 19), .ref (v 20), .int 0, .int 0, .int 0, .int 0, .ref (v 21), .ref (v 22), .ref (v 23), .int 0, .int 0, .ref (v 24), .ref (v 25), .int 0, .int 0, .ref (v 26), .ref (v 27), .ref (v 28), .int 0, .int 0, .int 0])), ((v 0), .inl (K 0, 4, .inl fw)), ((v 1), .inl (K 0, 4, .inl (fun _ => 0))), ((v 2), .inl (K 3, 240, .inr (.inl (fun _ => 0)))), ((v 4), .inl (K 1, 1400, .inl (fun _ => 0))), ((v 5), .inl (K 0, 5, .inl (fun _ => 0))), ((v 6), .inl (K 0, 40, .inl (fun _ => 0))), ((v 7), .inl (K 0, 50, .inl (fun _ => 0))), ((v 8), .inl (K 0, 60, .inl (fun _ => 0))), ((v 9), .inl (K 0, 480, .inl (fun _ => 0))), ((v 10), .inl (K 0, 600, .inl (fun _ => 0))), ((v 11), .inl (K 2, 3, .inl (fun _ => 0)))]) hK hP hD hS hA [0, 11] [88, 89, 90, 91, 92, 93, 94, 95, 96, 97, 98, 99] rfl rfl (by decide) (fun hp => va_runV (C := RX11) (As := [.int (xs 1), .int (xs 2)]) (rest := []) ⟨hx, hb, hml, hown, hts⟩ (c_X11_leaf (l := l) (D := D) (K := K) (x0 := (x0)) (p0 := ((xs 1))) (p1 := ((xs 2))) (fx := ([.ref (u 0), .ref (u 10), .ref (u 17), .ref (u 25), .ref (u 26), .ref (u 27), .ref (u 28), .ref (u 29), .ref (u 34), .ref (u 39), .ref (u 43), .ref (u 51), .ref (u 55)])) (t0 := ((u 10))) (hx1 := rfl) (ft := ([.int 0, .int 0, .int 0, .int 0, .int 0, .int 0, .int 0, .int 0, .int 0, .ref (u 11), .ref (u 12), .ref (u 13), .ref (u 14), .ref (u 15), .ref (u 16)])) (ht0 := rfl) (ht3 := rfl) (ht4 := rfl) (ht5 := rfl) _) (cwV 2 hts (fn_ginV (fn_gin wd_679) wd_676 wd_677 wd_678 wd_1) rfl rfl rfl (by decide +kernel) ⟨Nat.le_of_ble_eq_true rfl, Nat.le_of_ble_eq_true rfl⟩) ⟨fn_blind, va_recv hK.1 hP (ci := 11) (q0 := 0) rfl rfl, hp⟩ rfl rfl hl.1 rfl (lv_room (Nat.le_of_ble_eq_true rfl)) dL_law_503 ⟨Nat.le_of_ble_eq_true rfl, Nat.le_of_ble_eq_true rfl⟩) (fun r2 u1 H locs hwu1 hP hD hS => ?_)
  have r2_e : r2 = (-2) := hwu1
  subst r2_e
  have hP : va_P D vwCl [(m0, .inr (12, [.int 0, .ref (v 0), .ref (v 1), .ref (v 2), .ref (v 3), .ref (v 4), .int 0, .int 0, .int 0, .int 0, .int 0, .long 0, .int 0, .int 0, .int 0, .int (-1), .ref (v 5), .ref (v 6), .ref (v 7), .ref (v 8), .ref (v 9), .ref (v 10), .ref (v 11), .ref (v 12), .ref (v 13), .ref (v 14), .ref (v 15), .ref (v 16), .ref (v 17), .ref (v 18), .ref (v 19), .ref (v 20), .int 0, .int 0, .int 0, .int 0, .ref (v 21), .ref (v 22), .ref (v 23), .int 0, .int 0, .ref (v 24), .ref (v 25), .int 0, .int 0, .ref (v 26), .ref (v 27), .ref (v 28), .int 0, .int 0, .int 0])), ((v 0), .inl (K 0, 4, .inl fw)), ((v 1), .inl (K 0, 4, .inl (fun _ => 0))), ((v 2), .inl (K 3, 240, .inr (.inl (fun _ => 0)))), ((v 4), .inl (K 1, 1400, .inl (fun _ => 0))), ((v 5), .inl (K 0, 5, .inl (fun _ => 0))), ((v 6), .inl (K 0, 40, .inl (fun _ => 0))), ((v 7), .inl (K 0, 50, .inl (fun _ => 0))), ((v 8), .inl (K 0, 60, .inl (fun _ => 0))), ((v 9), .inl (K 0, 480, .inl (fun _ => 0))), ((v 10), .inl (K 0, 600, .inl (fun _ => 0))), ((v 11), .inl (K 2, 3, .inl (fun _ => 0)))] H := hP
  have hD : va_D A [(m0, .inr (12, [.int 0, .ref (v 0), .ref (v 1), .ref (v 2), .ref (v 3), .ref (v 4), .int 0, .int 0, .int 0, .int 0, .int 0, .long 0, .int 0, .int 0, .int 0, .int (-1), .ref (v 5), .ref (v 6), .ref (v 7), .ref (v 8), .ref (v 9), .ref (v 10), .ref (v 11), .ref (v 12), .ref (v 13), .ref (v 14), .ref (v 15), .ref (v 16), .ref (v 17), .ref (v 18), .ref (v 19), .ref (v 20), .int 0, .int 0, .int 0, .int 0, .ref (v 21), .ref (v 22), .ref (v 23), .int 0, .int 0, .ref (v 24), .ref (v 25), .int 0, .int 0, .ref (v 26), .ref (v 27), .ref (v 28), .int 0, .int 0, .int 0])), ((v 0), .inl (K 0, 4, .inl fw)), ((v 1), .inl (K 0, 4, .inl (fun _ => 0))), ((v 2), .inl (K 3, 240, .inr (.inl (fun _ => 0)))), ((v 4), .inl (K 1, 1400, .inl (fun _ => 0))), ((v 5), .inl (K 0, 5, .inl (fun _ => 0))), ((v 6), .inl (K 0, 40, .inl (fun _ => 0))), ((v 7), .inl (K 0, 50, .inl (fun _ => 0))), ((v 8), .inl (K 0, 60, .inl (fun _ => 0))), ((v 9), .inl (K 0, 480, .inl (fun _ => 0))), ((v 10), .inl (K 0, 600, .inl (fun _ => 0))), ((v 11), .inl (K 2, 3, .inl (fun _ => 0)))] := hD
  refine lv_aload_n hx hb dL_law_506 rfl (lv_at hl 1 rfl) ?_
  refine lv_aload_n hx hb dL_law_507 rfl (lv_at hl 3 rfl) ?_
  refine lv_iload_n hx hb dL_law_508 rfl (lv_at hl 0 rfl) ?_
  refine lv_iconst (v := 1) hx hb dL_law_509 (by decide) ?_
  refine lv_iadd hx hb dL_law_510 ?_
  refine fn_top 1 (by decide) ?_
  refine va_sld hx hb hX hbl hbA hS (by unfold vp_in; decide) dL_law_511 ?_
  refine fn_top (xs 1) (congrArg xs (by decide)) ?_
  refine lv_aload_n hx hb dL_law_512 rfl (lv_at hl 3 rfl) ?_
  refine fn_at 513 rfl ?_
  refine lv_iload_n hx hb dL_law_513 rfl (lv_at hl 0 rfl) ?_
  refine lv_iconst (v := 2) hx hb dL_law_514 (by decide) ?_
  refine lv_iadd hx hb dL_law_515 ?_
  refine fn_top 2 (by decide) ?_
  refine va_sld hx hb hX hbl hbA hS (by unfold vp_in; decide) dL_law_516 ?_
  refine fn_top (xs 2) (congrArg xs (by decide)) ?_
  refine fn_goi (wc := [(m0, .inr (12, [.int 0, .ref (v 0), .ref (v 1), .ref (v 2), .ref (v 3), .ref (v 4), .int 0, .int 0, .int 0, .int 0, .int 0, .long 0, .int 0, .int 0, .int 0, .int (-1), .ref (v 5), .ref (v 6), .ref (v 7), .ref (v 8), .ref (v 9), .ref (v 10), .ref (v 11), .ref (v 12), .ref (v 13), .ref (v 14), .ref (v 15), .ref (v 16), .ref (v 17), .ref (v 18), .ref (v 19), .ref (v 20), .int 0, .int 0, .int 0, .int 0, .ref (v 21), .ref (v 22), .ref (v 23), .int 0, .int 0, .ref (v 24), .ref (v 25), .int 0, .int 0, .ref (v 26), .ref (v 27), .ref (v 28), .int 0, .int 0, .int 0])), ((v 5), .inl (K 0, 5, .inl (fun _ => 0))), ((v 6), .inl (K 0, 40, .inl (fun _ => 0)))]) (wr := []) hK hP hD hS hA [0, 5, 6] [] rfl rfl (by decide) (fun hp => va_runV (C := RX12) (As := [.int (xs 1), .int (xs 2)]) (rest := [.int (-2)]) ⟨hx, hb, hml, hown, hts⟩ (c_X12_leaf (l := l) (D := D) (K := K) (m0 := (m0)) (p0 := ((xs 1))) (p1 := ((xs 2))) (fm := ([.int 0, .ref (v 0), .ref (v 1), .ref (v 2), .ref (v 3), .ref (v 4), .int 0, .int 0, .int 0, .int 0, .int 0, .long 0, .int 0, .int 0, .int 0, .int (-1), .ref (v 5), .ref (v 6), .ref (v 7), .ref (v 8), .ref (v 9), .ref (v 10), .ref (v 11), .ref (v 12), .ref (v 13), .ref (v 14), .ref (v 15), .ref (v 16), .ref (v 17), .ref (v 18), .ref (v 19), .ref (v 20), .int 0, .int 0, .int 0, .int 0, .ref (v 21), .ref (v 22), .ref (v 23), .int 0, .int 0, .ref (v 24), .ref (v 25), .int 0, .int 0, .ref (v 26), .ref (v 27), .ref (v 28), .int 0, .int 0, .int 0])) (hmn := rfl) (al := ((v 5))) (hm16 := rfl) (ah := ((v 6))) (hm17 := rfl) (fl := (fun _ => 0)) (hfl := (fun _ => rfl)) (fh := (fun _ => 0)) (hfh := (fun _ => rfl)) _) (cwV 2 hts (fn_ginV (fn_gin wd_1575) wd_1572 wd_1573 wd_1574 wd_13) rfl rfl rfl (by decide +kernel) ⟨Nat.le_of_ble_eq_true rfl, Nat.le_of_ble_eq_true rfl⟩) ⟨fn_blind, va_recv hK.1 hP (ci := 12) (q0 := 0) rfl rfl, hp⟩ rfl rfl hl.1 rfl (lv_room (Nat.le_of_ble_eq_true rfl)) dL_law_517 ⟨Nat.le_of_ble_eq_true rfl, Nat.le_of_ble_eq_true rfl⟩) (fun r4 u3 H locs hwu3 hP hD hS => ?_)
  have r4_e : r4 = (-2) := hwu3
  subst r4_e
  have hP : va_P D vwCl [] H := hP
  have hD : va_D A [] := hD
  refine lv_icmp_eq (tgt := 1996) hx hb dL_law_520 (by decide) (fun _ => ?_) (fun h9 => absurd (by decide) h9)
  refine lv_iinc (v := 6) (lv' := [(3, .int 6), (2, .ref m0), (1, .ref x0), (0, .ref b)]) hx hb dL_law_1996 hl (k := 0) rfl (by decide) (by decide) rfl (fun ls hl => ?_)
  refine lv_goto (tgt := 18) hx hb dL_law_1999 (by decide) ?_
  refine lv_iload_n hx hb dL_law_18 rfl (lv_at hl 0 rfl) ?_
  refine lv_aload_n hx hb dL_law_19 rfl (lv_at hl 3 rfl) ?_
  refine va_slen hx hb hX hbl hbA hS dL_law_20 ?_
  refine fn_top 6 (by decide) ?_
  refine lv_bipush (v := 6) hx hb dL_law_21 (by decide) ?_
  refine lv_isub hx hb dL_law_23 ?_
  refine fn_top 0 (by decide) ?_
  refine lv_icmp_gt (tgt := 2002) hx hb dL_law_24 (by decide) (fun _ => ?_) (fun h9 => absurd (by decide) h9)
  refine lv_iconst (v := 1) hx hb dL_law_2002 (by decide) ?_
  refine va_forget (fun q hq => by have h9 := hS.2.2 q hq; rw [← hAe] at h9; exact h9) ?_
  refine W.widen (k := 600000) (n := 7302250) (Nat.le_of_ble_eq_true rfl) (Nat.le_of_ble_eq_true rfl) ?_
  exact lw_ret hx hb hr hlocks dL_law_2003
theorem dL_law_525 : decode cL_law 525 = .ok (.aload_n 1, 1) := by decide +kernel
theorem dL_law_526 : decode cL_law 526 = .ok (.aload_n 0, 1) := by decide +kernel
theorem dL_law_527 : decode cL_law 527 = .ok (.iload_n 3, 1) := by decide +kernel
theorem dL_law_528 : decode cL_law 528 = .ok (.iconst 1, 1) := by decide +kernel
theorem dL_law_529 : decode cL_law 529 = .ok (.iadd, 1) := by decide +kernel
theorem dL_law_530 : decode cL_law 530 = .ok (.iaload, 1) := by decide +kernel
theorem dL_law_531 : decode cL_law 531 = .ok (.aload_n 0, 1) := by decide +kernel
theorem dL_law_532 : decode cL_law 532 = .ok (.iload_n 3, 1) := by decide +kernel
theorem dL_law_533 : decode cL_law 533 = .ok (.iconst 2, 1) := by decide +kernel
theorem dL_law_534 : decode cL_law 534 = .ok (.iadd, 1) := by decide +kernel
theorem dL_law_535 : decode cL_law 535 = .ok (.iaload, 1) := by decide +kernel
theorem dL_law_536 : decode cL_law 536 = .ok (.invokevirtual 45, 3) := by decide +kernel
theorem dL_law_539 : decode cL_law 539 = .ok (.aload_n 2, 1) := by decide +kernel
theorem dL_law_540 : decode cL_law 540 = .ok (.aload_n 0, 1) := by decide +kernel
theorem dL_law_541 : decode cL_law 541 = .ok (.iload_n 3, 1) := by decide +kernel
theorem dL_law_542 : decode cL_law 542 = .ok (.iconst 1, 1) := by decide +kernel
theorem dL_law_543 : decode cL_law 543 = .ok (.iadd, 1) := by decide +kernel
theorem dL_law_544 : decode cL_law 544 = .ok (.iaload, 1) := by decide +kernel
theorem dL_law_545 : decode cL_law 545 = .ok (.aload_n 0, 1) := by decide +kernel
theorem dL_law_546 : decode cL_law 546 = .ok (.iload_n 3, 1) := by decide +kernel
theorem dL_law_547 : decode cL_law 547 = .ok (.iconst 2, 1) := by decide +kernel
theorem dL_law_548 : decode cL_law 548 = .ok (.iadd, 1) := by decide +kernel
theorem dL_law_549 : decode cL_law 549 = .ok (.iaload, 1) := by decide +kernel
theorem dL_law_550 : decode cL_law 550 = .ok (.invokevirtual 48, 3) := by decide +kernel
theorem dL_law_553 : decode cL_law 553 = .ok (.if_icmp .eq 1443, 3) := by decide +kernel
set_option maxHeartbeats 4000000 in
set_option maxRecDepth 100000 in
theorem law_7 {p : Program} {l : Launch} {e : Env} {s : State} {m : MethodId} {below : List Frame} {meth : Method} {c : Code} {b : Nat} {xs : Nat → Int32} (hx : p.tables.exec = Jvm.exec) (hb : c.code = cL_law) (hr : meth.sig.returnType = ret) (hml : c.maxLocals = 4) (hown : s.vm.findClass RL = some m.cls) (hts : ∀ w ∈ fn_big, w.before #[Value.ref b] s = true) (hX : va_X b 6 xs s s.heap) (hbl : b < s.heap.size) (hlocks : meth.locks = false) {D : va_G} {K : Nat → ClassId} (hK : fn_KK D K s) {x0 m0 : Nat} {u v : Nat → Nat} {fw : Nat → Int32} (hfw : ∀ j, j < 4 → fw j = -1) {A : Nat → Prop} (hAe : (fun q : Nat => s.heap.size ≤ q) = A) : ∀ (H : Heap) (locs : List Loc) (ls : Array Slot), va_P D vwCl (fn_world K x0 m0 u v fw) H → va_D A (fn_world K x0 m0 u v fw) → va_S A s.heap H locs → lv_has ls 4 [(3, .int 0), (2, .ref m0), (1, .ref x0), (0, .ref b)] → W p l e room_1 s m #[Value.ref b] below meth c H locs 144 12710 (lw_Z below #[Value.ref b] s) (F0 m 525 ls []) := by
  intro H locs ls hP hD hS hl
  have hA : ∀ q : Nat, s.heap.size ≤ q → A q := fun q h => by rw [← hAe]; exact h
  have hbA : ¬ A b := by rw [← hAe]; exact Nat.not_le.mpr hbl
  refine lv_aload_n hx hb dL_law_525 rfl (lv_at hl 2 rfl) ?_
  refine lv_aload_n hx hb dL_law_526 rfl (lv_at hl 3 rfl) ?_
  refine lv_iload_n hx hb dL_law_527 rfl (lv_at hl 0 rfl) ?_
  refine lv_iconst (v := 1) hx hb dL_law_528 (by decide) ?_
  refine lv_iadd hx hb dL_law_529 ?_
  refine fn_top 1 (by decide) ?_
  refine va_sld hx hb hX hbl hbA hS (by unfold vp_in; decide) dL_law_530 ?_
  refine fn_top (xs 1) (congrArg xs (by decide)) ?_
  refine lv_aload_n hx hb dL_law_531 rfl (lv_at hl 3 rfl) ?_
  refine lv_iload_n hx hb dL_law_532 rfl (lv_at hl 0 rfl) ?_
  refine lv_iconst (v := 2) hx hb dL_law_533 (by decide) ?_
  refine lv_iadd hx hb dL_law_534 ?_
  refine fn_top 2 (by decide) ?_
  refine va_sld hx hb hX hbl hbA hS (by unfold vp_in; decide) dL_law_535 ?_
  refine fn_top (xs 2) (congrArg xs (by decide)) ?_
  refine fn_goi (wc := [(x0, .inr (11, [.ref (u 0), .ref (u 10), .ref (u 17), .ref (u 25), .ref (u 26), .ref (u 27), .ref (u 28), .ref (u 29), .ref (u 34), .ref (u 39), .ref (u 43), .ref (u 51), .ref (u 55)])), ((u 10), .inr (7, [.int 0, .int 0, .int 0, .int 0, .int 0, .int 0, .int 0, .int 0, .int 0, .ref (u 11), .ref (u 12), .ref (u 13), .ref (u 14), .ref (u 15), .ref (u 16)]))]) (wr := [(m0, .inr (12, [.int 0, .ref (v 0), .ref (v 1), .ref (v 2), .ref (v 3), .ref (v 4), .int 0, .int 0, .int 0, .int 0, .int 0, .long 0, .int 0, .int 0, .int 0, .int (-1), .ref (v 5), .ref (v 6), .ref (v 7), .ref (v 8), .ref (v 9), .ref (v 10), .ref (v 11), .ref (v 12), .ref (v 13), .ref (v 14), .ref (v 15), .ref (v 16), .ref (v 17), .ref (v 18), .ref (v 19), .ref (v 20), .int 0, .int 0, .int 0, .int 0, .ref (v 21), .ref (v 22), .ref (v 23), .int 0, .int 0, .ref (v 24), .ref (v 25), .int 0, .int 0, .ref (v 26), .ref (v 27), .ref (v 28), .int 0, .int 0, .int 0])), ((v 0), .inl (K 0, 4, .inl fw)), ((v 1), .inl (K 0, 4, .inl (fun _ => 0))), ((v 2), .inl (K 3, 240, .inr (.inl (fun _ => 0)))), ((v 4), .inl (K 1, 1400, .inl (fun _ => 0))), ((v 5), .inl (K 0, 5, .inl (fun _ => 0))), ((v 6), .inl (K 0, 40, .inl (fun _ => 0))), ((v 7), .inl (K 0, 50, .inl (fun _ => 0))), ((v 8), .inl (K 0, 60, .inl (fun _ => 0))), ((v 9), .inl (K 0, 480, .inl (fun _ => 0))), ((v 10), .inl (K 0, 600, .inl (fun _ => 0))), ((v 11), .inl (K 2, 3, .inl (fun _ => 0)))]) hK hP hD hS hA [0, 11] [88, 89, 90, 91, 92, 93, 94, 95, 96, 97, 98, 99] rfl rfl (by decide) (fun hp => va_runV (C := RX11) (As := [.int (xs 1), .int (xs 2)]) (rest := []) ⟨hx, hb, hml, hown, hts⟩ (c_X11_note (l := l) (D := D) (K := K) (x0 := (x0)) (p0 := ((xs 1))) (p1 := ((xs 2))) (fx := ([.ref (u 0), .ref (u 10), .ref (u 17), .ref (u 25), .ref (u 26), .ref (u 27), .ref (u 28), .ref (u 29), .ref (u 34), .ref (u 39), .ref (u 43), .ref (u 51), .ref (u 55)])) (t0 := ((u 10))) (hx1 := rfl) (ft := ([.int 0, .int 0, .int 0, .int 0, .int 0, .int 0, .int 0, .int 0, .int 0, .ref (u 11), .ref (u 12), .ref (u 13), .ref (u 14), .ref (u 15), .ref (u 16)])) (ht0 := rfl) (ht3 := rfl) (ht4 := rfl) (ht5 := rfl) _) (cwV 2 hts (fn_ginV (fn_gin wd_684) wd_681 wd_682 wd_683 wd_1) rfl rfl rfl (by decide +kernel) ⟨Nat.le_of_ble_eq_true rfl, Nat.le_of_ble_eq_true rfl⟩) ⟨fn_blind, va_recv hK.1 hP (ci := 11) (q0 := 0) rfl rfl, hp⟩ rfl rfl hl.1 rfl (lv_room (Nat.le_of_ble_eq_true rfl)) dL_law_536 ⟨Nat.le_of_ble_eq_true rfl, Nat.le_of_ble_eq_true rfl⟩) (fun r2 u1 H locs hwu1 hP hD hS => ?_)
  have r2_e : r2 = (-2) := hwu1
  subst r2_e
  have hP : va_P D vwCl [(m0, .inr (12, [.int 0, .ref (v 0), .ref (v 1), .ref (v 2), .ref (v 3), .ref (v 4), .int 0, .int 0, .int 0, .int 0, .int 0, .long 0, .int 0, .int 0, .int 0, .int (-1), .ref (v 5), .ref (v 6), .ref (v 7), .ref (v 8), .ref (v 9), .ref (v 10), .ref (v 11), .ref (v 12), .ref (v 13), .ref (v 14), .ref (v 15), .ref (v 16), .ref (v 17), .ref (v 18), .ref (v 19), .ref (v 20), .int 0, .int 0, .int 0, .int 0, .ref (v 21), .ref (v 22), .ref (v 23), .int 0, .int 0, .ref (v 24), .ref (v 25), .int 0, .int 0, .ref (v 26), .ref (v 27), .ref (v 28), .int 0, .int 0, .int 0])), ((v 0), .inl (K 0, 4, .inl fw)), ((v 1), .inl (K 0, 4, .inl (fun _ => 0))), ((v 2), .inl (K 3, 240, .inr (.inl (fun _ => 0)))), ((v 4), .inl (K 1, 1400, .inl (fun _ => 0))), ((v 5), .inl (K 0, 5, .inl (fun _ => 0))), ((v 6), .inl (K 0, 40, .inl (fun _ => 0))), ((v 7), .inl (K 0, 50, .inl (fun _ => 0))), ((v 8), .inl (K 0, 60, .inl (fun _ => 0))), ((v 9), .inl (K 0, 480, .inl (fun _ => 0))), ((v 10), .inl (K 0, 600, .inl (fun _ => 0))), ((v 11), .inl (K 2, 3, .inl (fun _ => 0)))] H := hP
  have hD : va_D A [(m0, .inr (12, [.int 0, .ref (v 0), .ref (v 1), .ref (v 2), .ref (v 3), .ref (v 4), .int 0, .int 0, .int 0, .int 0, .int 0, .long 0, .int 0, .int 0, .int 0, .int (-1), .ref (v 5), .ref (v 6), .ref (v 7), .ref (v 8), .ref (v 9), .ref (v 10), .ref (v 11), .ref (v 12), .ref (v 13), .ref (v 14), .ref (v 15), .ref (v 16), .ref (v 17), .ref (v 18), .ref (v 19), .ref (v 20), .int 0, .int 0, .int 0, .int 0, .ref (v 21), .ref (v 22), .ref (v 23), .int 0, .int 0, .ref (v 24), .ref (v 25), .int 0, .int 0, .ref (v 26), .ref (v 27), .ref (v 28), .int 0, .int 0, .int 0])), ((v 0), .inl (K 0, 4, .inl fw)), ((v 1), .inl (K 0, 4, .inl (fun _ => 0))), ((v 2), .inl (K 3, 240, .inr (.inl (fun _ => 0)))), ((v 4), .inl (K 1, 1400, .inl (fun _ => 0))), ((v 5), .inl (K 0, 5, .inl (fun _ => 0))), ((v 6), .inl (K 0, 40, .inl (fun _ => 0))), ((v 7), .inl (K 0, 50, .inl (fun _ => 0))), ((v 8), .inl (K 0, 60, .inl (fun _ => 0))), ((v 9), .inl (K 0, 480, .inl (fun _ => 0))), ((v 10), .inl (K 0, 600, .inl (fun _ => 0))), ((v 11), .inl (K 2, 3, .inl (fun _ => 0)))] := hD
  refine lv_aload_n hx hb dL_law_539 rfl (lv_at hl 1 rfl) ?_
  refine lv_aload_n hx hb dL_law_540 rfl (lv_at hl 3 rfl) ?_
  refine lv_iload_n hx hb dL_law_541 rfl (lv_at hl 0 rfl) ?_
  refine lv_iconst (v := 1) hx hb dL_law_542 (by decide) ?_
  refine lv_iadd hx hb dL_law_543 ?_
  refine fn_top 1 (by decide) ?_
  refine va_sld hx hb hX hbl hbA hS (by unfold vp_in; decide) dL_law_544 ?_
  refine fn_top (xs 1) (congrArg xs (by decide)) ?_
  refine lv_aload_n hx hb dL_law_545 rfl (lv_at hl 3 rfl) ?_
  refine fn_at 546 rfl ?_
  refine lv_iload_n hx hb dL_law_546 rfl (lv_at hl 0 rfl) ?_
  refine lv_iconst (v := 2) hx hb dL_law_547 (by decide) ?_
  refine lv_iadd hx hb dL_law_548 ?_
  refine fn_top 2 (by decide) ?_
  refine va_sld hx hb hX hbl hbA hS (by unfold vp_in; decide) dL_law_549 ?_
  refine fn_top (xs 2) (congrArg xs (by decide)) ?_
  refine fn_goi (wc := [(m0, .inr (12, [.int 0, .ref (v 0), .ref (v 1), .ref (v 2), .ref (v 3), .ref (v 4), .int 0, .int 0, .int 0, .int 0, .int 0, .long 0, .int 0, .int 0, .int 0, .int (-1), .ref (v 5), .ref (v 6), .ref (v 7), .ref (v 8), .ref (v 9), .ref (v 10), .ref (v 11), .ref (v 12), .ref (v 13), .ref (v 14), .ref (v 15), .ref (v 16), .ref (v 17), .ref (v 18), .ref (v 19), .ref (v 20), .int 0, .int 0, .int 0, .int 0, .ref (v 21), .ref (v 22), .ref (v 23), .int 0, .int 0, .ref (v 24), .ref (v 25), .int 0, .int 0, .ref (v 26), .ref (v 27), .ref (v 28), .int 0, .int 0, .int 0])), ((v 5), .inl (K 0, 5, .inl (fun _ => 0))), ((v 6), .inl (K 0, 40, .inl (fun _ => 0)))]) (wr := []) hK hP hD hS hA [0, 5, 6] [] rfl rfl (by decide) (fun hp => va_runV (C := RX12) (As := [.int (xs 1), .int (xs 2)]) (rest := [.int (-2)]) ⟨hx, hb, hml, hown, hts⟩ (c_X12_note (l := l) (D := D) (K := K) (m0 := (m0)) (p0 := ((xs 1))) (p1 := ((xs 2))) (fm := ([.int 0, .ref (v 0), .ref (v 1), .ref (v 2), .ref (v 3), .ref (v 4), .int 0, .int 0, .int 0, .int 0, .int 0, .long 0, .int 0, .int 0, .int 0, .int (-1), .ref (v 5), .ref (v 6), .ref (v 7), .ref (v 8), .ref (v 9), .ref (v 10), .ref (v 11), .ref (v 12), .ref (v 13), .ref (v 14), .ref (v 15), .ref (v 16), .ref (v 17), .ref (v 18), .ref (v 19), .ref (v 20), .int 0, .int 0, .int 0, .int 0, .ref (v 21), .ref (v 22), .ref (v 23), .int 0, .int 0, .ref (v 24), .ref (v 25), .int 0, .int 0, .ref (v 26), .ref (v 27), .ref (v 28), .int 0, .int 0, .int 0])) (hmn := rfl) (al := ((v 5))) (hm16 := rfl) (ah := ((v 6))) (hm17 := rfl) (fl := (fun _ => 0)) (hfl := (fun _ => rfl)) (fh := (fun _ => 0)) (hfh := (fun _ => rfl)) _) (cwV 2 hts (fn_ginV (fn_gin wd_1579) wd_1576 wd_1577 wd_1578 wd_13) rfl rfl rfl (by decide +kernel) ⟨Nat.le_of_ble_eq_true rfl, Nat.le_of_ble_eq_true rfl⟩) ⟨fn_blind, va_recv hK.1 hP (ci := 12) (q0 := 0) rfl rfl, hp⟩ rfl rfl hl.1 rfl (lv_room (Nat.le_of_ble_eq_true rfl)) dL_law_550 ⟨Nat.le_of_ble_eq_true rfl, Nat.le_of_ble_eq_true rfl⟩) (fun r4 u3 H locs hwu3 hP hD hS => ?_)
  have r4_e : r4 = (-2) := hwu3
  subst r4_e
  have hP : va_P D vwCl [] H := hP
  have hD : va_D A [] := hD
  refine lv_icmp_eq (tgt := 1996) hx hb dL_law_553 (by decide) (fun _ => ?_) (fun h9 => absurd (by decide) h9)
  refine lv_iinc (v := 6) (lv' := [(3, .int 6), (2, .ref m0), (1, .ref x0), (0, .ref b)]) hx hb dL_law_1996 hl (k := 0) rfl (by decide) (by decide) rfl (fun ls hl => ?_)
  refine lv_goto (tgt := 18) hx hb dL_law_1999 (by decide) ?_
  refine lv_iload_n hx hb dL_law_18 rfl (lv_at hl 0 rfl) ?_
  refine lv_aload_n hx hb dL_law_19 rfl (lv_at hl 3 rfl) ?_
  refine va_slen hx hb hX hbl hbA hS dL_law_20 ?_
  refine fn_top 6 (by decide) ?_
  refine lv_bipush (v := 6) hx hb dL_law_21 (by decide) ?_
  refine lv_isub hx hb dL_law_23 ?_
  refine fn_top 0 (by decide) ?_
  refine lv_icmp_gt (tgt := 2002) hx hb dL_law_24 (by decide) (fun _ => ?_) (fun h9 => absurd (by decide) h9)
  refine lv_iconst (v := 1) hx hb dL_law_2002 (by decide) ?_
  refine va_forget (fun q hq => by have h9 := hS.2.2 q hq; rw [← hAe] at h9; exact h9) ?_
  refine W.widen (k := 600000) (n := 7302250) (Nat.le_of_ble_eq_true rfl) (Nat.le_of_ble_eq_true rfl) ?_
  exact lw_ret hx hb hr hlocks dL_law_2003
theorem dL_law_558 : decode cL_law 558 = .ok (.aload_n 1, 1) := by decide +kernel
theorem dL_law_559 : decode cL_law 559 = .ok (.aload_n 0, 1) := by decide +kernel
theorem dL_law_560 : decode cL_law 560 = .ok (.iload_n 3, 1) := by decide +kernel
theorem dL_law_561 : decode cL_law 561 = .ok (.iconst 1, 1) := by decide +kernel
theorem dL_law_562 : decode cL_law 562 = .ok (.iadd, 1) := by decide +kernel
theorem dL_law_563 : decode cL_law 563 = .ok (.iaload, 1) := by decide +kernel
theorem dL_law_564 : decode cL_law 564 = .ok (.invokevirtual 49, 3) := by decide +kernel
theorem dL_law_567 : decode cL_law 567 = .ok (.aload_n 2, 1) := by decide +kernel
theorem dL_law_568 : decode cL_law 568 = .ok (.aload_n 0, 1) := by decide +kernel
theorem dL_law_569 : decode cL_law 569 = .ok (.iload_n 3, 1) := by decide +kernel
theorem dL_law_570 : decode cL_law 570 = .ok (.iconst 1, 1) := by decide +kernel
theorem dL_law_571 : decode cL_law 571 = .ok (.iadd, 1) := by decide +kernel
theorem dL_law_572 : decode cL_law 572 = .ok (.iaload, 1) := by decide +kernel
theorem dL_law_573 : decode cL_law 573 = .ok (.invokevirtual 52, 3) := by decide +kernel
theorem dL_law_576 : decode cL_law 576 = .ok (.if_icmp .eq 1420, 3) := by decide +kernel
set_option maxHeartbeats 4000000 in
set_option maxRecDepth 100000 in
theorem law_8 {p : Program} {l : Launch} {e : Env} {s : State} {m : MethodId} {below : List Frame} {meth : Method} {c : Code} {b : Nat} {xs : Nat → Int32} (hx : p.tables.exec = Jvm.exec) (hb : c.code = cL_law) (hr : meth.sig.returnType = ret) (hml : c.maxLocals = 4) (hown : s.vm.findClass RL = some m.cls) (hts : ∀ w ∈ fn_big, w.before #[Value.ref b] s = true) (hX : va_X b 6 xs s s.heap) (hbl : b < s.heap.size) (hlocks : meth.locks = false) {D : va_G} {K : Nat → ClassId} (hK : fn_KK D K s) {x0 m0 : Nat} {u v : Nat → Nat} {fw : Nat → Int32} (hfw : ∀ j, j < 4 → fw j = -1) {A : Nat → Prop} (hAe : (fun q : Nat => s.heap.size ≤ q) = A) : ∀ (H : Heap) (locs : List Loc) (ls : Array Slot), va_P D vwCl (fn_world K x0 m0 u v fw) H → va_D A (fn_world K x0 m0 u v fw) → va_S A s.heap H locs → lv_has ls 4 [(3, .int 0), (2, .ref m0), (1, .ref x0), (0, .ref b)] → W p l e room_1 s m #[Value.ref b] below meth c H locs 144 12710 (lw_Z below #[Value.ref b] s) (F0 m 558 ls []) := by
  intro H locs ls hP hD hS hl
  have hA : ∀ q : Nat, s.heap.size ≤ q → A q := fun q h => by rw [← hAe]; exact h
  have hbA : ¬ A b := by rw [← hAe]; exact Nat.not_le.mpr hbl
  refine lv_aload_n hx hb dL_law_558 rfl (lv_at hl 2 rfl) ?_
  refine lv_aload_n hx hb dL_law_559 rfl (lv_at hl 3 rfl) ?_
  refine lv_iload_n hx hb dL_law_560 rfl (lv_at hl 0 rfl) ?_
  refine lv_iconst (v := 1) hx hb dL_law_561 (by decide) ?_
  refine lv_iadd hx hb dL_law_562 ?_
  refine fn_top 1 (by decide) ?_
  refine va_sld hx hb hX hbl hbA hS (by unfold vp_in; decide) dL_law_563 ?_
  refine fn_top (xs 1) (congrArg xs (by decide)) ?_
  refine fn_goi (wc := [(x0, .inr (11, [.ref (u 0), .ref (u 10), .ref (u 17), .ref (u 25), .ref (u 26), .ref (u 27), .ref (u 28), .ref (u 29), .ref (u 34), .ref (u 39), .ref (u 43), .ref (u 51), .ref (u 55)])), ((u 10), .inr (7, [.int 0, .int 0, .int 0, .int 0, .int 0, .int 0, .int 0, .int 0, .int 0, .ref (u 11), .ref (u 12), .ref (u 13), .ref (u 14), .ref (u 15), .ref (u 16)]))]) (wr := [(m0, .inr (12, [.int 0, .ref (v 0), .ref (v 1), .ref (v 2), .ref (v 3), .ref (v 4), .int 0, .int 0, .int 0, .int 0, .int 0, .long 0, .int 0, .int 0, .int 0, .int (-1), .ref (v 5), .ref (v 6), .ref (v 7), .ref (v 8), .ref (v 9), .ref (v 10), .ref (v 11), .ref (v 12), .ref (v 13), .ref (v 14), .ref (v 15), .ref (v 16), .ref (v 17), .ref (v 18), .ref (v 19), .ref (v 20), .int 0, .int 0, .int 0, .int 0, .ref (v 21), .ref (v 22), .ref (v 23), .int 0, .int 0, .ref (v 24), .ref (v 25), .int 0, .int 0, .ref (v 26), .ref (v 27), .ref (v 28), .int 0, .int 0, .int 0])), ((v 0), .inl (K 0, 4, .inl fw)), ((v 1), .inl (K 0, 4, .inl (fun _ => 0))), ((v 2), .inl (K 3, 240, .inr (.inl (fun _ => 0)))), ((v 4), .inl (K 1, 1400, .inl (fun _ => 0))), ((v 5), .inl (K 0, 5, .inl (fun _ => 0))), ((v 6), .inl (K 0, 40, .inl (fun _ => 0))), ((v 7), .inl (K 0, 50, .inl (fun _ => 0))), ((v 8), .inl (K 0, 60, .inl (fun _ => 0))), ((v 9), .inl (K 0, 480, .inl (fun _ => 0))), ((v 10), .inl (K 0, 600, .inl (fun _ => 0))), ((v 11), .inl (K 2, 3, .inl (fun _ => 0)))]) hK hP hD hS hA [0, 11] [88, 89, 90, 91, 92, 93, 94, 95, 96, 97, 98, 99] rfl rfl (by decide) (fun hp => va_runV (C := RX11) (As := [.int (xs 1)]) (rest := []) ⟨hx, hb, hml, hown, hts⟩ (c_X11_leads (l := l) (D := D) (K := K) (x0 := (x0)) (p0 := ((xs 1))) (fx := ([.ref (u 0), .ref (u 10), .ref (u 17), .ref (u 25), .ref (u 26), .ref (u 27), .ref (u 28), .ref (u 29), .ref (u 34), .ref (u 39), .ref (u 43), .ref (u 51), .ref (u 55)])) (t0 := ((u 10))) (hx1 := rfl) (ft := ([.int 0, .int 0, .int 0, .int 0, .int 0, .int 0, .int 0, .int 0, .int 0, .ref (u 11), .ref (u 12), .ref (u 13), .ref (u 14), .ref (u 15), .ref (u 16)])) (ht0 := rfl) (ht3 := rfl) (ht4 := rfl) (ht5 := rfl) _) (cwV 1 hts (fn_ginV (fn_gin wd_692) wd_689 wd_690 wd_691 wd_1) rfl rfl rfl (by decide +kernel) ⟨Nat.le_of_ble_eq_true rfl, Nat.le_of_ble_eq_true rfl⟩) ⟨fn_blind, va_recv hK.1 hP (ci := 11) (q0 := 0) rfl rfl, hp⟩ rfl rfl hl.1 rfl (lv_room (Nat.le_of_ble_eq_true rfl)) dL_law_564 ⟨Nat.le_of_ble_eq_true rfl, Nat.le_of_ble_eq_true rfl⟩) (fun r2 u1 H locs hwu1 hP hD hS => ?_)
  have r2_e : r2 = (-2) := hwu1
  subst r2_e
  have hP : va_P D vwCl [(m0, .inr (12, [.int 0, .ref (v 0), .ref (v 1), .ref (v 2), .ref (v 3), .ref (v 4), .int 0, .int 0, .int 0, .int 0, .int 0, .long 0, .int 0, .int 0, .int 0, .int (-1), .ref (v 5), .ref (v 6), .ref (v 7), .ref (v 8), .ref (v 9), .ref (v 10), .ref (v 11), .ref (v 12), .ref (v 13), .ref (v 14), .ref (v 15), .ref (v 16), .ref (v 17), .ref (v 18), .ref (v 19), .ref (v 20), .int 0, .int 0, .int 0, .int 0, .ref (v 21), .ref (v 22), .ref (v 23), .int 0, .int 0, .ref (v 24), .ref (v 25), .int 0, .int 0, .ref (v 26), .ref (v 27), .ref (v 28), .int 0, .int 0, .int 0])), ((v 0), .inl (K 0, 4, .inl fw)), ((v 1), .inl (K 0, 4, .inl (fun _ => 0))), ((v 2), .inl (K 3, 240, .inr (.inl (fun _ => 0)))), ((v 4), .inl (K 1, 1400, .inl (fun _ => 0))), ((v 5), .inl (K 0, 5, .inl (fun _ => 0))), ((v 6), .inl (K 0, 40, .inl (fun _ => 0))), ((v 7), .inl (K 0, 50, .inl (fun _ => 0))), ((v 8), .inl (K 0, 60, .inl (fun _ => 0))), ((v 9), .inl (K 0, 480, .inl (fun _ => 0))), ((v 10), .inl (K 0, 600, .inl (fun _ => 0))), ((v 11), .inl (K 2, 3, .inl (fun _ => 0)))] H := hP
  have hD : va_D A [(m0, .inr (12, [.int 0, .ref (v 0), .ref (v 1), .ref (v 2), .ref (v 3), .ref (v 4), .int 0, .int 0, .int 0, .int 0, .int 0, .long 0, .int 0, .int 0, .int 0, .int (-1), .ref (v 5), .ref (v 6), .ref (v 7), .ref (v 8), .ref (v 9), .ref (v 10), .ref (v 11), .ref (v 12), .ref (v 13), .ref (v 14), .ref (v 15), .ref (v 16), .ref (v 17), .ref (v 18), .ref (v 19), .ref (v 20), .int 0, .int 0, .int 0, .int 0, .ref (v 21), .ref (v 22), .ref (v 23), .int 0, .int 0, .ref (v 24), .ref (v 25), .int 0, .int 0, .ref (v 26), .ref (v 27), .ref (v 28), .int 0, .int 0, .int 0])), ((v 0), .inl (K 0, 4, .inl fw)), ((v 1), .inl (K 0, 4, .inl (fun _ => 0))), ((v 2), .inl (K 3, 240, .inr (.inl (fun _ => 0)))), ((v 4), .inl (K 1, 1400, .inl (fun _ => 0))), ((v 5), .inl (K 0, 5, .inl (fun _ => 0))), ((v 6), .inl (K 0, 40, .inl (fun _ => 0))), ((v 7), .inl (K 0, 50, .inl (fun _ => 0))), ((v 8), .inl (K 0, 60, .inl (fun _ => 0))), ((v 9), .inl (K 0, 480, .inl (fun _ => 0))), ((v 10), .inl (K 0, 600, .inl (fun _ => 0))), ((v 11), .inl (K 2, 3, .inl (fun _ => 0)))] := hD
  refine lv_aload_n hx hb dL_law_567 rfl (lv_at hl 1 rfl) ?_
  refine lv_aload_n hx hb dL_law_568 rfl (lv_at hl 3 rfl) ?_
  refine lv_iload_n hx hb dL_law_569 rfl (lv_at hl 0 rfl) ?_
  refine lv_iconst (v := 1) hx hb dL_law_570 (by decide) ?_
  refine lv_iadd hx hb dL_law_571 ?_
  refine fn_top 1 (by decide) ?_
  refine va_sld hx hb hX hbl hbA hS (by unfold vp_in; decide) dL_law_572 ?_
  refine fn_top (xs 1) (congrArg xs (by decide)) ?_
  refine fn_goi (wc := [(m0, .inr (12, [.int 0, .ref (v 0), .ref (v 1), .ref (v 2), .ref (v 3), .ref (v 4), .int 0, .int 0, .int 0, .int 0, .int 0, .long 0, .int 0, .int 0, .int 0, .int (-1), .ref (v 5), .ref (v 6), .ref (v 7), .ref (v 8), .ref (v 9), .ref (v 10), .ref (v 11), .ref (v 12), .ref (v 13), .ref (v 14), .ref (v 15), .ref (v 16), .ref (v 17), .ref (v 18), .ref (v 19), .ref (v 20), .int 0, .int 0, .int 0, .int 0, .ref (v 21), .ref (v 22), .ref (v 23), .int 0, .int 0, .ref (v 24), .ref (v 25), .int 0, .int 0, .ref (v 26), .ref (v 27), .ref (v 28), .int 0, .int 0, .int 0])), ((v 5), .inl (K 0, 5, .inl (fun _ => 0))), ((v 6), .inl (K 0, 40, .inl (fun _ => 0)))]) (wr := []) hK hP hD hS hA [0, 5, 6] [] rfl rfl (by decide) (fun hp => va_runV (C := RX12) (As := [.int (xs 1)]) (rest := [.int (-2)]) ⟨hx, hb, hml, hown, hts⟩ (c_X12_leads (l := l) (D := D) (K := K) (m0 := (m0)) (p0 := ((xs 1))) (fm := ([.int 0, .ref (v 0), .ref (v 1), .ref (v 2), .ref (v 3), .ref (v 4), .int 0, .int 0, .int 0, .int 0, .int 0, .long 0, .int 0, .int 0, .int 0, .int (-1), .ref (v 5), .ref (v 6), .ref (v 7), .ref (v 8), .ref (v 9), .ref (v 10), .ref (v 11), .ref (v 12), .ref (v 13), .ref (v 14), .ref (v 15), .ref (v 16), .ref (v 17), .ref (v 18), .ref (v 19), .ref (v 20), .int 0, .int 0, .int 0, .int 0, .ref (v 21), .ref (v 22), .ref (v 23), .int 0, .int 0, .ref (v 24), .ref (v 25), .int 0, .int 0, .ref (v 26), .ref (v 27), .ref (v 28), .int 0, .int 0, .int 0])) (hmn := rfl) (al := ((v 5))) (hm16 := rfl) (ah := ((v 6))) (hm17 := rfl) (fl := (fun _ => 0)) (hfl := (fun _ => rfl)) (fh := (fun _ => 0)) (hfh := (fun _ => rfl)) _) (cwV 1 hts (fn_ginV (fn_gin wd_1587) wd_1584 wd_1585 wd_1586 wd_13) rfl rfl rfl (by decide +kernel) ⟨Nat.le_of_ble_eq_true rfl, Nat.le_of_ble_eq_true rfl⟩) ⟨fn_blind, va_recv hK.1 hP (ci := 12) (q0 := 0) rfl rfl, hp⟩ rfl rfl hl.1 rfl (lv_room (Nat.le_of_ble_eq_true rfl)) dL_law_573 ⟨Nat.le_of_ble_eq_true rfl, Nat.le_of_ble_eq_true rfl⟩) (fun r4 u3 H locs hwu3 hP hD hS => ?_)
  have r4_e : r4 = (-2) := hwu3
  subst r4_e
  have hP : va_P D vwCl [] H := hP
  have hD : va_D A [] := hD
  refine lv_icmp_eq (tgt := 1996) hx hb dL_law_576 (by decide) (fun _ => ?_) (fun h9 => absurd (by decide) h9)
  refine lv_iinc (v := 6) (lv' := [(3, .int 6), (2, .ref m0), (1, .ref x0), (0, .ref b)]) hx hb dL_law_1996 hl (k := 0) rfl (by decide) (by decide) rfl (fun ls hl => ?_)
  refine lv_goto (tgt := 18) hx hb dL_law_1999 (by decide) ?_
  refine lv_iload_n hx hb dL_law_18 rfl (lv_at hl 0 rfl) ?_
  refine lv_aload_n hx hb dL_law_19 rfl (lv_at hl 3 rfl) ?_
  refine fn_at 20 rfl ?_
  refine va_slen hx hb hX hbl hbA hS dL_law_20 ?_
  refine fn_top 6 (by decide) ?_
  refine lv_bipush (v := 6) hx hb dL_law_21 (by decide) ?_
  refine lv_isub hx hb dL_law_23 ?_
  refine fn_top 0 (by decide) ?_
  refine lv_icmp_gt (tgt := 2002) hx hb dL_law_24 (by decide) (fun _ => ?_) (fun h9 => absurd (by decide) h9)
  refine lv_iconst (v := 1) hx hb dL_law_2002 (by decide) ?_
  refine va_forget (fun q hq => by have h9 := hS.2.2 q hq; rw [← hAe] at h9; exact h9) ?_
  refine W.widen (k := 600000) (n := 7302250) (Nat.le_of_ble_eq_true rfl) (Nat.le_of_ble_eq_true rfl) ?_
  exact lw_ret hx hb hr hlocks dL_law_2003
theorem dL_law_581 : decode cL_law 581 = .ok (.aload_n 1, 1) := by decide +kernel
theorem dL_law_582 : decode cL_law 582 = .ok (.aload_n 0, 1) := by decide +kernel
theorem dL_law_583 : decode cL_law 583 = .ok (.iload_n 3, 1) := by decide +kernel
theorem dL_law_584 : decode cL_law 584 = .ok (.iconst 1, 1) := by decide +kernel
theorem dL_law_585 : decode cL_law 585 = .ok (.iadd, 1) := by decide +kernel
theorem dL_law_586 : decode cL_law 586 = .ok (.iaload, 1) := by decide +kernel
theorem dL_law_587 : decode cL_law 587 = .ok (.invokevirtual 53, 3) := by decide +kernel
theorem dL_law_590 : decode cL_law 590 = .ok (.aload_n 2, 1) := by decide +kernel
theorem dL_law_591 : decode cL_law 591 = .ok (.aload_n 0, 1) := by decide +kernel
theorem dL_law_592 : decode cL_law 592 = .ok (.iload_n 3, 1) := by decide +kernel
theorem dL_law_593 : decode cL_law 593 = .ok (.iconst 1, 1) := by decide +kernel
theorem dL_law_594 : decode cL_law 594 = .ok (.iadd, 1) := by decide +kernel
theorem dL_law_595 : decode cL_law 595 = .ok (.iaload, 1) := by decide +kernel
theorem dL_law_596 : decode cL_law 596 = .ok (.invokevirtual 56, 3) := by decide +kernel
theorem dL_law_599 : decode cL_law 599 = .ok (.if_icmp .eq 1397, 3) := by decide +kernel
set_option maxHeartbeats 4000000 in
set_option maxRecDepth 100000 in
theorem law_9 {p : Program} {l : Launch} {e : Env} {s : State} {m : MethodId} {below : List Frame} {meth : Method} {c : Code} {b : Nat} {xs : Nat → Int32} (hx : p.tables.exec = Jvm.exec) (hb : c.code = cL_law) (hr : meth.sig.returnType = ret) (hml : c.maxLocals = 4) (hown : s.vm.findClass RL = some m.cls) (hts : ∀ w ∈ fn_big, w.before #[Value.ref b] s = true) (hX : va_X b 6 xs s s.heap) (hbl : b < s.heap.size) (hlocks : meth.locks = false) {D : va_G} {K : Nat → ClassId} (hK : fn_KK D K s) {x0 m0 : Nat} {u v : Nat → Nat} {fw : Nat → Int32} (hfw : ∀ j, j < 4 → fw j = -1) {A : Nat → Prop} (hAe : (fun q : Nat => s.heap.size ≤ q) = A) : ∀ (H : Heap) (locs : List Loc) (ls : Array Slot), va_P D vwCl (fn_world K x0 m0 u v fw) H → va_D A (fn_world K x0 m0 u v fw) → va_S A s.heap H locs → lv_has ls 4 [(3, .int 0), (2, .ref m0), (1, .ref x0), (0, .ref b)] → W p l e room_1 s m #[Value.ref b] below meth c H locs 144 12710 (lw_Z below #[Value.ref b] s) (F0 m 581 ls []) := by
  intro H locs ls hP hD hS hl
  have hA : ∀ q : Nat, s.heap.size ≤ q → A q := fun q h => by rw [← hAe]; exact h
  have hbA : ¬ A b := by rw [← hAe]; exact Nat.not_le.mpr hbl
  refine lv_aload_n hx hb dL_law_581 rfl (lv_at hl 2 rfl) ?_
  refine lv_aload_n hx hb dL_law_582 rfl (lv_at hl 3 rfl) ?_
  refine lv_iload_n hx hb dL_law_583 rfl (lv_at hl 0 rfl) ?_
  refine lv_iconst (v := 1) hx hb dL_law_584 (by decide) ?_
  refine lv_iadd hx hb dL_law_585 ?_
  refine fn_top 1 (by decide) ?_
  refine va_sld hx hb hX hbl hbA hS (by unfold vp_in; decide) dL_law_586 ?_
  refine fn_top (xs 1) (congrArg xs (by decide)) ?_
  refine fn_goi (wc := [(x0, .inr (11, [.ref (u 0), .ref (u 10), .ref (u 17), .ref (u 25), .ref (u 26), .ref (u 27), .ref (u 28), .ref (u 29), .ref (u 34), .ref (u 39), .ref (u 43), .ref (u 51), .ref (u 55)])), ((u 10), .inr (7, [.int 0, .int 0, .int 0, .int 0, .int 0, .int 0, .int 0, .int 0, .int 0, .ref (u 11), .ref (u 12), .ref (u 13), .ref (u 14), .ref (u 15), .ref (u 16)]))]) (wr := [(m0, .inr (12, [.int 0, .ref (v 0), .ref (v 1), .ref (v 2), .ref (v 3), .ref (v 4), .int 0, .int 0, .int 0, .int 0, .int 0, .long 0, .int 0, .int 0, .int 0, .int (-1), .ref (v 5), .ref (v 6), .ref (v 7), .ref (v 8), .ref (v 9), .ref (v 10), .ref (v 11), .ref (v 12), .ref (v 13), .ref (v 14), .ref (v 15), .ref (v 16), .ref (v 17), .ref (v 18), .ref (v 19), .ref (v 20), .int 0, .int 0, .int 0, .int 0, .ref (v 21), .ref (v 22), .ref (v 23), .int 0, .int 0, .ref (v 24), .ref (v 25), .int 0, .int 0, .ref (v 26), .ref (v 27), .ref (v 28), .int 0, .int 0, .int 0])), ((v 0), .inl (K 0, 4, .inl fw)), ((v 1), .inl (K 0, 4, .inl (fun _ => 0))), ((v 2), .inl (K 3, 240, .inr (.inl (fun _ => 0)))), ((v 4), .inl (K 1, 1400, .inl (fun _ => 0))), ((v 5), .inl (K 0, 5, .inl (fun _ => 0))), ((v 6), .inl (K 0, 40, .inl (fun _ => 0))), ((v 7), .inl (K 0, 50, .inl (fun _ => 0))), ((v 8), .inl (K 0, 60, .inl (fun _ => 0))), ((v 9), .inl (K 0, 480, .inl (fun _ => 0))), ((v 10), .inl (K 0, 600, .inl (fun _ => 0))), ((v 11), .inl (K 2, 3, .inl (fun _ => 0)))]) hK hP hD hS hA [0, 11] [88, 89, 90, 91, 92, 93, 94, 95, 96, 97, 98, 99] rfl rfl (by decide) (fun hp => va_runV (C := RX11) (As := [.int (xs 1)]) (rest := []) ⟨hx, hb, hml, hown, hts⟩ (c_X11_meant (l := l) (D := D) (K := K) (x0 := (x0)) (p0 := ((xs 1))) (fx := ([.ref (u 0), .ref (u 10), .ref (u 17), .ref (u 25), .ref (u 26), .ref (u 27), .ref (u 28), .ref (u 29), .ref (u 34), .ref (u 39), .ref (u 43), .ref (u 51), .ref (u 55)])) (t0 := ((u 10))) (hx1 := rfl) (ft := ([.int 0, .int 0, .int 0, .int 0, .int 0, .int 0, .int 0, .int 0, .int 0, .ref (u 11), .ref (u 12), .ref (u 13), .ref (u 14), .ref (u 15), .ref (u 16)])) (ht0 := rfl) (ht3 := rfl) (ht4 := rfl) (ht5 := rfl) _) (cwV 1 hts (fn_ginV (fn_gin wd_696) wd_693 wd_694 wd_695 wd_1) rfl rfl rfl (by decide +kernel) ⟨Nat.le_of_ble_eq_true rfl, Nat.le_of_ble_eq_true rfl⟩) ⟨fn_blind, va_recv hK.1 hP (ci := 11) (q0 := 0) rfl rfl, hp⟩ rfl rfl hl.1 rfl (lv_room (Nat.le_of_ble_eq_true rfl)) dL_law_587 ⟨Nat.le_of_ble_eq_true rfl, Nat.le_of_ble_eq_true rfl⟩) (fun r2 u1 H locs hwu1 hP hD hS => ?_)
  have r2_e : r2 = (-2) := hwu1
  subst r2_e
  have hP : va_P D vwCl [(m0, .inr (12, [.int 0, .ref (v 0), .ref (v 1), .ref (v 2), .ref (v 3), .ref (v 4), .int 0, .int 0, .int 0, .int 0, .int 0, .long 0, .int 0, .int 0, .int 0, .int (-1), .ref (v 5), .ref (v 6), .ref (v 7), .ref (v 8), .ref (v 9), .ref (v 10), .ref (v 11), .ref (v 12), .ref (v 13), .ref (v 14), .ref (v 15), .ref (v 16), .ref (v 17), .ref (v 18), .ref (v 19), .ref (v 20), .int 0, .int 0, .int 0, .int 0, .ref (v 21), .ref (v 22), .ref (v 23), .int 0, .int 0, .ref (v 24), .ref (v 25), .int 0, .int 0, .ref (v 26), .ref (v 27), .ref (v 28), .int 0, .int 0, .int 0])), ((v 0), .inl (K 0, 4, .inl fw)), ((v 1), .inl (K 0, 4, .inl (fun _ => 0))), ((v 2), .inl (K 3, 240, .inr (.inl (fun _ => 0)))), ((v 4), .inl (K 1, 1400, .inl (fun _ => 0))), ((v 5), .inl (K 0, 5, .inl (fun _ => 0))), ((v 6), .inl (K 0, 40, .inl (fun _ => 0))), ((v 7), .inl (K 0, 50, .inl (fun _ => 0))), ((v 8), .inl (K 0, 60, .inl (fun _ => 0))), ((v 9), .inl (K 0, 480, .inl (fun _ => 0))), ((v 10), .inl (K 0, 600, .inl (fun _ => 0))), ((v 11), .inl (K 2, 3, .inl (fun _ => 0)))] H := hP
  have hD : va_D A [(m0, .inr (12, [.int 0, .ref (v 0), .ref (v 1), .ref (v 2), .ref (v 3), .ref (v 4), .int 0, .int 0, .int 0, .int 0, .int 0, .long 0, .int 0, .int 0, .int 0, .int (-1), .ref (v 5), .ref (v 6), .ref (v 7), .ref (v 8), .ref (v 9), .ref (v 10), .ref (v 11), .ref (v 12), .ref (v 13), .ref (v 14), .ref (v 15), .ref (v 16), .ref (v 17), .ref (v 18), .ref (v 19), .ref (v 20), .int 0, .int 0, .int 0, .int 0, .ref (v 21), .ref (v 22), .ref (v 23), .int 0, .int 0, .ref (v 24), .ref (v 25), .int 0, .int 0, .ref (v 26), .ref (v 27), .ref (v 28), .int 0, .int 0, .int 0])), ((v 0), .inl (K 0, 4, .inl fw)), ((v 1), .inl (K 0, 4, .inl (fun _ => 0))), ((v 2), .inl (K 3, 240, .inr (.inl (fun _ => 0)))), ((v 4), .inl (K 1, 1400, .inl (fun _ => 0))), ((v 5), .inl (K 0, 5, .inl (fun _ => 0))), ((v 6), .inl (K 0, 40, .inl (fun _ => 0))), ((v 7), .inl (K 0, 50, .inl (fun _ => 0))), ((v 8), .inl (K 0, 60, .inl (fun _ => 0))), ((v 9), .inl (K 0, 480, .inl (fun _ => 0))), ((v 10), .inl (K 0, 600, .inl (fun _ => 0))), ((v 11), .inl (K 2, 3, .inl (fun _ => 0)))] := hD
  refine lv_aload_n hx hb dL_law_590 rfl (lv_at hl 1 rfl) ?_
  refine lv_aload_n hx hb dL_law_591 rfl (lv_at hl 3 rfl) ?_
  refine lv_iload_n hx hb dL_law_592 rfl (lv_at hl 0 rfl) ?_
  refine lv_iconst (v := 1) hx hb dL_law_593 (by decide) ?_
  refine lv_iadd hx hb dL_law_594 ?_
  refine fn_top 1 (by decide) ?_
  refine va_sld hx hb hX hbl hbA hS (by unfold vp_in; decide) dL_law_595 ?_
  refine fn_top (xs 1) (congrArg xs (by decide)) ?_
  refine fn_goi (wc := [(m0, .inr (12, [.int 0, .ref (v 0), .ref (v 1), .ref (v 2), .ref (v 3), .ref (v 4), .int 0, .int 0, .int 0, .int 0, .int 0, .long 0, .int 0, .int 0, .int 0, .int (-1), .ref (v 5), .ref (v 6), .ref (v 7), .ref (v 8), .ref (v 9), .ref (v 10), .ref (v 11), .ref (v 12), .ref (v 13), .ref (v 14), .ref (v 15), .ref (v 16), .ref (v 17), .ref (v 18), .ref (v 19), .ref (v 20), .int 0, .int 0, .int 0, .int 0, .ref (v 21), .ref (v 22), .ref (v 23), .int 0, .int 0, .ref (v 24), .ref (v 25), .int 0, .int 0, .ref (v 26), .ref (v 27), .ref (v 28), .int 0, .int 0, .int 0])), ((v 5), .inl (K 0, 5, .inl (fun _ => 0))), ((v 6), .inl (K 0, 40, .inl (fun _ => 0)))]) (wr := []) hK hP hD hS hA [0, 5, 6] [] rfl rfl (by decide) (fun hp => va_runV (C := RX12) (As := [.int (xs 1)]) (rest := [.int (-2)]) ⟨hx, hb, hml, hown, hts⟩ (c_X12_meant (l := l) (D := D) (K := K) (m0 := (m0)) (p0 := ((xs 1))) (fm := ([.int 0, .ref (v 0), .ref (v 1), .ref (v 2), .ref (v 3), .ref (v 4), .int 0, .int 0, .int 0, .int 0, .int 0, .long 0, .int 0, .int 0, .int 0, .int (-1), .ref (v 5), .ref (v 6), .ref (v 7), .ref (v 8), .ref (v 9), .ref (v 10), .ref (v 11), .ref (v 12), .ref (v 13), .ref (v 14), .ref (v 15), .ref (v 16), .ref (v 17), .ref (v 18), .ref (v 19), .ref (v 20), .int 0, .int 0, .int 0, .int 0, .ref (v 21), .ref (v 22), .ref (v 23), .int 0, .int 0, .ref (v 24), .ref (v 25), .int 0, .int 0, .ref (v 26), .ref (v 27), .ref (v 28), .int 0, .int 0, .int 0])) (hmn := rfl) (al := ((v 5))) (hm16 := rfl) (ah := ((v 6))) (hm17 := rfl) (fl := (fun _ => 0)) (hfl := (fun _ => rfl)) (fh := (fun _ => 0)) (hfh := (fun _ => rfl)) _) (cwV 1 hts (fn_ginV (fn_gin wd_1591) wd_1588 wd_1589 wd_1590 wd_13) rfl rfl rfl (by decide +kernel) ⟨Nat.le_of_ble_eq_true rfl, Nat.le_of_ble_eq_true rfl⟩) ⟨fn_blind, va_recv hK.1 hP (ci := 12) (q0 := 0) rfl rfl, hp⟩ rfl rfl hl.1 rfl (lv_room (Nat.le_of_ble_eq_true rfl)) dL_law_596 ⟨Nat.le_of_ble_eq_true rfl, Nat.le_of_ble_eq_true rfl⟩) (fun r4 u3 H locs hwu3 hP hD hS => ?_)
  have r4_e : r4 = (-2) := hwu3
  subst r4_e
  have hP : va_P D vwCl [] H := hP
  have hD : va_D A [] := hD
  refine lv_icmp_eq (tgt := 1996) hx hb dL_law_599 (by decide) (fun _ => ?_) (fun h9 => absurd (by decide) h9)
  refine lv_iinc (v := 6) (lv' := [(3, .int 6), (2, .ref m0), (1, .ref x0), (0, .ref b)]) hx hb dL_law_1996 hl (k := 0) rfl (by decide) (by decide) rfl (fun ls hl => ?_)
  refine lv_goto (tgt := 18) hx hb dL_law_1999 (by decide) ?_
  refine lv_iload_n hx hb dL_law_18 rfl (lv_at hl 0 rfl) ?_
  refine lv_aload_n hx hb dL_law_19 rfl (lv_at hl 3 rfl) ?_
  refine fn_at 20 rfl ?_
  refine va_slen hx hb hX hbl hbA hS dL_law_20 ?_
  refine fn_top 6 (by decide) ?_
  refine lv_bipush (v := 6) hx hb dL_law_21 (by decide) ?_
  refine lv_isub hx hb dL_law_23 ?_
  refine fn_top 0 (by decide) ?_
  refine lv_icmp_gt (tgt := 2002) hx hb dL_law_24 (by decide) (fun _ => ?_) (fun h9 => absurd (by decide) h9)
  refine lv_iconst (v := 1) hx hb dL_law_2002 (by decide) ?_
  refine va_forget (fun q hq => by have h9 := hS.2.2 q hq; rw [← hAe] at h9; exact h9) ?_
  refine W.widen (k := 600000) (n := 7302250) (Nat.le_of_ble_eq_true rfl) (Nat.le_of_ble_eq_true rfl) ?_
  exact lw_ret hx hb hr hlocks dL_law_2003
theorem dL_law_604 : decode cL_law 604 = .ok (.aload_n 1, 1) := by decide +kernel
theorem dL_law_605 : decode cL_law 605 = .ok (.invokevirtual 57, 3) := by decide +kernel
theorem dL_law_608 : decode cL_law 608 = .ok (.aload_n 2, 1) := by decide +kernel
theorem dL_law_609 : decode cL_law 609 = .ok (.invokevirtual 60, 3) := by decide +kernel
theorem dL_law_612 : decode cL_law 612 = .ok (.if_icmp .eq 1384, 3) := by decide +kernel
set_option maxHeartbeats 4000000 in
set_option maxRecDepth 100000 in
theorem law_10 {p : Program} {l : Launch} {e : Env} {s : State} {m : MethodId} {below : List Frame} {meth : Method} {c : Code} {b : Nat} {xs : Nat → Int32} (hx : p.tables.exec = Jvm.exec) (hb : c.code = cL_law) (hr : meth.sig.returnType = ret) (hml : c.maxLocals = 4) (hown : s.vm.findClass RL = some m.cls) (hts : ∀ w ∈ fn_big, w.before #[Value.ref b] s = true) (hX : va_X b 6 xs s s.heap) (hbl : b < s.heap.size) (hlocks : meth.locks = false) {D : va_G} {K : Nat → ClassId} (hK : fn_KK D K s) {x0 m0 : Nat} {u v : Nat → Nat} {fw : Nat → Int32} (hfw : ∀ j, j < 4 → fw j = -1) {A : Nat → Prop} (hAe : (fun q : Nat => s.heap.size ≤ q) = A) : ∀ (H : Heap) (locs : List Loc) (ls : Array Slot), va_P D vwCl (fn_world K x0 m0 u v fw) H → va_D A (fn_world K x0 m0 u v fw) → va_S A s.heap H locs → lv_has ls 4 [(3, .int 0), (2, .ref m0), (1, .ref x0), (0, .ref b)] → W p l e room_1 s m #[Value.ref b] below meth c H locs 144 12710 (lw_Z below #[Value.ref b] s) (F0 m 604 ls []) := by
  intro H locs ls hP hD hS hl
  have hA : ∀ q : Nat, s.heap.size ≤ q → A q := fun q h => by rw [← hAe]; exact h
  have hbA : ¬ A b := by rw [← hAe]; exact Nat.not_le.mpr hbl
  refine lv_aload_n hx hb dL_law_604 rfl (lv_at hl 2 rfl) ?_
  refine fn_goi (wc := [(x0, .inr (11, [.ref (u 0), .ref (u 10), .ref (u 17), .ref (u 25), .ref (u 26), .ref (u 27), .ref (u 28), .ref (u 29), .ref (u 34), .ref (u 39), .ref (u 43), .ref (u 51), .ref (u 55)])), ((u 10), .inr (7, [.int 0, .int 0, .int 0, .int 0, .int 0, .int 0, .int 0, .int 0, .int 0, .ref (u 11), .ref (u 12), .ref (u 13), .ref (u 14), .ref (u 15), .ref (u 16)]))]) (wr := [(m0, .inr (12, [.int 0, .ref (v 0), .ref (v 1), .ref (v 2), .ref (v 3), .ref (v 4), .int 0, .int 0, .int 0, .int 0, .int 0, .long 0, .int 0, .int 0, .int 0, .int (-1), .ref (v 5), .ref (v 6), .ref (v 7), .ref (v 8), .ref (v 9), .ref (v 10), .ref (v 11), .ref (v 12), .ref (v 13), .ref (v 14), .ref (v 15), .ref (v 16), .ref (v 17), .ref (v 18), .ref (v 19), .ref (v 20), .int 0, .int 0, .int 0, .int 0, .ref (v 21), .ref (v 22), .ref (v 23), .int 0, .int 0, .ref (v 24), .ref (v 25), .int 0, .int 0, .ref (v 26), .ref (v 27), .ref (v 28), .int 0, .int 0, .int 0])), ((v 0), .inl (K 0, 4, .inl fw)), ((v 1), .inl (K 0, 4, .inl (fun _ => 0))), ((v 2), .inl (K 3, 240, .inr (.inl (fun _ => 0)))), ((v 4), .inl (K 1, 1400, .inl (fun _ => 0))), ((v 5), .inl (K 0, 5, .inl (fun _ => 0))), ((v 6), .inl (K 0, 40, .inl (fun _ => 0))), ((v 7), .inl (K 0, 50, .inl (fun _ => 0))), ((v 8), .inl (K 0, 60, .inl (fun _ => 0))), ((v 9), .inl (K 0, 480, .inl (fun _ => 0))), ((v 10), .inl (K 0, 600, .inl (fun _ => 0))), ((v 11), .inl (K 2, 3, .inl (fun _ => 0)))]) hK hP hD hS hA [0, 11] [88, 89, 90, 91, 92, 93, 94, 95, 96, 97, 98, 99] rfl rfl (by decide) (fun hp => va_runV (C := RX11) (As := []) (rest := []) ⟨hx, hb, hml, hown, hts⟩ (c_X11_astray (l := l) (D := D) (K := K) (x0 := (x0)) (fx := ([.ref (u 0), .ref (u 10), .ref (u 17), .ref (u 25), .ref (u 26), .ref (u 27), .ref (u 28), .ref (u 29), .ref (u 34), .ref (u 39), .ref (u 43), .ref (u 51), .ref (u 55)])) (t0 := ((u 10))) (hx1 := rfl) (ft := ([.int 0, .int 0, .int 0, .int 0, .int 0, .int 0, .int 0, .int 0, .int 0, .ref (u 11), .ref (u 12), .ref (u 13), .ref (u 14), .ref (u 15), .ref (u 16)])) (ht0 := rfl) (ht3 := rfl) (ht4 := rfl) (ht5 := rfl) _) (cwV 0 hts (fn_ginV (fn_gin wd_705) wd_702 wd_703 wd_704 wd_1) rfl rfl rfl (by decide +kernel) ⟨Nat.le_of_ble_eq_true rfl, Nat.le_of_ble_eq_true rfl⟩) ⟨fn_blind, va_recv hK.1 hP (ci := 11) (q0 := 0) rfl rfl, hp⟩ rfl rfl hl.1 rfl (lv_room (Nat.le_of_ble_eq_true rfl)) dL_law_605 ⟨Nat.le_of_ble_eq_true rfl, Nat.le_of_ble_eq_true rfl⟩) (fun r2 u1 H locs hwu1 hP hD hS => ?_)
  have r2_e : r2 = (-2) := hwu1
  subst r2_e
  have hP : va_P D vwCl [(m0, .inr (12, [.int 0, .ref (v 0), .ref (v 1), .ref (v 2), .ref (v 3), .ref (v 4), .int 0, .int 0, .int 0, .int 0, .int 0, .long 0, .int 0, .int 0, .int 0, .int (-1), .ref (v 5), .ref (v 6), .ref (v 7), .ref (v 8), .ref (v 9), .ref (v 10), .ref (v 11), .ref (v 12), .ref (v 13), .ref (v 14), .ref (v 15), .ref (v 16), .ref (v 17), .ref (v 18), .ref (v 19), .ref (v 20), .int 0, .int 0, .int 0, .int 0, .ref (v 21), .ref (v 22), .ref (v 23), .int 0, .int 0, .ref (v 24), .ref (v 25), .int 0, .int 0, .ref (v 26), .ref (v 27), .ref (v 28), .int 0, .int 0, .int 0])), ((v 0), .inl (K 0, 4, .inl fw)), ((v 1), .inl (K 0, 4, .inl (fun _ => 0))), ((v 2), .inl (K 3, 240, .inr (.inl (fun _ => 0)))), ((v 4), .inl (K 1, 1400, .inl (fun _ => 0))), ((v 5), .inl (K 0, 5, .inl (fun _ => 0))), ((v 6), .inl (K 0, 40, .inl (fun _ => 0))), ((v 7), .inl (K 0, 50, .inl (fun _ => 0))), ((v 8), .inl (K 0, 60, .inl (fun _ => 0))), ((v 9), .inl (K 0, 480, .inl (fun _ => 0))), ((v 10), .inl (K 0, 600, .inl (fun _ => 0))), ((v 11), .inl (K 2, 3, .inl (fun _ => 0)))] H := hP
  have hD : va_D A [(m0, .inr (12, [.int 0, .ref (v 0), .ref (v 1), .ref (v 2), .ref (v 3), .ref (v 4), .int 0, .int 0, .int 0, .int 0, .int 0, .long 0, .int 0, .int 0, .int 0, .int (-1), .ref (v 5), .ref (v 6), .ref (v 7), .ref (v 8), .ref (v 9), .ref (v 10), .ref (v 11), .ref (v 12), .ref (v 13), .ref (v 14), .ref (v 15), .ref (v 16), .ref (v 17), .ref (v 18), .ref (v 19), .ref (v 20), .int 0, .int 0, .int 0, .int 0, .ref (v 21), .ref (v 22), .ref (v 23), .int 0, .int 0, .ref (v 24), .ref (v 25), .int 0, .int 0, .ref (v 26), .ref (v 27), .ref (v 28), .int 0, .int 0, .int 0])), ((v 0), .inl (K 0, 4, .inl fw)), ((v 1), .inl (K 0, 4, .inl (fun _ => 0))), ((v 2), .inl (K 3, 240, .inr (.inl (fun _ => 0)))), ((v 4), .inl (K 1, 1400, .inl (fun _ => 0))), ((v 5), .inl (K 0, 5, .inl (fun _ => 0))), ((v 6), .inl (K 0, 40, .inl (fun _ => 0))), ((v 7), .inl (K 0, 50, .inl (fun _ => 0))), ((v 8), .inl (K 0, 60, .inl (fun _ => 0))), ((v 9), .inl (K 0, 480, .inl (fun _ => 0))), ((v 10), .inl (K 0, 600, .inl (fun _ => 0))), ((v 11), .inl (K 2, 3, .inl (fun _ => 0)))] := hD
  refine lv_aload_n hx hb dL_law_608 rfl (lv_at hl 1 rfl) ?_
  refine fn_goi (wc := [(m0, .inr (12, [.int 0, .ref (v 0), .ref (v 1), .ref (v 2), .ref (v 3), .ref (v 4), .int 0, .int 0, .int 0, .int 0, .int 0, .long 0, .int 0, .int 0, .int 0, .int (-1), .ref (v 5), .ref (v 6), .ref (v 7), .ref (v 8), .ref (v 9), .ref (v 10), .ref (v 11), .ref (v 12), .ref (v 13), .ref (v 14), .ref (v 15), .ref (v 16), .ref (v 17), .ref (v 18), .ref (v 19), .ref (v 20), .int 0, .int 0, .int 0, .int 0, .ref (v 21), .ref (v 22), .ref (v 23), .int 0, .int 0, .ref (v 24), .ref (v 25), .int 0, .int 0, .ref (v 26), .ref (v 27), .ref (v 28), .int 0, .int 0, .int 0])), ((v 5), .inl (K 0, 5, .inl (fun _ => 0))), ((v 6), .inl (K 0, 40, .inl (fun _ => 0)))]) (wr := []) hK hP hD hS hA [0, 5, 6] [] rfl rfl (by decide) (fun hp => va_runV (C := RX12) (As := []) (rest := [.int (-2)]) ⟨hx, hb, hml, hown, hts⟩ (c_X12_astray (l := l) (D := D) (K := K) (m0 := (m0)) (fm := ([.int 0, .ref (v 0), .ref (v 1), .ref (v 2), .ref (v 3), .ref (v 4), .int 0, .int 0, .int 0, .int 0, .int 0, .long 0, .int 0, .int 0, .int 0, .int (-1), .ref (v 5), .ref (v 6), .ref (v 7), .ref (v 8), .ref (v 9), .ref (v 10), .ref (v 11), .ref (v 12), .ref (v 13), .ref (v 14), .ref (v 15), .ref (v 16), .ref (v 17), .ref (v 18), .ref (v 19), .ref (v 20), .int 0, .int 0, .int 0, .int 0, .ref (v 21), .ref (v 22), .ref (v 23), .int 0, .int 0, .ref (v 24), .ref (v 25), .int 0, .int 0, .ref (v 26), .ref (v 27), .ref (v 28), .int 0, .int 0, .int 0])) (hmn := rfl) (al := ((v 5))) (hm16 := rfl) (ah := ((v 6))) (hm17 := rfl) (fl := (fun _ => 0)) (hfl := (fun _ => rfl)) (fh := (fun _ => 0)) (hfh := (fun _ => rfl)) _) (cwV 0 hts (fn_ginV (fn_gin wd_1595) wd_1592 wd_1593 wd_1594 wd_13) rfl rfl rfl (by decide +kernel) ⟨Nat.le_of_ble_eq_true rfl, Nat.le_of_ble_eq_true rfl⟩) ⟨fn_blind, va_recv hK.1 hP (ci := 12) (q0 := 0) rfl rfl, hp⟩ rfl rfl hl.1 rfl (lv_room (Nat.le_of_ble_eq_true rfl)) dL_law_609 ⟨Nat.le_of_ble_eq_true rfl, Nat.le_of_ble_eq_true rfl⟩) (fun r4 u3 H locs hwu3 hP hD hS => ?_)
  have r4_e : r4 = (-2) := hwu3
  subst r4_e
  have hP : va_P D vwCl [] H := hP
  have hD : va_D A [] := hD
  refine lv_icmp_eq (tgt := 1996) hx hb dL_law_612 (by decide) (fun _ => ?_) (fun h9 => absurd (by decide) h9)
  refine lv_iinc (v := 6) (lv' := [(3, .int 6), (2, .ref m0), (1, .ref x0), (0, .ref b)]) hx hb dL_law_1996 hl (k := 0) rfl (by decide) (by decide) rfl (fun ls hl => ?_)
  refine lv_goto (tgt := 18) hx hb dL_law_1999 (by decide) ?_
  refine lv_iload_n hx hb dL_law_18 rfl (lv_at hl 0 rfl) ?_
  refine lv_aload_n hx hb dL_law_19 rfl (lv_at hl 3 rfl) ?_
  refine va_slen hx hb hX hbl hbA hS dL_law_20 ?_
  refine fn_top 6 (by decide) ?_
  refine lv_bipush (v := 6) hx hb dL_law_21 (by decide) ?_
  refine lv_isub hx hb dL_law_23 ?_
  refine fn_top 0 (by decide) ?_
  refine lv_icmp_gt (tgt := 2002) hx hb dL_law_24 (by decide) (fun _ => ?_) (fun h9 => absurd (by decide) h9)
  refine lv_iconst (v := 1) hx hb dL_law_2002 (by decide) ?_
  refine va_forget (fun q hq => by have h9 := hS.2.2 q hq; rw [← hAe] at h9; exact h9) ?_
  refine W.widen (k := 600000) (n := 7302250) (Nat.le_of_ble_eq_true rfl) (Nat.le_of_ble_eq_true rfl) ?_
  exact lw_ret hx hb hr hlocks dL_law_2003
theorem dL_law_617 : decode cL_law 617 = .ok (.aload_n 1, 1) := by decide +kernel
theorem dL_law_618 : decode cL_law 618 = .ok (.aload_n 0, 1) := by decide +kernel
theorem dL_law_619 : decode cL_law 619 = .ok (.iload_n 3, 1) := by decide +kernel
theorem dL_law_620 : decode cL_law 620 = .ok (.iconst 1, 1) := by decide +kernel
theorem dL_law_621 : decode cL_law 621 = .ok (.iadd, 1) := by decide +kernel
theorem dL_law_622 : decode cL_law 622 = .ok (.iaload, 1) := by decide +kernel
theorem dL_law_623 : decode cL_law 623 = .ok (.aload_n 0, 1) := by decide +kernel
theorem dL_law_624 : decode cL_law 624 = .ok (.iload_n 3, 1) := by decide +kernel
theorem dL_law_625 : decode cL_law 625 = .ok (.iconst 2, 1) := by decide +kernel
theorem dL_law_626 : decode cL_law 626 = .ok (.iadd, 1) := by decide +kernel
theorem dL_law_627 : decode cL_law 627 = .ok (.iaload, 1) := by decide +kernel
theorem dL_law_628 : decode cL_law 628 = .ok (.invokevirtual 61, 3) := by decide +kernel
theorem dL_law_631 : decode cL_law 631 = .ok (.aload_n 2, 1) := by decide +kernel
theorem dL_law_632 : decode cL_law 632 = .ok (.aload_n 0, 1) := by decide +kernel
theorem dL_law_633 : decode cL_law 633 = .ok (.iload_n 3, 1) := by decide +kernel
theorem dL_law_634 : decode cL_law 634 = .ok (.iconst 1, 1) := by decide +kernel
theorem dL_law_635 : decode cL_law 635 = .ok (.iadd, 1) := by decide +kernel
theorem dL_law_636 : decode cL_law 636 = .ok (.iaload, 1) := by decide +kernel
theorem dL_law_637 : decode cL_law 637 = .ok (.aload_n 0, 1) := by decide +kernel
theorem dL_law_638 : decode cL_law 638 = .ok (.iload_n 3, 1) := by decide +kernel
theorem dL_law_639 : decode cL_law 639 = .ok (.iconst 2, 1) := by decide +kernel
theorem dL_law_640 : decode cL_law 640 = .ok (.iadd, 1) := by decide +kernel
theorem dL_law_641 : decode cL_law 641 = .ok (.iaload, 1) := by decide +kernel
theorem dL_law_642 : decode cL_law 642 = .ok (.invokevirtual 64, 3) := by decide +kernel
theorem dL_law_645 : decode cL_law 645 = .ok (.if_icmp .eq 1351, 3) := by decide +kernel
set_option maxHeartbeats 4000000 in
set_option maxRecDepth 100000 in
theorem law_11 {p : Program} {l : Launch} {e : Env} {s : State} {m : MethodId} {below : List Frame} {meth : Method} {c : Code} {b : Nat} {xs : Nat → Int32} (hx : p.tables.exec = Jvm.exec) (hb : c.code = cL_law) (hr : meth.sig.returnType = ret) (hml : c.maxLocals = 4) (hown : s.vm.findClass RL = some m.cls) (hts : ∀ w ∈ fn_big, w.before #[Value.ref b] s = true) (hX : va_X b 6 xs s s.heap) (hbl : b < s.heap.size) (hlocks : meth.locks = false) {D : va_G} {K : Nat → ClassId} (hK : fn_KK D K s) {x0 m0 : Nat} {u v : Nat → Nat} {fw : Nat → Int32} (hfw : ∀ j, j < 4 → fw j = -1) {A : Nat → Prop} (hAe : (fun q : Nat => s.heap.size ≤ q) = A) : ∀ (H : Heap) (locs : List Loc) (ls : Array Slot), va_P D vwCl (fn_world K x0 m0 u v fw) H → va_D A (fn_world K x0 m0 u v fw) → va_S A s.heap H locs → lv_has ls 4 [(3, .int 0), (2, .ref m0), (1, .ref x0), (0, .ref b)] → W p l e room_1 s m #[Value.ref b] below meth c H locs 144 12710 (lw_Z below #[Value.ref b] s) (F0 m 617 ls []) := by
  intro H locs ls hP hD hS hl
  have hA : ∀ q : Nat, s.heap.size ≤ q → A q := fun q h => by rw [← hAe]; exact h
  have hbA : ¬ A b := by rw [← hAe]; exact Nat.not_le.mpr hbl
  refine lv_aload_n hx hb dL_law_617 rfl (lv_at hl 2 rfl) ?_
  refine lv_aload_n hx hb dL_law_618 rfl (lv_at hl 3 rfl) ?_
  refine lv_iload_n hx hb dL_law_619 rfl (lv_at hl 0 rfl) ?_
  refine lv_iconst (v := 1) hx hb dL_law_620 (by decide) ?_
  refine lv_iadd hx hb dL_law_621 ?_
  refine fn_top 1 (by decide) ?_
  refine va_sld hx hb hX hbl hbA hS (by unfold vp_in; decide) dL_law_622 ?_
  refine fn_top (xs 1) (congrArg xs (by decide)) ?_
  refine lv_aload_n hx hb dL_law_623 rfl (lv_at hl 3 rfl) ?_
  refine lv_iload_n hx hb dL_law_624 rfl (lv_at hl 0 rfl) ?_
  refine lv_iconst (v := 2) hx hb dL_law_625 (by decide) ?_
  refine lv_iadd hx hb dL_law_626 ?_
  refine fn_top 2 (by decide) ?_
  refine va_sld hx hb hX hbl hbA hS (by unfold vp_in; decide) dL_law_627 ?_
  refine fn_top (xs 2) (congrArg xs (by decide)) ?_
  refine fn_goi (wc := [(x0, .inr (11, [.ref (u 0), .ref (u 10), .ref (u 17), .ref (u 25), .ref (u 26), .ref (u 27), .ref (u 28), .ref (u 29), .ref (u 34), .ref (u 39), .ref (u 43), .ref (u 51), .ref (u 55)])), ((u 10), .inr (7, [.int 0, .int 0, .int 0, .int 0, .int 0, .int 0, .int 0, .int 0, .int 0, .ref (u 11), .ref (u 12), .ref (u 13), .ref (u 14), .ref (u 15), .ref (u 16)]))]) (wr := [(m0, .inr (12, [.int 0, .ref (v 0), .ref (v 1), .ref (v 2), .ref (v 3), .ref (v 4), .int 0, .int 0, .int 0, .int 0, .int 0, .long 0, .int 0, .int 0, .int 0, .int (-1), .ref (v 5), .ref (v 6), .ref (v 7), .ref (v 8), .ref (v 9), .ref (v 10), .ref (v 11), .ref (v 12), .ref (v 13), .ref (v 14), .ref (v 15), .ref (v 16), .ref (v 17), .ref (v 18), .ref (v 19), .ref (v 20), .int 0, .int 0, .int 0, .int 0, .ref (v 21), .ref (v 22), .ref (v 23), .int 0, .int 0, .ref (v 24), .ref (v 25), .int 0, .int 0, .ref (v 26), .ref (v 27), .ref (v 28), .int 0, .int 0, .int 0])), ((v 0), .inl (K 0, 4, .inl fw)), ((v 1), .inl (K 0, 4, .inl (fun _ => 0))), ((v 2), .inl (K 3, 240, .inr (.inl (fun _ => 0)))), ((v 4), .inl (K 1, 1400, .inl (fun _ => 0))), ((v 5), .inl (K 0, 5, .inl (fun _ => 0))), ((v 6), .inl (K 0, 40, .inl (fun _ => 0))), ((v 7), .inl (K 0, 50, .inl (fun _ => 0))), ((v 8), .inl (K 0, 60, .inl (fun _ => 0))), ((v 9), .inl (K 0, 480, .inl (fun _ => 0))), ((v 10), .inl (K 0, 600, .inl (fun _ => 0))), ((v 11), .inl (K 2, 3, .inl (fun _ => 0)))]) hK hP hD hS hA [0, 11] [88, 89, 90, 91, 92, 93, 94, 95, 96, 97, 98, 99] rfl rfl (by decide) (fun hp => va_runV (C := RX11) (As := [.int (xs 1), .int (xs 2)]) (rest := []) ⟨hx, hb, hml, hown, hts⟩ (c_X11_edition (l := l) (D := D) (K := K) (x0 := (x0)) (p0 := ((xs 1))) (p1 := ((xs 2))) (fx := ([.ref (u 0), .ref (u 10), .ref (u 17), .ref (u 25), .ref (u 26), .ref (u 27), .ref (u 28), .ref (u 29), .ref (u 34), .ref (u 39), .ref (u 43), .ref (u 51), .ref (u 55)])) (t0 := ((u 10))) (hx1 := rfl) (ft := ([.int 0, .int 0, .int 0, .int 0, .int 0, .int 0, .int 0, .int 0, .int 0, .ref (u 11), .ref (u 12), .ref (u 13), .ref (u 14), .ref (u 15), .ref (u 16)])) (ht0 := rfl) (ht3 := rfl) (ht4 := rfl) (ht5 := rfl) _) (cwV 2 hts (fn_ginV (fn_gin wd_714) wd_711 wd_712 wd_713 wd_1) rfl rfl rfl (by decide +kernel) ⟨Nat.le_of_ble_eq_true rfl, Nat.le_of_ble_eq_true rfl⟩) ⟨fn_blind, va_recv hK.1 hP (ci := 11) (q0 := 0) rfl rfl, hp⟩ rfl rfl hl.1 rfl (lv_room (Nat.le_of_ble_eq_true rfl)) dL_law_628 ⟨Nat.le_of_ble_eq_true rfl, Nat.le_of_ble_eq_true rfl⟩) (fun r2 u1 H locs hwu1 hP hD hS => ?_)
  have r2_e : r2 = (-2) := hwu1
  subst r2_e
  have hP : va_P D vwCl [(m0, .inr (12, [.int 0, .ref (v 0), .ref (v 1), .ref (v 2), .ref (v 3), .ref (v 4), .int 0, .int 0, .int 0, .int 0, .int 0, .long 0, .int 0, .int 0, .int 0, .int (-1), .ref (v 5), .ref (v 6), .ref (v 7), .ref (v 8), .ref (v 9), .ref (v 10), .ref (v 11), .ref (v 12), .ref (v 13), .ref (v 14), .ref (v 15), .ref (v 16), .ref (v 17), .ref (v 18), .ref (v 19), .ref (v 20), .int 0, .int 0, .int 0, .int 0, .ref (v 21), .ref (v 22), .ref (v 23), .int 0, .int 0, .ref (v 24), .ref (v 25), .int 0, .int 0, .ref (v 26), .ref (v 27), .ref (v 28), .int 0, .int 0, .int 0])), ((v 0), .inl (K 0, 4, .inl fw)), ((v 1), .inl (K 0, 4, .inl (fun _ => 0))), ((v 2), .inl (K 3, 240, .inr (.inl (fun _ => 0)))), ((v 4), .inl (K 1, 1400, .inl (fun _ => 0))), ((v 5), .inl (K 0, 5, .inl (fun _ => 0))), ((v 6), .inl (K 0, 40, .inl (fun _ => 0))), ((v 7), .inl (K 0, 50, .inl (fun _ => 0))), ((v 8), .inl (K 0, 60, .inl (fun _ => 0))), ((v 9), .inl (K 0, 480, .inl (fun _ => 0))), ((v 10), .inl (K 0, 600, .inl (fun _ => 0))), ((v 11), .inl (K 2, 3, .inl (fun _ => 0)))] H := hP
  have hD : va_D A [(m0, .inr (12, [.int 0, .ref (v 0), .ref (v 1), .ref (v 2), .ref (v 3), .ref (v 4), .int 0, .int 0, .int 0, .int 0, .int 0, .long 0, .int 0, .int 0, .int 0, .int (-1), .ref (v 5), .ref (v 6), .ref (v 7), .ref (v 8), .ref (v 9), .ref (v 10), .ref (v 11), .ref (v 12), .ref (v 13), .ref (v 14), .ref (v 15), .ref (v 16), .ref (v 17), .ref (v 18), .ref (v 19), .ref (v 20), .int 0, .int 0, .int 0, .int 0, .ref (v 21), .ref (v 22), .ref (v 23), .int 0, .int 0, .ref (v 24), .ref (v 25), .int 0, .int 0, .ref (v 26), .ref (v 27), .ref (v 28), .int 0, .int 0, .int 0])), ((v 0), .inl (K 0, 4, .inl fw)), ((v 1), .inl (K 0, 4, .inl (fun _ => 0))), ((v 2), .inl (K 3, 240, .inr (.inl (fun _ => 0)))), ((v 4), .inl (K 1, 1400, .inl (fun _ => 0))), ((v 5), .inl (K 0, 5, .inl (fun _ => 0))), ((v 6), .inl (K 0, 40, .inl (fun _ => 0))), ((v 7), .inl (K 0, 50, .inl (fun _ => 0))), ((v 8), .inl (K 0, 60, .inl (fun _ => 0))), ((v 9), .inl (K 0, 480, .inl (fun _ => 0))), ((v 10), .inl (K 0, 600, .inl (fun _ => 0))), ((v 11), .inl (K 2, 3, .inl (fun _ => 0)))] := hD
  refine lv_aload_n hx hb dL_law_631 rfl (lv_at hl 1 rfl) ?_
  refine lv_aload_n hx hb dL_law_632 rfl (lv_at hl 3 rfl) ?_
  refine lv_iload_n hx hb dL_law_633 rfl (lv_at hl 0 rfl) ?_
  refine lv_iconst (v := 1) hx hb dL_law_634 (by decide) ?_
  refine lv_iadd hx hb dL_law_635 ?_
  refine fn_top 1 (by decide) ?_
  refine va_sld hx hb hX hbl hbA hS (by unfold vp_in; decide) dL_law_636 ?_
  refine fn_top (xs 1) (congrArg xs (by decide)) ?_
  refine lv_aload_n hx hb dL_law_637 rfl (lv_at hl 3 rfl) ?_
  refine fn_at 638 rfl ?_
  refine lv_iload_n hx hb dL_law_638 rfl (lv_at hl 0 rfl) ?_
  refine lv_iconst (v := 2) hx hb dL_law_639 (by decide) ?_
  refine lv_iadd hx hb dL_law_640 ?_
  refine fn_top 2 (by decide) ?_
  refine va_sld hx hb hX hbl hbA hS (by unfold vp_in; decide) dL_law_641 ?_
  refine fn_top (xs 2) (congrArg xs (by decide)) ?_
  refine fn_goi (wc := [(m0, .inr (12, [.int 0, .ref (v 0), .ref (v 1), .ref (v 2), .ref (v 3), .ref (v 4), .int 0, .int 0, .int 0, .int 0, .int 0, .long 0, .int 0, .int 0, .int 0, .int (-1), .ref (v 5), .ref (v 6), .ref (v 7), .ref (v 8), .ref (v 9), .ref (v 10), .ref (v 11), .ref (v 12), .ref (v 13), .ref (v 14), .ref (v 15), .ref (v 16), .ref (v 17), .ref (v 18), .ref (v 19), .ref (v 20), .int 0, .int 0, .int 0, .int 0, .ref (v 21), .ref (v 22), .ref (v 23), .int 0, .int 0, .ref (v 24), .ref (v 25), .int 0, .int 0, .ref (v 26), .ref (v 27), .ref (v 28), .int 0, .int 0, .int 0])), ((v 5), .inl (K 0, 5, .inl (fun _ => 0))), ((v 6), .inl (K 0, 40, .inl (fun _ => 0)))]) (wr := []) hK hP hD hS hA [0, 5, 6] [] rfl rfl (by decide) (fun hp => va_runV (C := RX12) (As := [.int (xs 1), .int (xs 2)]) (rest := [.int (-2)]) ⟨hx, hb, hml, hown, hts⟩ (c_X12_edition (l := l) (D := D) (K := K) (m0 := (m0)) (p0 := ((xs 1))) (p1 := ((xs 2))) (fm := ([.int 0, .ref (v 0), .ref (v 1), .ref (v 2), .ref (v 3), .ref (v 4), .int 0, .int 0, .int 0, .int 0, .int 0, .long 0, .int 0, .int 0, .int 0, .int (-1), .ref (v 5), .ref (v 6), .ref (v 7), .ref (v 8), .ref (v 9), .ref (v 10), .ref (v 11), .ref (v 12), .ref (v 13), .ref (v 14), .ref (v 15), .ref (v 16), .ref (v 17), .ref (v 18), .ref (v 19), .ref (v 20), .int 0, .int 0, .int 0, .int 0, .ref (v 21), .ref (v 22), .ref (v 23), .int 0, .int 0, .ref (v 24), .ref (v 25), .int 0, .int 0, .ref (v 26), .ref (v 27), .ref (v 28), .int 0, .int 0, .int 0])) (hmn := rfl) (al := ((v 5))) (hm16 := rfl) (ah := ((v 6))) (hm17 := rfl) (fl := (fun _ => 0)) (hfl := (fun _ => rfl)) (fh := (fun _ => 0)) (hfh := (fun _ => rfl)) _) (cwV 2 hts (fn_ginV (fn_gin wd_1603) wd_1600 wd_1601 wd_1602 wd_13) rfl rfl rfl (by decide +kernel) ⟨Nat.le_of_ble_eq_true rfl, Nat.le_of_ble_eq_true rfl⟩) ⟨fn_blind, va_recv hK.1 hP (ci := 12) (q0 := 0) rfl rfl, hp⟩ rfl rfl hl.1 rfl (lv_room (Nat.le_of_ble_eq_true rfl)) dL_law_642 ⟨Nat.le_of_ble_eq_true rfl, Nat.le_of_ble_eq_true rfl⟩) (fun r4 u3 H locs hwu3 hP hD hS => ?_)
  have r4_e : r4 = (-2) := hwu3
  subst r4_e
  have hP : va_P D vwCl [] H := hP
  have hD : va_D A [] := hD
  refine lv_icmp_eq (tgt := 1996) hx hb dL_law_645 (by decide) (fun _ => ?_) (fun h9 => absurd (by decide) h9)
  refine lv_iinc (v := 6) (lv' := [(3, .int 6), (2, .ref m0), (1, .ref x0), (0, .ref b)]) hx hb dL_law_1996 hl (k := 0) rfl (by decide) (by decide) rfl (fun ls hl => ?_)
  refine lv_goto (tgt := 18) hx hb dL_law_1999 (by decide) ?_
  refine lv_iload_n hx hb dL_law_18 rfl (lv_at hl 0 rfl) ?_
  refine lv_aload_n hx hb dL_law_19 rfl (lv_at hl 3 rfl) ?_
  refine va_slen hx hb hX hbl hbA hS dL_law_20 ?_
  refine fn_top 6 (by decide) ?_
  refine lv_bipush (v := 6) hx hb dL_law_21 (by decide) ?_
  refine lv_isub hx hb dL_law_23 ?_
  refine fn_top 0 (by decide) ?_
  refine lv_icmp_gt (tgt := 2002) hx hb dL_law_24 (by decide) (fun _ => ?_) (fun h9 => absurd (by decide) h9)
  refine lv_iconst (v := 1) hx hb dL_law_2002 (by decide) ?_
  refine va_forget (fun q hq => by have h9 := hS.2.2 q hq; rw [← hAe] at h9; exact h9) ?_
  refine W.widen (k := 600000) (n := 7302250) (Nat.le_of_ble_eq_true rfl) (Nat.le_of_ble_eq_true rfl) ?_
  exact lw_ret hx hb hr hlocks dL_law_2003
theorem dL_law_650 : decode cL_law 650 = .ok (.aload_n 1, 1) := by decide +kernel
theorem dL_law_651 : decode cL_law 651 = .ok (.aload_n 0, 1) := by decide +kernel
theorem dL_law_652 : decode cL_law 652 = .ok (.iload_n 3, 1) := by decide +kernel
theorem dL_law_653 : decode cL_law 653 = .ok (.iconst 1, 1) := by decide +kernel
theorem dL_law_654 : decode cL_law 654 = .ok (.iadd, 1) := by decide +kernel
theorem dL_law_655 : decode cL_law 655 = .ok (.iaload, 1) := by decide +kernel
theorem dL_law_656 : decode cL_law 656 = .ok (.aload_n 0, 1) := by decide +kernel
theorem dL_law_657 : decode cL_law 657 = .ok (.iload_n 3, 1) := by decide +kernel
theorem dL_law_658 : decode cL_law 658 = .ok (.iconst 2, 1) := by decide +kernel
theorem dL_law_659 : decode cL_law 659 = .ok (.iadd, 1) := by decide +kernel
theorem dL_law_660 : decode cL_law 660 = .ok (.iaload, 1) := by decide +kernel
theorem dL_law_661 : decode cL_law 661 = .ok (.invokevirtual 65, 3) := by decide +kernel
theorem dL_law_664 : decode cL_law 664 = .ok (.aload_n 2, 1) := by decide +kernel
theorem dL_law_665 : decode cL_law 665 = .ok (.aload_n 0, 1) := by decide +kernel
theorem dL_law_666 : decode cL_law 666 = .ok (.iload_n 3, 1) := by decide +kernel
theorem dL_law_667 : decode cL_law 667 = .ok (.iconst 1, 1) := by decide +kernel
theorem dL_law_668 : decode cL_law 668 = .ok (.iadd, 1) := by decide +kernel
theorem dL_law_669 : decode cL_law 669 = .ok (.iaload, 1) := by decide +kernel
theorem dL_law_670 : decode cL_law 670 = .ok (.aload_n 0, 1) := by decide +kernel
theorem dL_law_671 : decode cL_law 671 = .ok (.iload_n 3, 1) := by decide +kernel
theorem dL_law_672 : decode cL_law 672 = .ok (.iconst 2, 1) := by decide +kernel
theorem dL_law_673 : decode cL_law 673 = .ok (.iadd, 1) := by decide +kernel
theorem dL_law_674 : decode cL_law 674 = .ok (.iaload, 1) := by decide +kernel
theorem dL_law_675 : decode cL_law 675 = .ok (.invokevirtual 68, 3) := by decide +kernel
theorem dL_law_678 : decode cL_law 678 = .ok (.if_icmp .eq 1318, 3) := by decide +kernel
set_option maxHeartbeats 4000000 in
set_option maxRecDepth 100000 in
theorem law_12 {p : Program} {l : Launch} {e : Env} {s : State} {m : MethodId} {below : List Frame} {meth : Method} {c : Code} {b : Nat} {xs : Nat → Int32} (hx : p.tables.exec = Jvm.exec) (hb : c.code = cL_law) (hr : meth.sig.returnType = ret) (hml : c.maxLocals = 4) (hown : s.vm.findClass RL = some m.cls) (hts : ∀ w ∈ fn_big, w.before #[Value.ref b] s = true) (hX : va_X b 6 xs s s.heap) (hbl : b < s.heap.size) (hlocks : meth.locks = false) {D : va_G} {K : Nat → ClassId} (hK : fn_KK D K s) {x0 m0 : Nat} {u v : Nat → Nat} {fw : Nat → Int32} (hfw : ∀ j, j < 4 → fw j = -1) {A : Nat → Prop} (hAe : (fun q : Nat => s.heap.size ≤ q) = A) : ∀ (H : Heap) (locs : List Loc) (ls : Array Slot), va_P D vwCl (fn_world K x0 m0 u v fw) H → va_D A (fn_world K x0 m0 u v fw) → va_S A s.heap H locs → lv_has ls 4 [(3, .int 0), (2, .ref m0), (1, .ref x0), (0, .ref b)] → W p l e room_1 s m #[Value.ref b] below meth c H locs 144 12710 (lw_Z below #[Value.ref b] s) (F0 m 650 ls []) := by
  intro H locs ls hP hD hS hl
  have hA : ∀ q : Nat, s.heap.size ≤ q → A q := fun q h => by rw [← hAe]; exact h
  have hbA : ¬ A b := by rw [← hAe]; exact Nat.not_le.mpr hbl
  refine lv_aload_n hx hb dL_law_650 rfl (lv_at hl 2 rfl) ?_
  refine lv_aload_n hx hb dL_law_651 rfl (lv_at hl 3 rfl) ?_
  refine lv_iload_n hx hb dL_law_652 rfl (lv_at hl 0 rfl) ?_
  refine lv_iconst (v := 1) hx hb dL_law_653 (by decide) ?_
  refine lv_iadd hx hb dL_law_654 ?_
  refine fn_top 1 (by decide) ?_
  refine va_sld hx hb hX hbl hbA hS (by unfold vp_in; decide) dL_law_655 ?_
  refine fn_top (xs 1) (congrArg xs (by decide)) ?_
  refine lv_aload_n hx hb dL_law_656 rfl (lv_at hl 3 rfl) ?_
  refine lv_iload_n hx hb dL_law_657 rfl (lv_at hl 0 rfl) ?_
  refine lv_iconst (v := 2) hx hb dL_law_658 (by decide) ?_
  refine lv_iadd hx hb dL_law_659 ?_
  refine fn_top 2 (by decide) ?_
  refine va_sld hx hb hX hbl hbA hS (by unfold vp_in; decide) dL_law_660 ?_
  refine fn_top (xs 2) (congrArg xs (by decide)) ?_
  refine fn_goi (wc := [(x0, .inr (11, [.ref (u 0), .ref (u 10), .ref (u 17), .ref (u 25), .ref (u 26), .ref (u 27), .ref (u 28), .ref (u 29), .ref (u 34), .ref (u 39), .ref (u 43), .ref (u 51), .ref (u 55)])), ((u 10), .inr (7, [.int 0, .int 0, .int 0, .int 0, .int 0, .int 0, .int 0, .int 0, .int 0, .ref (u 11), .ref (u 12), .ref (u 13), .ref (u 14), .ref (u 15), .ref (u 16)]))]) (wr := [(m0, .inr (12, [.int 0, .ref (v 0), .ref (v 1), .ref (v 2), .ref (v 3), .ref (v 4), .int 0, .int 0, .int 0, .int 0, .int 0, .long 0, .int 0, .int 0, .int 0, .int (-1), .ref (v 5), .ref (v 6), .ref (v 7), .ref (v 8), .ref (v 9), .ref (v 10), .ref (v 11), .ref (v 12), .ref (v 13), .ref (v 14), .ref (v 15), .ref (v 16), .ref (v 17), .ref (v 18), .ref (v 19), .ref (v 20), .int 0, .int 0, .int 0, .int 0, .ref (v 21), .ref (v 22), .ref (v 23), .int 0, .int 0, .ref (v 24), .ref (v 25), .int 0, .int 0, .ref (v 26), .ref (v 27), .ref (v 28), .int 0, .int 0, .int 0])), ((v 0), .inl (K 0, 4, .inl fw)), ((v 1), .inl (K 0, 4, .inl (fun _ => 0))), ((v 2), .inl (K 3, 240, .inr (.inl (fun _ => 0)))), ((v 4), .inl (K 1, 1400, .inl (fun _ => 0))), ((v 5), .inl (K 0, 5, .inl (fun _ => 0))), ((v 6), .inl (K 0, 40, .inl (fun _ => 0))), ((v 7), .inl (K 0, 50, .inl (fun _ => 0))), ((v 8), .inl (K 0, 60, .inl (fun _ => 0))), ((v 9), .inl (K 0, 480, .inl (fun _ => 0))), ((v 10), .inl (K 0, 600, .inl (fun _ => 0))), ((v 11), .inl (K 2, 3, .inl (fun _ => 0)))]) hK hP hD hS hA [0, 11] [88, 89, 90, 91, 92, 93, 94, 95, 96, 97, 98, 99] rfl rfl (by decide) (fun hp => va_runV (C := RX11) (As := [.int (xs 1), .int (xs 2)]) (rest := []) ⟨hx, hb, hml, hown, hts⟩ (c_X11_tear (l := l) (D := D) (K := K) (x0 := (x0)) (p0 := ((xs 1))) (p1 := ((xs 2))) (fx := ([.ref (u 0), .ref (u 10), .ref (u 17), .ref (u 25), .ref (u 26), .ref (u 27), .ref (u 28), .ref (u 29), .ref (u 34), .ref (u 39), .ref (u 43), .ref (u 51), .ref (u 55)])) (t0 := ((u 10))) (hx1 := rfl) (ft := ([.int 0, .int 0, .int 0, .int 0, .int 0, .int 0, .int 0, .int 0, .int 0, .ref (u 11), .ref (u 12), .ref (u 13), .ref (u 14), .ref (u 15), .ref (u 16)])) (ht0 := rfl) (ht3 := rfl) (ht4 := rfl) (ht5 := rfl) _) (cwV 2 hts (fn_ginV (fn_gin wd_726) wd_723 wd_724 wd_725 wd_1) rfl rfl rfl (by decide +kernel) ⟨Nat.le_of_ble_eq_true rfl, Nat.le_of_ble_eq_true rfl⟩) ⟨fn_blind, va_recv hK.1 hP (ci := 11) (q0 := 0) rfl rfl, hp⟩ rfl rfl hl.1 rfl (lv_room (Nat.le_of_ble_eq_true rfl)) dL_law_661 ⟨Nat.le_of_ble_eq_true rfl, Nat.le_of_ble_eq_true rfl⟩) (fun r2 u1 H locs hwu1 hP hD hS => ?_)
  have r2_e : r2 = (-2) := hwu1
  subst r2_e
  have hP : va_P D vwCl [(m0, .inr (12, [.int 0, .ref (v 0), .ref (v 1), .ref (v 2), .ref (v 3), .ref (v 4), .int 0, .int 0, .int 0, .int 0, .int 0, .long 0, .int 0, .int 0, .int 0, .int (-1), .ref (v 5), .ref (v 6), .ref (v 7), .ref (v 8), .ref (v 9), .ref (v 10), .ref (v 11), .ref (v 12), .ref (v 13), .ref (v 14), .ref (v 15), .ref (v 16), .ref (v 17), .ref (v 18), .ref (v 19), .ref (v 20), .int 0, .int 0, .int 0, .int 0, .ref (v 21), .ref (v 22), .ref (v 23), .int 0, .int 0, .ref (v 24), .ref (v 25), .int 0, .int 0, .ref (v 26), .ref (v 27), .ref (v 28), .int 0, .int 0, .int 0])), ((v 0), .inl (K 0, 4, .inl fw)), ((v 1), .inl (K 0, 4, .inl (fun _ => 0))), ((v 2), .inl (K 3, 240, .inr (.inl (fun _ => 0)))), ((v 4), .inl (K 1, 1400, .inl (fun _ => 0))), ((v 5), .inl (K 0, 5, .inl (fun _ => 0))), ((v 6), .inl (K 0, 40, .inl (fun _ => 0))), ((v 7), .inl (K 0, 50, .inl (fun _ => 0))), ((v 8), .inl (K 0, 60, .inl (fun _ => 0))), ((v 9), .inl (K 0, 480, .inl (fun _ => 0))), ((v 10), .inl (K 0, 600, .inl (fun _ => 0))), ((v 11), .inl (K 2, 3, .inl (fun _ => 0)))] H := hP
  have hD : va_D A [(m0, .inr (12, [.int 0, .ref (v 0), .ref (v 1), .ref (v 2), .ref (v 3), .ref (v 4), .int 0, .int 0, .int 0, .int 0, .int 0, .long 0, .int 0, .int 0, .int 0, .int (-1), .ref (v 5), .ref (v 6), .ref (v 7), .ref (v 8), .ref (v 9), .ref (v 10), .ref (v 11), .ref (v 12), .ref (v 13), .ref (v 14), .ref (v 15), .ref (v 16), .ref (v 17), .ref (v 18), .ref (v 19), .ref (v 20), .int 0, .int 0, .int 0, .int 0, .ref (v 21), .ref (v 22), .ref (v 23), .int 0, .int 0, .ref (v 24), .ref (v 25), .int 0, .int 0, .ref (v 26), .ref (v 27), .ref (v 28), .int 0, .int 0, .int 0])), ((v 0), .inl (K 0, 4, .inl fw)), ((v 1), .inl (K 0, 4, .inl (fun _ => 0))), ((v 2), .inl (K 3, 240, .inr (.inl (fun _ => 0)))), ((v 4), .inl (K 1, 1400, .inl (fun _ => 0))), ((v 5), .inl (K 0, 5, .inl (fun _ => 0))), ((v 6), .inl (K 0, 40, .inl (fun _ => 0))), ((v 7), .inl (K 0, 50, .inl (fun _ => 0))), ((v 8), .inl (K 0, 60, .inl (fun _ => 0))), ((v 9), .inl (K 0, 480, .inl (fun _ => 0))), ((v 10), .inl (K 0, 600, .inl (fun _ => 0))), ((v 11), .inl (K 2, 3, .inl (fun _ => 0)))] := hD
  refine lv_aload_n hx hb dL_law_664 rfl (lv_at hl 1 rfl) ?_
  refine lv_aload_n hx hb dL_law_665 rfl (lv_at hl 3 rfl) ?_
  refine lv_iload_n hx hb dL_law_666 rfl (lv_at hl 0 rfl) ?_
  refine lv_iconst (v := 1) hx hb dL_law_667 (by decide) ?_
  refine lv_iadd hx hb dL_law_668 ?_
  refine fn_top 1 (by decide) ?_
  refine va_sld hx hb hX hbl hbA hS (by unfold vp_in; decide) dL_law_669 ?_
  refine fn_top (xs 1) (congrArg xs (by decide)) ?_
  refine lv_aload_n hx hb dL_law_670 rfl (lv_at hl 3 rfl) ?_
  refine fn_at 671 rfl ?_
  refine lv_iload_n hx hb dL_law_671 rfl (lv_at hl 0 rfl) ?_
  refine lv_iconst (v := 2) hx hb dL_law_672 (by decide) ?_
  refine lv_iadd hx hb dL_law_673 ?_
  refine fn_top 2 (by decide) ?_
  refine va_sld hx hb hX hbl hbA hS (by unfold vp_in; decide) dL_law_674 ?_
  refine fn_top (xs 2) (congrArg xs (by decide)) ?_
  refine fn_goi (wc := [(m0, .inr (12, [.int 0, .ref (v 0), .ref (v 1), .ref (v 2), .ref (v 3), .ref (v 4), .int 0, .int 0, .int 0, .int 0, .int 0, .long 0, .int 0, .int 0, .int 0, .int (-1), .ref (v 5), .ref (v 6), .ref (v 7), .ref (v 8), .ref (v 9), .ref (v 10), .ref (v 11), .ref (v 12), .ref (v 13), .ref (v 14), .ref (v 15), .ref (v 16), .ref (v 17), .ref (v 18), .ref (v 19), .ref (v 20), .int 0, .int 0, .int 0, .int 0, .ref (v 21), .ref (v 22), .ref (v 23), .int 0, .int 0, .ref (v 24), .ref (v 25), .int 0, .int 0, .ref (v 26), .ref (v 27), .ref (v 28), .int 0, .int 0, .int 0])), ((v 5), .inl (K 0, 5, .inl (fun _ => 0))), ((v 6), .inl (K 0, 40, .inl (fun _ => 0)))]) (wr := []) hK hP hD hS hA [0, 5, 6] [] rfl rfl (by decide) (fun hp => va_runV (C := RX12) (As := [.int (xs 1), .int (xs 2)]) (rest := [.int (-2)]) ⟨hx, hb, hml, hown, hts⟩ (c_X12_tear (l := l) (D := D) (K := K) (m0 := (m0)) (p0 := ((xs 1))) (p1 := ((xs 2))) (fm := ([.int 0, .ref (v 0), .ref (v 1), .ref (v 2), .ref (v 3), .ref (v 4), .int 0, .int 0, .int 0, .int 0, .int 0, .long 0, .int 0, .int 0, .int 0, .int (-1), .ref (v 5), .ref (v 6), .ref (v 7), .ref (v 8), .ref (v 9), .ref (v 10), .ref (v 11), .ref (v 12), .ref (v 13), .ref (v 14), .ref (v 15), .ref (v 16), .ref (v 17), .ref (v 18), .ref (v 19), .ref (v 20), .int 0, .int 0, .int 0, .int 0, .ref (v 21), .ref (v 22), .ref (v 23), .int 0, .int 0, .ref (v 24), .ref (v 25), .int 0, .int 0, .ref (v 26), .ref (v 27), .ref (v 28), .int 0, .int 0, .int 0])) (hmn := rfl) (al := ((v 5))) (hm16 := rfl) (ah := ((v 6))) (hm17 := rfl) (fl := (fun _ => 0)) (hfl := (fun _ => rfl)) (fh := (fun _ => 0)) (hfh := (fun _ => rfl)) _) (cwV 2 hts (fn_ginV (fn_gin wd_1611) wd_1608 wd_1609 wd_1610 wd_13) rfl rfl rfl (by decide +kernel) ⟨Nat.le_of_ble_eq_true rfl, Nat.le_of_ble_eq_true rfl⟩) ⟨fn_blind, va_recv hK.1 hP (ci := 12) (q0 := 0) rfl rfl, hp⟩ rfl rfl hl.1 rfl (lv_room (Nat.le_of_ble_eq_true rfl)) dL_law_675 ⟨Nat.le_of_ble_eq_true rfl, Nat.le_of_ble_eq_true rfl⟩) (fun r4 u3 H locs hwu3 hP hD hS => ?_)
  have r4_e : r4 = (-2) := hwu3
  subst r4_e
  have hP : va_P D vwCl [] H := hP
  have hD : va_D A [] := hD
  refine lv_icmp_eq (tgt := 1996) hx hb dL_law_678 (by decide) (fun _ => ?_) (fun h9 => absurd (by decide) h9)
  refine lv_iinc (v := 6) (lv' := [(3, .int 6), (2, .ref m0), (1, .ref x0), (0, .ref b)]) hx hb dL_law_1996 hl (k := 0) rfl (by decide) (by decide) rfl (fun ls hl => ?_)
  refine lv_goto (tgt := 18) hx hb dL_law_1999 (by decide) ?_
  refine lv_iload_n hx hb dL_law_18 rfl (lv_at hl 0 rfl) ?_
  refine lv_aload_n hx hb dL_law_19 rfl (lv_at hl 3 rfl) ?_
  refine va_slen hx hb hX hbl hbA hS dL_law_20 ?_
  refine fn_top 6 (by decide) ?_
  refine lv_bipush (v := 6) hx hb dL_law_21 (by decide) ?_
  refine lv_isub hx hb dL_law_23 ?_
  refine fn_top 0 (by decide) ?_
  refine lv_icmp_gt (tgt := 2002) hx hb dL_law_24 (by decide) (fun _ => ?_) (fun h9 => absurd (by decide) h9)
  refine lv_iconst (v := 1) hx hb dL_law_2002 (by decide) ?_
  refine va_forget (fun q hq => by have h9 := hS.2.2 q hq; rw [← hAe] at h9; exact h9) ?_
  refine W.widen (k := 600000) (n := 7302250) (Nat.le_of_ble_eq_true rfl) (Nat.le_of_ble_eq_true rfl) ?_
  exact lw_ret hx hb hr hlocks dL_law_2003
theorem dL_law_683 : decode cL_law 683 = .ok (.aload_n 1, 1) := by decide +kernel
theorem dL_law_684 : decode cL_law 684 = .ok (.aload_n 0, 1) := by decide +kernel
theorem dL_law_685 : decode cL_law 685 = .ok (.iload_n 3, 1) := by decide +kernel
theorem dL_law_686 : decode cL_law 686 = .ok (.iconst 1, 1) := by decide +kernel
theorem dL_law_687 : decode cL_law 687 = .ok (.iadd, 1) := by decide +kernel
theorem dL_law_688 : decode cL_law 688 = .ok (.iaload, 1) := by decide +kernel
theorem dL_law_689 : decode cL_law 689 = .ok (.aload_n 0, 1) := by decide +kernel
theorem dL_law_690 : decode cL_law 690 = .ok (.iload_n 3, 1) := by decide +kernel
theorem dL_law_691 : decode cL_law 691 = .ok (.iconst 2, 1) := by decide +kernel
theorem dL_law_692 : decode cL_law 692 = .ok (.iadd, 1) := by decide +kernel
theorem dL_law_693 : decode cL_law 693 = .ok (.iaload, 1) := by decide +kernel
theorem dL_law_694 : decode cL_law 694 = .ok (.invokevirtual 69, 3) := by decide +kernel
theorem dL_law_697 : decode cL_law 697 = .ok (.aload_n 2, 1) := by decide +kernel
theorem dL_law_698 : decode cL_law 698 = .ok (.aload_n 0, 1) := by decide +kernel
theorem dL_law_699 : decode cL_law 699 = .ok (.iload_n 3, 1) := by decide +kernel
theorem dL_law_700 : decode cL_law 700 = .ok (.iconst 1, 1) := by decide +kernel
theorem dL_law_701 : decode cL_law 701 = .ok (.iadd, 1) := by decide +kernel
theorem dL_law_702 : decode cL_law 702 = .ok (.iaload, 1) := by decide +kernel
theorem dL_law_703 : decode cL_law 703 = .ok (.aload_n 0, 1) := by decide +kernel
theorem dL_law_704 : decode cL_law 704 = .ok (.iload_n 3, 1) := by decide +kernel
theorem dL_law_705 : decode cL_law 705 = .ok (.iconst 2, 1) := by decide +kernel
theorem dL_law_706 : decode cL_law 706 = .ok (.iadd, 1) := by decide +kernel
theorem dL_law_707 : decode cL_law 707 = .ok (.iaload, 1) := by decide +kernel
theorem dL_law_708 : decode cL_law 708 = .ok (.invokevirtual 72, 3) := by decide +kernel
theorem dL_law_711 : decode cL_law 711 = .ok (.if_icmp .eq 1285, 3) := by decide +kernel
set_option maxHeartbeats 4000000 in
set_option maxRecDepth 100000 in
theorem law_13 {p : Program} {l : Launch} {e : Env} {s : State} {m : MethodId} {below : List Frame} {meth : Method} {c : Code} {b : Nat} {xs : Nat → Int32} (hx : p.tables.exec = Jvm.exec) (hb : c.code = cL_law) (hr : meth.sig.returnType = ret) (hml : c.maxLocals = 4) (hown : s.vm.findClass RL = some m.cls) (hts : ∀ w ∈ fn_big, w.before #[Value.ref b] s = true) (hX : va_X b 6 xs s s.heap) (hbl : b < s.heap.size) (hlocks : meth.locks = false) {D : va_G} {K : Nat → ClassId} (hK : fn_KK D K s) {x0 m0 : Nat} {u v : Nat → Nat} {fw : Nat → Int32} (hfw : ∀ j, j < 4 → fw j = -1) {A : Nat → Prop} (hAe : (fun q : Nat => s.heap.size ≤ q) = A) : ∀ (H : Heap) (locs : List Loc) (ls : Array Slot), va_P D vwCl (fn_world K x0 m0 u v fw) H → va_D A (fn_world K x0 m0 u v fw) → va_S A s.heap H locs → lv_has ls 4 [(3, .int 0), (2, .ref m0), (1, .ref x0), (0, .ref b)] → W p l e room_1 s m #[Value.ref b] below meth c H locs 144 12710 (lw_Z below #[Value.ref b] s) (F0 m 683 ls []) := by
  intro H locs ls hP hD hS hl
  have hA : ∀ q : Nat, s.heap.size ≤ q → A q := fun q h => by rw [← hAe]; exact h
  have hbA : ¬ A b := by rw [← hAe]; exact Nat.not_le.mpr hbl
  refine lv_aload_n hx hb dL_law_683 rfl (lv_at hl 2 rfl) ?_
  refine lv_aload_n hx hb dL_law_684 rfl (lv_at hl 3 rfl) ?_
  refine lv_iload_n hx hb dL_law_685 rfl (lv_at hl 0 rfl) ?_
  refine lv_iconst (v := 1) hx hb dL_law_686 (by decide) ?_
  refine lv_iadd hx hb dL_law_687 ?_
  refine fn_top 1 (by decide) ?_
  refine va_sld hx hb hX hbl hbA hS (by unfold vp_in; decide) dL_law_688 ?_
  refine fn_top (xs 1) (congrArg xs (by decide)) ?_
  refine lv_aload_n hx hb dL_law_689 rfl (lv_at hl 3 rfl) ?_
  refine lv_iload_n hx hb dL_law_690 rfl (lv_at hl 0 rfl) ?_
  refine lv_iconst (v := 2) hx hb dL_law_691 (by decide) ?_
  refine lv_iadd hx hb dL_law_692 ?_
  refine fn_top 2 (by decide) ?_
  refine va_sld hx hb hX hbl hbA hS (by unfold vp_in; decide) dL_law_693 ?_
  refine fn_top (xs 2) (congrArg xs (by decide)) ?_
  refine fn_goi (wc := [(x0, .inr (11, [.ref (u 0), .ref (u 10), .ref (u 17), .ref (u 25), .ref (u 26), .ref (u 27), .ref (u 28), .ref (u 29), .ref (u 34), .ref (u 39), .ref (u 43), .ref (u 51), .ref (u 55)])), ((u 10), .inr (7, [.int 0, .int 0, .int 0, .int 0, .int 0, .int 0, .int 0, .int 0, .int 0, .ref (u 11), .ref (u 12), .ref (u 13), .ref (u 14), .ref (u 15), .ref (u 16)]))]) (wr := [(m0, .inr (12, [.int 0, .ref (v 0), .ref (v 1), .ref (v 2), .ref (v 3), .ref (v 4), .int 0, .int 0, .int 0, .int 0, .int 0, .long 0, .int 0, .int 0, .int 0, .int (-1), .ref (v 5), .ref (v 6), .ref (v 7), .ref (v 8), .ref (v 9), .ref (v 10), .ref (v 11), .ref (v 12), .ref (v 13), .ref (v 14), .ref (v 15), .ref (v 16), .ref (v 17), .ref (v 18), .ref (v 19), .ref (v 20), .int 0, .int 0, .int 0, .int 0, .ref (v 21), .ref (v 22), .ref (v 23), .int 0, .int 0, .ref (v 24), .ref (v 25), .int 0, .int 0, .ref (v 26), .ref (v 27), .ref (v 28), .int 0, .int 0, .int 0])), ((v 0), .inl (K 0, 4, .inl fw)), ((v 1), .inl (K 0, 4, .inl (fun _ => 0))), ((v 2), .inl (K 3, 240, .inr (.inl (fun _ => 0)))), ((v 4), .inl (K 1, 1400, .inl (fun _ => 0))), ((v 5), .inl (K 0, 5, .inl (fun _ => 0))), ((v 6), .inl (K 0, 40, .inl (fun _ => 0))), ((v 7), .inl (K 0, 50, .inl (fun _ => 0))), ((v 8), .inl (K 0, 60, .inl (fun _ => 0))), ((v 9), .inl (K 0, 480, .inl (fun _ => 0))), ((v 10), .inl (K 0, 600, .inl (fun _ => 0))), ((v 11), .inl (K 2, 3, .inl (fun _ => 0)))]) hK hP hD hS hA [0, 11] [88, 89, 90, 91, 92, 93, 94, 95, 96, 97, 98, 99] rfl rfl (by decide) (fun hp => va_runV (C := RX11) (As := [.int (xs 1), .int (xs 2)]) (rest := []) ⟨hx, hb, hml, hown, hts⟩ (c_X11_misprint (l := l) (D := D) (K := K) (x0 := (x0)) (p0 := ((xs 1))) (p1 := ((xs 2))) (fx := ([.ref (u 0), .ref (u 10), .ref (u 17), .ref (u 25), .ref (u 26), .ref (u 27), .ref (u 28), .ref (u 29), .ref (u 34), .ref (u 39), .ref (u 43), .ref (u 51), .ref (u 55)])) (t0 := ((u 10))) (hx1 := rfl) (ft := ([.int 0, .int 0, .int 0, .int 0, .int 0, .int 0, .int 0, .int 0, .int 0, .ref (u 11), .ref (u 12), .ref (u 13), .ref (u 14), .ref (u 15), .ref (u 16)])) (ht0 := rfl) (ht3 := rfl) (ht4 := rfl) (ht5 := rfl) _) (cwV 2 hts (fn_ginV (fn_gin wd_735) wd_732 wd_733 wd_734 wd_1) rfl rfl rfl (by decide +kernel) ⟨Nat.le_of_ble_eq_true rfl, Nat.le_of_ble_eq_true rfl⟩) ⟨fn_blind, va_recv hK.1 hP (ci := 11) (q0 := 0) rfl rfl, hp⟩ rfl rfl hl.1 rfl (lv_room (Nat.le_of_ble_eq_true rfl)) dL_law_694 ⟨Nat.le_of_ble_eq_true rfl, Nat.le_of_ble_eq_true rfl⟩) (fun r2 u1 H locs hwu1 hP hD hS => ?_)
  have r2_e : r2 = (-2) := hwu1
  subst r2_e
  have hP : va_P D vwCl [(m0, .inr (12, [.int 0, .ref (v 0), .ref (v 1), .ref (v 2), .ref (v 3), .ref (v 4), .int 0, .int 0, .int 0, .int 0, .int 0, .long 0, .int 0, .int 0, .int 0, .int (-1), .ref (v 5), .ref (v 6), .ref (v 7), .ref (v 8), .ref (v 9), .ref (v 10), .ref (v 11), .ref (v 12), .ref (v 13), .ref (v 14), .ref (v 15), .ref (v 16), .ref (v 17), .ref (v 18), .ref (v 19), .ref (v 20), .int 0, .int 0, .int 0, .int 0, .ref (v 21), .ref (v 22), .ref (v 23), .int 0, .int 0, .ref (v 24), .ref (v 25), .int 0, .int 0, .ref (v 26), .ref (v 27), .ref (v 28), .int 0, .int 0, .int 0])), ((v 0), .inl (K 0, 4, .inl fw)), ((v 1), .inl (K 0, 4, .inl (fun _ => 0))), ((v 2), .inl (K 3, 240, .inr (.inl (fun _ => 0)))), ((v 4), .inl (K 1, 1400, .inl (fun _ => 0))), ((v 5), .inl (K 0, 5, .inl (fun _ => 0))), ((v 6), .inl (K 0, 40, .inl (fun _ => 0))), ((v 7), .inl (K 0, 50, .inl (fun _ => 0))), ((v 8), .inl (K 0, 60, .inl (fun _ => 0))), ((v 9), .inl (K 0, 480, .inl (fun _ => 0))), ((v 10), .inl (K 0, 600, .inl (fun _ => 0))), ((v 11), .inl (K 2, 3, .inl (fun _ => 0)))] H := hP
  have hD : va_D A [(m0, .inr (12, [.int 0, .ref (v 0), .ref (v 1), .ref (v 2), .ref (v 3), .ref (v 4), .int 0, .int 0, .int 0, .int 0, .int 0, .long 0, .int 0, .int 0, .int 0, .int (-1), .ref (v 5), .ref (v 6), .ref (v 7), .ref (v 8), .ref (v 9), .ref (v 10), .ref (v 11), .ref (v 12), .ref (v 13), .ref (v 14), .ref (v 15), .ref (v 16), .ref (v 17), .ref (v 18), .ref (v 19), .ref (v 20), .int 0, .int 0, .int 0, .int 0, .ref (v 21), .ref (v 22), .ref (v 23), .int 0, .int 0, .ref (v 24), .ref (v 25), .int 0, .int 0, .ref (v 26), .ref (v 27), .ref (v 28), .int 0, .int 0, .int 0])), ((v 0), .inl (K 0, 4, .inl fw)), ((v 1), .inl (K 0, 4, .inl (fun _ => 0))), ((v 2), .inl (K 3, 240, .inr (.inl (fun _ => 0)))), ((v 4), .inl (K 1, 1400, .inl (fun _ => 0))), ((v 5), .inl (K 0, 5, .inl (fun _ => 0))), ((v 6), .inl (K 0, 40, .inl (fun _ => 0))), ((v 7), .inl (K 0, 50, .inl (fun _ => 0))), ((v 8), .inl (K 0, 60, .inl (fun _ => 0))), ((v 9), .inl (K 0, 480, .inl (fun _ => 0))), ((v 10), .inl (K 0, 600, .inl (fun _ => 0))), ((v 11), .inl (K 2, 3, .inl (fun _ => 0)))] := hD
  refine lv_aload_n hx hb dL_law_697 rfl (lv_at hl 1 rfl) ?_
  refine lv_aload_n hx hb dL_law_698 rfl (lv_at hl 3 rfl) ?_
  refine lv_iload_n hx hb dL_law_699 rfl (lv_at hl 0 rfl) ?_
  refine lv_iconst (v := 1) hx hb dL_law_700 (by decide) ?_
  refine lv_iadd hx hb dL_law_701 ?_
  refine fn_top 1 (by decide) ?_
  refine va_sld hx hb hX hbl hbA hS (by unfold vp_in; decide) dL_law_702 ?_
  refine fn_top (xs 1) (congrArg xs (by decide)) ?_
  refine lv_aload_n hx hb dL_law_703 rfl (lv_at hl 3 rfl) ?_
  refine fn_at 704 rfl ?_
  refine lv_iload_n hx hb dL_law_704 rfl (lv_at hl 0 rfl) ?_
  refine lv_iconst (v := 2) hx hb dL_law_705 (by decide) ?_
  refine lv_iadd hx hb dL_law_706 ?_
  refine fn_top 2 (by decide) ?_
  refine va_sld hx hb hX hbl hbA hS (by unfold vp_in; decide) dL_law_707 ?_
  refine fn_top (xs 2) (congrArg xs (by decide)) ?_
  refine fn_goi (wc := [(m0, .inr (12, [.int 0, .ref (v 0), .ref (v 1), .ref (v 2), .ref (v 3), .ref (v 4), .int 0, .int 0, .int 0, .int 0, .int 0, .long 0, .int 0, .int 0, .int 0, .int (-1), .ref (v 5), .ref (v 6), .ref (v 7), .ref (v 8), .ref (v 9), .ref (v 10), .ref (v 11), .ref (v 12), .ref (v 13), .ref (v 14), .ref (v 15), .ref (v 16), .ref (v 17), .ref (v 18), .ref (v 19), .ref (v 20), .int 0, .int 0, .int 0, .int 0, .ref (v 21), .ref (v 22), .ref (v 23), .int 0, .int 0, .ref (v 24), .ref (v 25), .int 0, .int 0, .ref (v 26), .ref (v 27), .ref (v 28), .int 0, .int 0, .int 0])), ((v 5), .inl (K 0, 5, .inl (fun _ => 0))), ((v 6), .inl (K 0, 40, .inl (fun _ => 0)))]) (wr := []) hK hP hD hS hA [0, 5, 6] [] rfl rfl (by decide) (fun hp => va_runV (C := RX12) (As := [.int (xs 1), .int (xs 2)]) (rest := [.int (-2)]) ⟨hx, hb, hml, hown, hts⟩ (c_X12_misprint (l := l) (D := D) (K := K) (m0 := (m0)) (p0 := ((xs 1))) (p1 := ((xs 2))) (fm := ([.int 0, .ref (v 0), .ref (v 1), .ref (v 2), .ref (v 3), .ref (v 4), .int 0, .int 0, .int 0, .int 0, .int 0, .long 0, .int 0, .int 0, .int 0, .int (-1), .ref (v 5), .ref (v 6), .ref (v 7), .ref (v 8), .ref (v 9), .ref (v 10), .ref (v 11), .ref (v 12), .ref (v 13), .ref (v 14), .ref (v 15), .ref (v 16), .ref (v 17), .ref (v 18), .ref (v 19), .ref (v 20), .int 0, .int 0, .int 0, .int 0, .ref (v 21), .ref (v 22), .ref (v 23), .int 0, .int 0, .ref (v 24), .ref (v 25), .int 0, .int 0, .ref (v 26), .ref (v 27), .ref (v 28), .int 0, .int 0, .int 0])) (hmn := rfl) (al := ((v 5))) (hm16 := rfl) (ah := ((v 6))) (hm17 := rfl) (fl := (fun _ => 0)) (hfl := (fun _ => rfl)) (fh := (fun _ => 0)) (hfh := (fun _ => rfl)) _) (cwV 2 hts (fn_ginV (fn_gin wd_1615) wd_1612 wd_1613 wd_1614 wd_13) rfl rfl rfl (by decide +kernel) ⟨Nat.le_of_ble_eq_true rfl, Nat.le_of_ble_eq_true rfl⟩) ⟨fn_blind, va_recv hK.1 hP (ci := 12) (q0 := 0) rfl rfl, hp⟩ rfl rfl hl.1 rfl (lv_room (Nat.le_of_ble_eq_true rfl)) dL_law_708 ⟨Nat.le_of_ble_eq_true rfl, Nat.le_of_ble_eq_true rfl⟩) (fun r4 u3 H locs hwu3 hP hD hS => ?_)
  have r4_e : r4 = (-2) := hwu3
  subst r4_e
  have hP : va_P D vwCl [] H := hP
  have hD : va_D A [] := hD
  refine lv_icmp_eq (tgt := 1996) hx hb dL_law_711 (by decide) (fun _ => ?_) (fun h9 => absurd (by decide) h9)
  refine lv_iinc (v := 6) (lv' := [(3, .int 6), (2, .ref m0), (1, .ref x0), (0, .ref b)]) hx hb dL_law_1996 hl (k := 0) rfl (by decide) (by decide) rfl (fun ls hl => ?_)
  refine lv_goto (tgt := 18) hx hb dL_law_1999 (by decide) ?_
  refine lv_iload_n hx hb dL_law_18 rfl (lv_at hl 0 rfl) ?_
  refine lv_aload_n hx hb dL_law_19 rfl (lv_at hl 3 rfl) ?_
  refine va_slen hx hb hX hbl hbA hS dL_law_20 ?_
  refine fn_top 6 (by decide) ?_
  refine lv_bipush (v := 6) hx hb dL_law_21 (by decide) ?_
  refine lv_isub hx hb dL_law_23 ?_
  refine fn_top 0 (by decide) ?_
  refine lv_icmp_gt (tgt := 2002) hx hb dL_law_24 (by decide) (fun _ => ?_) (fun h9 => absurd (by decide) h9)
  refine lv_iconst (v := 1) hx hb dL_law_2002 (by decide) ?_
  refine va_forget (fun q hq => by have h9 := hS.2.2 q hq; rw [← hAe] at h9; exact h9) ?_
  refine W.widen (k := 600000) (n := 7302250) (Nat.le_of_ble_eq_true rfl) (Nat.le_of_ble_eq_true rfl) ?_
  exact lw_ret hx hb hr hlocks dL_law_2003
theorem dL_law_716 : decode cL_law 716 = .ok (.aload_n 1, 1) := by decide +kernel
theorem dL_law_717 : decode cL_law 717 = .ok (.invokevirtual 73, 3) := by decide +kernel
theorem dL_law_720 : decode cL_law 720 = .ok (.aload_n 2, 1) := by decide +kernel
theorem dL_law_721 : decode cL_law 721 = .ok (.invokevirtual 76, 3) := by decide +kernel
theorem dL_law_724 : decode cL_law 724 = .ok (.if_icmp .eq 1272, 3) := by decide +kernel
set_option maxHeartbeats 4000000 in
set_option maxRecDepth 100000 in
theorem law_14 {p : Program} {l : Launch} {e : Env} {s : State} {m : MethodId} {below : List Frame} {meth : Method} {c : Code} {b : Nat} {xs : Nat → Int32} (hx : p.tables.exec = Jvm.exec) (hb : c.code = cL_law) (hr : meth.sig.returnType = ret) (hml : c.maxLocals = 4) (hown : s.vm.findClass RL = some m.cls) (hts : ∀ w ∈ fn_big, w.before #[Value.ref b] s = true) (hX : va_X b 6 xs s s.heap) (hbl : b < s.heap.size) (hlocks : meth.locks = false) {D : va_G} {K : Nat → ClassId} (hK : fn_KK D K s) {x0 m0 : Nat} {u v : Nat → Nat} {fw : Nat → Int32} (hfw : ∀ j, j < 4 → fw j = -1) {A : Nat → Prop} (hAe : (fun q : Nat => s.heap.size ≤ q) = A) : ∀ (H : Heap) (locs : List Loc) (ls : Array Slot), va_P D vwCl (fn_world K x0 m0 u v fw) H → va_D A (fn_world K x0 m0 u v fw) → va_S A s.heap H locs → lv_has ls 4 [(3, .int 0), (2, .ref m0), (1, .ref x0), (0, .ref b)] → W p l e room_1 s m #[Value.ref b] below meth c H locs 144 12710 (lw_Z below #[Value.ref b] s) (F0 m 716 ls []) := by
  intro H locs ls hP hD hS hl
  have hA : ∀ q : Nat, s.heap.size ≤ q → A q := fun q h => by rw [← hAe]; exact h
  have hbA : ¬ A b := by rw [← hAe]; exact Nat.not_le.mpr hbl
  refine lv_aload_n hx hb dL_law_716 rfl (lv_at hl 2 rfl) ?_
  refine fn_goi (wc := [(x0, .inr (11, [.ref (u 0), .ref (u 10), .ref (u 17), .ref (u 25), .ref (u 26), .ref (u 27), .ref (u 28), .ref (u 29), .ref (u 34), .ref (u 39), .ref (u 43), .ref (u 51), .ref (u 55)])), ((u 10), .inr (7, [.int 0, .int 0, .int 0, .int 0, .int 0, .int 0, .int 0, .int 0, .int 0, .ref (u 11), .ref (u 12), .ref (u 13), .ref (u 14), .ref (u 15), .ref (u 16)]))]) (wr := [(m0, .inr (12, [.int 0, .ref (v 0), .ref (v 1), .ref (v 2), .ref (v 3), .ref (v 4), .int 0, .int 0, .int 0, .int 0, .int 0, .long 0, .int 0, .int 0, .int 0, .int (-1), .ref (v 5), .ref (v 6), .ref (v 7), .ref (v 8), .ref (v 9), .ref (v 10), .ref (v 11), .ref (v 12), .ref (v 13), .ref (v 14), .ref (v 15), .ref (v 16), .ref (v 17), .ref (v 18), .ref (v 19), .ref (v 20), .int 0, .int 0, .int 0, .int 0, .ref (v 21), .ref (v 22), .ref (v 23), .int 0, .int 0, .ref (v 24), .ref (v 25), .int 0, .int 0, .ref (v 26), .ref (v 27), .ref (v 28), .int 0, .int 0, .int 0])), ((v 0), .inl (K 0, 4, .inl fw)), ((v 1), .inl (K 0, 4, .inl (fun _ => 0))), ((v 2), .inl (K 3, 240, .inr (.inl (fun _ => 0)))), ((v 4), .inl (K 1, 1400, .inl (fun _ => 0))), ((v 5), .inl (K 0, 5, .inl (fun _ => 0))), ((v 6), .inl (K 0, 40, .inl (fun _ => 0))), ((v 7), .inl (K 0, 50, .inl (fun _ => 0))), ((v 8), .inl (K 0, 60, .inl (fun _ => 0))), ((v 9), .inl (K 0, 480, .inl (fun _ => 0))), ((v 10), .inl (K 0, 600, .inl (fun _ => 0))), ((v 11), .inl (K 2, 3, .inl (fun _ => 0)))]) hK hP hD hS hA [0, 11] [88, 89, 90, 91, 92, 93, 94, 95, 96, 97, 98, 99] rfl rfl (by decide) (fun hp => va_runV (C := RX11) (As := []) (rest := []) ⟨hx, hb, hml, hown, hts⟩ (c_X11_undo (l := l) (D := D) (K := K) (x0 := (x0)) (fx := ([.ref (u 0), .ref (u 10), .ref (u 17), .ref (u 25), .ref (u 26), .ref (u 27), .ref (u 28), .ref (u 29), .ref (u 34), .ref (u 39), .ref (u 43), .ref (u 51), .ref (u 55)])) (t0 := ((u 10))) (hx1 := rfl) (ft := ([.int 0, .int 0, .int 0, .int 0, .int 0, .int 0, .int 0, .int 0, .int 0, .ref (u 11), .ref (u 12), .ref (u 13), .ref (u 14), .ref (u 15), .ref (u 16)])) (ht0 := rfl) (ht3 := rfl) (ht4 := rfl) (ht5 := rfl) _) (cwV 0 hts (fn_ginV (fn_gin wd_743) wd_740 wd_741 wd_742 wd_1) rfl rfl rfl (by decide +kernel) ⟨Nat.le_of_ble_eq_true rfl, Nat.le_of_ble_eq_true rfl⟩) ⟨fn_blind, va_recv hK.1 hP (ci := 11) (q0 := 0) rfl rfl, hp⟩ rfl rfl hl.1 rfl (lv_room (Nat.le_of_ble_eq_true rfl)) dL_law_717 ⟨Nat.le_of_ble_eq_true rfl, Nat.le_of_ble_eq_true rfl⟩) (fun r2 u1 H locs hwu1 hP hD hS => ?_)
  have r2_e : r2 = (-2) := hwu1
  subst r2_e
  have hP : va_P D vwCl [(m0, .inr (12, [.int 0, .ref (v 0), .ref (v 1), .ref (v 2), .ref (v 3), .ref (v 4), .int 0, .int 0, .int 0, .int 0, .int 0, .long 0, .int 0, .int 0, .int 0, .int (-1), .ref (v 5), .ref (v 6), .ref (v 7), .ref (v 8), .ref (v 9), .ref (v 10), .ref (v 11), .ref (v 12), .ref (v 13), .ref (v 14), .ref (v 15), .ref (v 16), .ref (v 17), .ref (v 18), .ref (v 19), .ref (v 20), .int 0, .int 0, .int 0, .int 0, .ref (v 21), .ref (v 22), .ref (v 23), .int 0, .int 0, .ref (v 24), .ref (v 25), .int 0, .int 0, .ref (v 26), .ref (v 27), .ref (v 28), .int 0, .int 0, .int 0])), ((v 0), .inl (K 0, 4, .inl fw)), ((v 1), .inl (K 0, 4, .inl (fun _ => 0))), ((v 2), .inl (K 3, 240, .inr (.inl (fun _ => 0)))), ((v 4), .inl (K 1, 1400, .inl (fun _ => 0))), ((v 5), .inl (K 0, 5, .inl (fun _ => 0))), ((v 6), .inl (K 0, 40, .inl (fun _ => 0))), ((v 7), .inl (K 0, 50, .inl (fun _ => 0))), ((v 8), .inl (K 0, 60, .inl (fun _ => 0))), ((v 9), .inl (K 0, 480, .inl (fun _ => 0))), ((v 10), .inl (K 0, 600, .inl (fun _ => 0))), ((v 11), .inl (K 2, 3, .inl (fun _ => 0)))] H := hP
  have hD : va_D A [(m0, .inr (12, [.int 0, .ref (v 0), .ref (v 1), .ref (v 2), .ref (v 3), .ref (v 4), .int 0, .int 0, .int 0, .int 0, .int 0, .long 0, .int 0, .int 0, .int 0, .int (-1), .ref (v 5), .ref (v 6), .ref (v 7), .ref (v 8), .ref (v 9), .ref (v 10), .ref (v 11), .ref (v 12), .ref (v 13), .ref (v 14), .ref (v 15), .ref (v 16), .ref (v 17), .ref (v 18), .ref (v 19), .ref (v 20), .int 0, .int 0, .int 0, .int 0, .ref (v 21), .ref (v 22), .ref (v 23), .int 0, .int 0, .ref (v 24), .ref (v 25), .int 0, .int 0, .ref (v 26), .ref (v 27), .ref (v 28), .int 0, .int 0, .int 0])), ((v 0), .inl (K 0, 4, .inl fw)), ((v 1), .inl (K 0, 4, .inl (fun _ => 0))), ((v 2), .inl (K 3, 240, .inr (.inl (fun _ => 0)))), ((v 4), .inl (K 1, 1400, .inl (fun _ => 0))), ((v 5), .inl (K 0, 5, .inl (fun _ => 0))), ((v 6), .inl (K 0, 40, .inl (fun _ => 0))), ((v 7), .inl (K 0, 50, .inl (fun _ => 0))), ((v 8), .inl (K 0, 60, .inl (fun _ => 0))), ((v 9), .inl (K 0, 480, .inl (fun _ => 0))), ((v 10), .inl (K 0, 600, .inl (fun _ => 0))), ((v 11), .inl (K 2, 3, .inl (fun _ => 0)))] := hD
  refine lv_aload_n hx hb dL_law_720 rfl (lv_at hl 1 rfl) ?_
  refine fn_goi (wc := [(m0, .inr (12, [.int 0, .ref (v 0), .ref (v 1), .ref (v 2), .ref (v 3), .ref (v 4), .int 0, .int 0, .int 0, .int 0, .int 0, .long 0, .int 0, .int 0, .int 0, .int (-1), .ref (v 5), .ref (v 6), .ref (v 7), .ref (v 8), .ref (v 9), .ref (v 10), .ref (v 11), .ref (v 12), .ref (v 13), .ref (v 14), .ref (v 15), .ref (v 16), .ref (v 17), .ref (v 18), .ref (v 19), .ref (v 20), .int 0, .int 0, .int 0, .int 0, .ref (v 21), .ref (v 22), .ref (v 23), .int 0, .int 0, .ref (v 24), .ref (v 25), .int 0, .int 0, .ref (v 26), .ref (v 27), .ref (v 28), .int 0, .int 0, .int 0])), ((v 5), .inl (K 0, 5, .inl (fun _ => 0))), ((v 6), .inl (K 0, 40, .inl (fun _ => 0)))]) (wr := []) hK hP hD hS hA [0, 5, 6] [] rfl rfl (by decide) (fun hp => va_runV (C := RX12) (As := []) (rest := [.int (-2)]) ⟨hx, hb, hml, hown, hts⟩ (c_X12_undo (l := l) (D := D) (K := K) (m0 := (m0)) (fm := ([.int 0, .ref (v 0), .ref (v 1), .ref (v 2), .ref (v 3), .ref (v 4), .int 0, .int 0, .int 0, .int 0, .int 0, .long 0, .int 0, .int 0, .int 0, .int (-1), .ref (v 5), .ref (v 6), .ref (v 7), .ref (v 8), .ref (v 9), .ref (v 10), .ref (v 11), .ref (v 12), .ref (v 13), .ref (v 14), .ref (v 15), .ref (v 16), .ref (v 17), .ref (v 18), .ref (v 19), .ref (v 20), .int 0, .int 0, .int 0, .int 0, .ref (v 21), .ref (v 22), .ref (v 23), .int 0, .int 0, .ref (v 24), .ref (v 25), .int 0, .int 0, .ref (v 26), .ref (v 27), .ref (v 28), .int 0, .int 0, .int 0])) (hmn := rfl) (al := ((v 5))) (hm16 := rfl) (ah := ((v 6))) (hm17 := rfl) (fl := (fun _ => 0)) (hfl := (fun _ => rfl)) (fh := (fun _ => 0)) (hfh := (fun _ => rfl)) _) (cwV 0 hts (fn_ginV (fn_gin wd_1620) wd_1617 wd_1618 wd_1619 wd_13) rfl rfl rfl (by decide +kernel) ⟨Nat.le_of_ble_eq_true rfl, Nat.le_of_ble_eq_true rfl⟩) ⟨fn_blind, va_recv hK.1 hP (ci := 12) (q0 := 0) rfl rfl, hp⟩ rfl rfl hl.1 rfl (lv_room (Nat.le_of_ble_eq_true rfl)) dL_law_721 ⟨Nat.le_of_ble_eq_true rfl, Nat.le_of_ble_eq_true rfl⟩) (fun r4 u3 H locs hwu3 hP hD hS => ?_)
  have r4_e : r4 = (-2) := hwu3
  subst r4_e
  have hP : va_P D vwCl [] H := hP
  have hD : va_D A [] := hD
  refine lv_icmp_eq (tgt := 1996) hx hb dL_law_724 (by decide) (fun _ => ?_) (fun h9 => absurd (by decide) h9)
  refine lv_iinc (v := 6) (lv' := [(3, .int 6), (2, .ref m0), (1, .ref x0), (0, .ref b)]) hx hb dL_law_1996 hl (k := 0) rfl (by decide) (by decide) rfl (fun ls hl => ?_)
  refine lv_goto (tgt := 18) hx hb dL_law_1999 (by decide) ?_
  refine lv_iload_n hx hb dL_law_18 rfl (lv_at hl 0 rfl) ?_
  refine lv_aload_n hx hb dL_law_19 rfl (lv_at hl 3 rfl) ?_
  refine va_slen hx hb hX hbl hbA hS dL_law_20 ?_
  refine fn_top 6 (by decide) ?_
  refine lv_bipush (v := 6) hx hb dL_law_21 (by decide) ?_
  refine lv_isub hx hb dL_law_23 ?_
  refine fn_top 0 (by decide) ?_
  refine lv_icmp_gt (tgt := 2002) hx hb dL_law_24 (by decide) (fun _ => ?_) (fun h9 => absurd (by decide) h9)
  refine lv_iconst (v := 1) hx hb dL_law_2002 (by decide) ?_
  refine va_forget (fun q hq => by have h9 := hS.2.2 q hq; rw [← hAe] at h9; exact h9) ?_
  refine W.widen (k := 600000) (n := 7302250) (Nat.le_of_ble_eq_true rfl) (Nat.le_of_ble_eq_true rfl) ?_
  exact lw_ret hx hb hr hlocks dL_law_2003
theorem dL_law_729 : decode cL_law 729 = .ok (.aload_n 1, 1) := by decide +kernel
theorem dL_law_730 : decode cL_law 730 = .ok (.invokevirtual 77, 3) := by decide +kernel
theorem dL_law_733 : decode cL_law 733 = .ok (.aload_n 2, 1) := by decide +kernel
theorem dL_law_734 : decode cL_law 734 = .ok (.invokevirtual 80, 3) := by decide +kernel
theorem dL_law_737 : decode cL_law 737 = .ok (.if_icmp .eq 1259, 3) := by decide +kernel
set_option maxHeartbeats 4000000 in
set_option maxRecDepth 100000 in
theorem law_15 {p : Program} {l : Launch} {e : Env} {s : State} {m : MethodId} {below : List Frame} {meth : Method} {c : Code} {b : Nat} {xs : Nat → Int32} (hx : p.tables.exec = Jvm.exec) (hb : c.code = cL_law) (hr : meth.sig.returnType = ret) (hml : c.maxLocals = 4) (hown : s.vm.findClass RL = some m.cls) (hts : ∀ w ∈ fn_big, w.before #[Value.ref b] s = true) (hX : va_X b 6 xs s s.heap) (hbl : b < s.heap.size) (hlocks : meth.locks = false) {D : va_G} {K : Nat → ClassId} (hK : fn_KK D K s) {x0 m0 : Nat} {u v : Nat → Nat} {fw : Nat → Int32} (hfw : ∀ j, j < 4 → fw j = -1) {A : Nat → Prop} (hAe : (fun q : Nat => s.heap.size ≤ q) = A) : ∀ (H : Heap) (locs : List Loc) (ls : Array Slot), va_P D vwCl (fn_world K x0 m0 u v fw) H → va_D A (fn_world K x0 m0 u v fw) → va_S A s.heap H locs → lv_has ls 4 [(3, .int 0), (2, .ref m0), (1, .ref x0), (0, .ref b)] → W p l e room_1 s m #[Value.ref b] below meth c H locs 144 12710 (lw_Z below #[Value.ref b] s) (F0 m 729 ls []) := by
  intro H locs ls hP hD hS hl
  have hA : ∀ q : Nat, s.heap.size ≤ q → A q := fun q h => by rw [← hAe]; exact h
  have hbA : ¬ A b := by rw [← hAe]; exact Nat.not_le.mpr hbl
  refine lv_aload_n hx hb dL_law_729 rfl (lv_at hl 2 rfl) ?_
  refine fn_goi (wc := [(x0, .inr (11, [.ref (u 0), .ref (u 10), .ref (u 17), .ref (u 25), .ref (u 26), .ref (u 27), .ref (u 28), .ref (u 29), .ref (u 34), .ref (u 39), .ref (u 43), .ref (u 51), .ref (u 55)])), ((u 10), .inr (7, [.int 0, .int 0, .int 0, .int 0, .int 0, .int 0, .int 0, .int 0, .int 0, .ref (u 11), .ref (u 12), .ref (u 13), .ref (u 14), .ref (u 15), .ref (u 16)]))]) (wr := [(m0, .inr (12, [.int 0, .ref (v 0), .ref (v 1), .ref (v 2), .ref (v 3), .ref (v 4), .int 0, .int 0, .int 0, .int 0, .int 0, .long 0, .int 0, .int 0, .int 0, .int (-1), .ref (v 5), .ref (v 6), .ref (v 7), .ref (v 8), .ref (v 9), .ref (v 10), .ref (v 11), .ref (v 12), .ref (v 13), .ref (v 14), .ref (v 15), .ref (v 16), .ref (v 17), .ref (v 18), .ref (v 19), .ref (v 20), .int 0, .int 0, .int 0, .int 0, .ref (v 21), .ref (v 22), .ref (v 23), .int 0, .int 0, .ref (v 24), .ref (v 25), .int 0, .int 0, .ref (v 26), .ref (v 27), .ref (v 28), .int 0, .int 0, .int 0])), ((v 0), .inl (K 0, 4, .inl fw)), ((v 1), .inl (K 0, 4, .inl (fun _ => 0))), ((v 2), .inl (K 3, 240, .inr (.inl (fun _ => 0)))), ((v 4), .inl (K 1, 1400, .inl (fun _ => 0))), ((v 5), .inl (K 0, 5, .inl (fun _ => 0))), ((v 6), .inl (K 0, 40, .inl (fun _ => 0))), ((v 7), .inl (K 0, 50, .inl (fun _ => 0))), ((v 8), .inl (K 0, 60, .inl (fun _ => 0))), ((v 9), .inl (K 0, 480, .inl (fun _ => 0))), ((v 10), .inl (K 0, 600, .inl (fun _ => 0))), ((v 11), .inl (K 2, 3, .inl (fun _ => 0)))]) hK hP hD hS hA [0, 11] [88, 89, 90, 91, 92, 93, 94, 95, 96, 97, 98, 99] rfl rfl (by decide) (fun hp => va_runV (C := RX11) (As := []) (rest := []) ⟨hx, hb, hml, hown, hts⟩ (c_X11_anew (l := l) (D := D) (K := K) (x0 := (x0)) (fx := ([.ref (u 0), .ref (u 10), .ref (u 17), .ref (u 25), .ref (u 26), .ref (u 27), .ref (u 28), .ref (u 29), .ref (u 34), .ref (u 39), .ref (u 43), .ref (u 51), .ref (u 55)])) (t0 := ((u 10))) (hx1 := rfl) (ft := ([.int 0, .int 0, .int 0, .int 0, .int 0, .int 0, .int 0, .int 0, .int 0, .ref (u 11), .ref (u 12), .ref (u 13), .ref (u 14), .ref (u 15), .ref (u 16)])) (ht0 := rfl) (ht3 := rfl) (ht4 := rfl) (ht5 := rfl) _) (cwV 0 hts (fn_ginV (fn_gin wd_755) wd_752 wd_753 wd_754 wd_1) rfl rfl rfl (by decide +kernel) ⟨Nat.le_of_ble_eq_true rfl, Nat.le_of_ble_eq_true rfl⟩) ⟨fn_blind, va_recv hK.1 hP (ci := 11) (q0 := 0) rfl rfl, hp⟩ rfl rfl hl.1 rfl (lv_room (Nat.le_of_ble_eq_true rfl)) dL_law_730 ⟨Nat.le_of_ble_eq_true rfl, Nat.le_of_ble_eq_true rfl⟩) (fun r2 u1 H locs hwu1 hP hD hS => ?_)
  have r2_e : r2 = (-2) := hwu1
  subst r2_e
  have hP : va_P D vwCl [(m0, .inr (12, [.int 0, .ref (v 0), .ref (v 1), .ref (v 2), .ref (v 3), .ref (v 4), .int 0, .int 0, .int 0, .int 0, .int 0, .long 0, .int 0, .int 0, .int 0, .int (-1), .ref (v 5), .ref (v 6), .ref (v 7), .ref (v 8), .ref (v 9), .ref (v 10), .ref (v 11), .ref (v 12), .ref (v 13), .ref (v 14), .ref (v 15), .ref (v 16), .ref (v 17), .ref (v 18), .ref (v 19), .ref (v 20), .int 0, .int 0, .int 0, .int 0, .ref (v 21), .ref (v 22), .ref (v 23), .int 0, .int 0, .ref (v 24), .ref (v 25), .int 0, .int 0, .ref (v 26), .ref (v 27), .ref (v 28), .int 0, .int 0, .int 0])), ((v 0), .inl (K 0, 4, .inl fw)), ((v 1), .inl (K 0, 4, .inl (fun _ => 0))), ((v 2), .inl (K 3, 240, .inr (.inl (fun _ => 0)))), ((v 4), .inl (K 1, 1400, .inl (fun _ => 0))), ((v 5), .inl (K 0, 5, .inl (fun _ => 0))), ((v 6), .inl (K 0, 40, .inl (fun _ => 0))), ((v 7), .inl (K 0, 50, .inl (fun _ => 0))), ((v 8), .inl (K 0, 60, .inl (fun _ => 0))), ((v 9), .inl (K 0, 480, .inl (fun _ => 0))), ((v 10), .inl (K 0, 600, .inl (fun _ => 0))), ((v 11), .inl (K 2, 3, .inl (fun _ => 0)))] H := hP
  have hD : va_D A [(m0, .inr (12, [.int 0, .ref (v 0), .ref (v 1), .ref (v 2), .ref (v 3), .ref (v 4), .int 0, .int 0, .int 0, .int 0, .int 0, .long 0, .int 0, .int 0, .int 0, .int (-1), .ref (v 5), .ref (v 6), .ref (v 7), .ref (v 8), .ref (v 9), .ref (v 10), .ref (v 11), .ref (v 12), .ref (v 13), .ref (v 14), .ref (v 15), .ref (v 16), .ref (v 17), .ref (v 18), .ref (v 19), .ref (v 20), .int 0, .int 0, .int 0, .int 0, .ref (v 21), .ref (v 22), .ref (v 23), .int 0, .int 0, .ref (v 24), .ref (v 25), .int 0, .int 0, .ref (v 26), .ref (v 27), .ref (v 28), .int 0, .int 0, .int 0])), ((v 0), .inl (K 0, 4, .inl fw)), ((v 1), .inl (K 0, 4, .inl (fun _ => 0))), ((v 2), .inl (K 3, 240, .inr (.inl (fun _ => 0)))), ((v 4), .inl (K 1, 1400, .inl (fun _ => 0))), ((v 5), .inl (K 0, 5, .inl (fun _ => 0))), ((v 6), .inl (K 0, 40, .inl (fun _ => 0))), ((v 7), .inl (K 0, 50, .inl (fun _ => 0))), ((v 8), .inl (K 0, 60, .inl (fun _ => 0))), ((v 9), .inl (K 0, 480, .inl (fun _ => 0))), ((v 10), .inl (K 0, 600, .inl (fun _ => 0))), ((v 11), .inl (K 2, 3, .inl (fun _ => 0)))] := hD
  refine lv_aload_n hx hb dL_law_733 rfl (lv_at hl 1 rfl) ?_
  refine fn_goi (wc := [(m0, .inr (12, [.int 0, .ref (v 0), .ref (v 1), .ref (v 2), .ref (v 3), .ref (v 4), .int 0, .int 0, .int 0, .int 0, .int 0, .long 0, .int 0, .int 0, .int 0, .int (-1), .ref (v 5), .ref (v 6), .ref (v 7), .ref (v 8), .ref (v 9), .ref (v 10), .ref (v 11), .ref (v 12), .ref (v 13), .ref (v 14), .ref (v 15), .ref (v 16), .ref (v 17), .ref (v 18), .ref (v 19), .ref (v 20), .int 0, .int 0, .int 0, .int 0, .ref (v 21), .ref (v 22), .ref (v 23), .int 0, .int 0, .ref (v 24), .ref (v 25), .int 0, .int 0, .ref (v 26), .ref (v 27), .ref (v 28), .int 0, .int 0, .int 0])), ((v 5), .inl (K 0, 5, .inl (fun _ => 0))), ((v 6), .inl (K 0, 40, .inl (fun _ => 0)))]) (wr := []) hK hP hD hS hA [0, 5, 6] [] rfl rfl (by decide) (fun hp => va_runV (C := RX12) (As := []) (rest := [.int (-2)]) ⟨hx, hb, hml, hown, hts⟩ (c_X12_anew (l := l) (D := D) (K := K) (m0 := (m0)) (fm := ([.int 0, .ref (v 0), .ref (v 1), .ref (v 2), .ref (v 3), .ref (v 4), .int 0, .int 0, .int 0, .int 0, .int 0, .long 0, .int 0, .int 0, .int 0, .int (-1), .ref (v 5), .ref (v 6), .ref (v 7), .ref (v 8), .ref (v 9), .ref (v 10), .ref (v 11), .ref (v 12), .ref (v 13), .ref (v 14), .ref (v 15), .ref (v 16), .ref (v 17), .ref (v 18), .ref (v 19), .ref (v 20), .int 0, .int 0, .int 0, .int 0, .ref (v 21), .ref (v 22), .ref (v 23), .int 0, .int 0, .ref (v 24), .ref (v 25), .int 0, .int 0, .ref (v 26), .ref (v 27), .ref (v 28), .int 0, .int 0, .int 0])) (hmn := rfl) (al := ((v 5))) (hm16 := rfl) (ah := ((v 6))) (hm17 := rfl) (fl := (fun _ => 0)) (hfl := (fun _ => rfl)) (fh := (fun _ => 0)) (hfh := (fun _ => rfl)) _) (cwV 0 hts (fn_ginV (fn_gin wd_1624) wd_1621 wd_1622 wd_1623 wd_13) rfl rfl rfl (by decide +kernel) ⟨Nat.le_of_ble_eq_true rfl, Nat.le_of_ble_eq_true rfl⟩) ⟨fn_blind, va_recv hK.1 hP (ci := 12) (q0 := 0) rfl rfl, hp⟩ rfl rfl hl.1 rfl (lv_room (Nat.le_of_ble_eq_true rfl)) dL_law_734 ⟨Nat.le_of_ble_eq_true rfl, Nat.le_of_ble_eq_true rfl⟩) (fun r4 u3 H locs hwu3 hP hD hS => ?_)
  have r4_e : r4 = (-2) := hwu3
  subst r4_e
  have hP : va_P D vwCl [] H := hP
  have hD : va_D A [] := hD
  refine lv_icmp_eq (tgt := 1996) hx hb dL_law_737 (by decide) (fun _ => ?_) (fun h9 => absurd (by decide) h9)
  refine lv_iinc (v := 6) (lv' := [(3, .int 6), (2, .ref m0), (1, .ref x0), (0, .ref b)]) hx hb dL_law_1996 hl (k := 0) rfl (by decide) (by decide) rfl (fun ls hl => ?_)
  refine lv_goto (tgt := 18) hx hb dL_law_1999 (by decide) ?_
  refine lv_iload_n hx hb dL_law_18 rfl (lv_at hl 0 rfl) ?_
  refine lv_aload_n hx hb dL_law_19 rfl (lv_at hl 3 rfl) ?_
  refine va_slen hx hb hX hbl hbA hS dL_law_20 ?_
  refine fn_top 6 (by decide) ?_
  refine lv_bipush (v := 6) hx hb dL_law_21 (by decide) ?_
  refine lv_isub hx hb dL_law_23 ?_
  refine fn_top 0 (by decide) ?_
  refine lv_icmp_gt (tgt := 2002) hx hb dL_law_24 (by decide) (fun _ => ?_) (fun h9 => absurd (by decide) h9)
  refine lv_iconst (v := 1) hx hb dL_law_2002 (by decide) ?_
  refine va_forget (fun q hq => by have h9 := hS.2.2 q hq; rw [← hAe] at h9; exact h9) ?_
  refine W.widen (k := 600000) (n := 7302250) (Nat.le_of_ble_eq_true rfl) (Nat.le_of_ble_eq_true rfl) ?_
  exact lw_ret hx hb hr hlocks dL_law_2003
