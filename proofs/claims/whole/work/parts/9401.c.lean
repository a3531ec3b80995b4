/-! The law's cases 1, 2, 3, 4, 5, 6 -/
theorem dL_law_301 : decode cL_law 301 = .ok (.aload_n 1, 1) := by decide +kernel
theorem dL_law_302 : decode cL_law 302 = .ok (.aload_n 0, 1) := by decide +kernel
theorem dL_law_303 : decode cL_law 303 = .ok (.iload 4, 2) := by decide +kernel
theorem dL_law_305 : decode cL_law 305 = .ok (.iconst 1, 1) := by decide +kernel
theorem dL_law_306 : decode cL_law 306 = .ok (.iadd, 1) := by decide +kernel
theorem dL_law_307 : decode cL_law 307 = .ok (.iaload, 1) := by decide +kernel
theorem dL_law_308 : decode cL_law 308 = .ok (.invokevirtual 111, 3) := by decide +kernel
theorem dL_law_311 : decode cL_law 311 = .ok (.aload_n 2, 1) := by decide +kernel
theorem dL_law_312 : decode cL_law 312 = .ok (.aload_n 0, 1) := by decide +kernel
theorem dL_law_313 : decode cL_law 313 = .ok (.iload 4, 2) := by decide +kernel
theorem dL_law_315 : decode cL_law 315 = .ok (.iconst 1, 1) := by decide +kernel
theorem dL_law_316 : decode cL_law 316 = .ok (.iadd, 1) := by decide +kernel
theorem dL_law_317 : decode cL_law 317 = .ok (.iaload, 1) := by decide +kernel
theorem dL_law_318 : decode cL_law 318 = .ok (.invokevirtual 115, 3) := by decide +kernel
theorem dL_law_321 : decode cL_law 321 = .ok (.if_icmp .eq 1974, 3) := by decide +kernel
theorem dL_law_324 : decode cL_law 324 = .ok (.iconst 0, 1) := by decide +kernel
theorem dL_law_325 : decode cL_law 325 = .ok (.ireturn, 1) := by decide +kernel
set_option maxRecDepth 100000 in
set_option maxHeartbeats 4000000 in
theorem law_1 {p : Program} {l : Launch} {e : Env} {R : Room} {s : State} {m : MethodId} {args : Array Value} {below : List Frame} {meth : Method} {c : Code} {cells slots : Nat} {Q : State → Prop} {D : va_G} {Ca : Nat → ClassId} {B : Nat} {En : State → Prop} {N b L X i : Nat} {xs : Nat → Int32} {z : Int} (C : zC p s m args meth c cL_law RL 9 D Ca B En) (hT : ∀ U, En U → zThr B U) (hT2 : ∀ U, En U → va_Nc (zEx 4) (zEx 1) U ∧ va_Nc (zEx 2) (zEx 1) U) (hl0 : l.stackTraces = false) (ev : zEv) (hZ : ∀ U : State, En U → zEnv ev B U) (hLS : zLS s B b L xs) (hi : i + 6 ≤ L) (hRm : zRm R 2048 84000 (cells + 1) (slots + 6)) (σ : zS) (hJ : J X z σ) (h0 : 0 ≤ z) (hz : z < 700000000)
    (kk : ∀ (σ2 : zS) (N2 : Nat), N ≤ N2 → J X (z + 501) σ2 → zW p l e R s m args below meth c (cells + 1) (slots + 6) Q D Ca B 9 σ2 N2 2295 (lawLv b X i) []) : zW p l e R s m args below meth c cells slots Q D Ca B 9 σ N 301 (lawLv b X i) [] := by
  have hRm0 : zRm R 2048 84000 cells slots := ⟨hRm.1, hRm.2.1, Nat.le_of_succ_le hRm.2.2.1, Nat.le_trans (Nat.le_add_right slots 6) hRm.2.2.2⟩
  have kX := (J_k hJ).1
  have kY := (J_k hJ).2.1
  obtain ⟨σ1, σ2, a, e1, e2, k1, k2, hJ2⟩ := j_truncate hJ h0 hz (xs (i + 1))
  have kY1 : (σ1.1 (X + 307)).1 = 14 := by rw [k1]; exact kY
  refine z_aload_n C dL_law_301 rfl 1 rfl ?_
  refine z_aload_n C dL_law_302 rfl 0 rfl ?_
  refine z_iload C dL_law_303 4 rfl ?_
  refine z_iconst C (zi 1) dL_law_305 (by decide) ?_
  refine z_iadd C dL_law_306 ?_
  refine z_sld C hLS (i + 1) (z_ix i 1) (by omega) dL_law_307 ?_
  refine z_callVi (As := [.int (xs (i + 1))]) (F0 := 2048) (L0 := 84000) C (mX9_truncate l D Ca B En C.2.2.2.2.2.2.2.1 σ N X (xs (i + 1)) (σ1, a) e1) hRm0 kX rfl kw_495 kw_1 kw_492 kw_493 kw_494 hyX9_truncate (Nat.le_of_ble_eq_true rfl) (Nat.le_of_ble_eq_true rfl) rfl rfl (Nat.le_of_ble_eq_true rfl) dL_law_308 ?_
  refine z_aload_n C dL_law_311 rfl 2 rfl ?_
  refine z_aload_n C dL_law_312 rfl 0 rfl ?_
  refine z_iload C dL_law_313 4 rfl ?_
  refine z_iconst C (zi 1) dL_law_315 (by decide) ?_
  refine z_iadd C dL_law_316 ?_
  refine z_sld C hLS (i + 1) (z_ix i 1) (by omega) dL_law_317 ?_
  refine z_callVi (As := [.int (xs (i + 1))]) (F0 := 2048) (L0 := 84000) C (mX10_truncate l D Ca B En C.2.2.2.2.2.2.2.1 σ1 N (X + 307) (xs (i + 1)) (σ2, a) e2) hRm0 kY1 rfl kw_1820 kw_14 kw_1817 kw_1818 kw_1819 hyX10_truncate (Nat.le_of_ble_eq_true rfl) (Nat.le_of_ble_eq_true rfl) rfl rfl (Nat.le_of_ble_eq_true rfl) dL_law_318 ?_
  refine z_icmp_eq C 2295 dL_law_321 (by decide) (fun _ => ?_) (fun q => absurd rfl q)
  exact z_widen (by omega) (by omega) (kk σ2 N (Nat.le_refl N) hJ2)
theorem dL_law_326 : decode cL_law 326 = .ok (.aload_n 1, 1) := by decide +kernel
theorem dL_law_327 : decode cL_law 327 = .ok (.invokevirtual 116, 3) := by decide +kernel
theorem dL_law_330 : decode cL_law 330 = .ok (.aload_n 2, 1) := by decide +kernel
theorem dL_law_331 : decode cL_law 331 = .ok (.invokevirtual 119, 3) := by decide +kernel
theorem dL_law_334 : decode cL_law 334 = .ok (.if_icmp .eq 1961, 3) := by decide +kernel
theorem dL_law_337 : decode cL_law 337 = .ok (.iconst 0, 1) := by decide +kernel
theorem dL_law_338 : decode cL_law 338 = .ok (.ireturn, 1) := by decide +kernel
set_option maxRecDepth 100000 in
set_option maxHeartbeats 4000000 in
theorem law_2 {p : Program} {l : Launch} {e : Env} {R : Room} {s : State} {m : MethodId} {args : Array Value} {below : List Frame} {meth : Method} {c : Code} {cells slots : Nat} {Q : State → Prop} {D : va_G} {Ca : Nat → ClassId} {B : Nat} {En : State → Prop} {N b L X i : Nat} {xs : Nat → Int32} {z : Int} (C : zC p s m args meth c cL_law RL 9 D Ca B En) (hT : ∀ U, En U → zThr B U) (hT2 : ∀ U, En U → va_Nc (zEx 4) (zEx 1) U ∧ va_Nc (zEx 2) (zEx 1) U) (hl0 : l.stackTraces = false) (ev : zEv) (hZ : ∀ U : State, En U → zEnv ev B U) (hLS : zLS s B b L xs) (hi : i + 6 ≤ L) (hRm : zRm R 2048 84000 (cells + 1) (slots + 6)) (σ : zS) (hJ : J X z σ) (h0 : 0 ≤ z) (hz : z < 700000000)
    (kk : ∀ (σ2 : zS) (N2 : Nat), N ≤ N2 → J X (z + 501) σ2 → zW p l e R s m args below meth c (cells + 1) (slots + 6) Q D Ca B 9 σ2 N2 2295 (lawLv b X i) []) : zW p l e R s m args below meth c cells slots Q D Ca B 9 σ N 326 (lawLv b X i) [] := by
  have hRm0 : zRm R 2048 84000 cells slots := ⟨hRm.1, hRm.2.1, Nat.le_of_succ_le hRm.2.2.1, Nat.le_trans (Nat.le_add_right slots 6) hRm.2.2.2⟩
  have kX := (J_k hJ).1
  have kY := (J_k hJ).2.1
  obtain ⟨σ1, σ2, a, e1, e2, k1, k2, hJ2⟩ := j_parse hJ h0 hz 
  have kY1 : (σ1.1 (X + 307)).1 = 14 := by rw [k1]; exact kY
  refine z_aload_n C dL_law_326 rfl 1 rfl ?_
  refine z_callVi (As := []) (F0 := 2048) (L0 := 84000) C (mX9_parse l D Ca B En C.2.2.2.2.2.2.2.1 ev hZ σ N X  (σ1, a) e1) hRm0 kX rfl kw_499 kw_1 kw_496 kw_497 kw_498 hyX9_parse (Nat.le_of_ble_eq_true rfl) (Nat.le_of_ble_eq_true rfl) rfl rfl (Nat.le_of_ble_eq_true rfl) dL_law_327 ?_
  refine z_aload_n C dL_law_330 rfl 2 rfl ?_
  refine z_callVi (As := []) (F0 := 2048) (L0 := 84000) C (mX10_parse l D Ca B En C.2.2.2.2.2.2.2.1 ev hZ σ1 N (X + 307)  (σ2, a) e2) hRm0 kY1 rfl kw_1824 kw_14 kw_1821 kw_1822 kw_1823 hyX10_parse (Nat.le_of_ble_eq_true rfl) (Nat.le_of_ble_eq_true rfl) rfl rfl (Nat.le_of_ble_eq_true rfl) dL_law_331 ?_
  refine z_icmp_eq C 2295 dL_law_334 (by decide) (fun _ => ?_) (fun q => absurd rfl q)
  exact z_widen (by omega) (by omega) (kk σ2 N (Nat.le_refl N) hJ2)
theorem dL_law_339 : decode cL_law 339 = .ok (.aload_n 1, 1) := by decide +kernel
theorem dL_law_340 : decode cL_law 340 = .ok (.invokevirtual 120, 3) := by decide +kernel
theorem dL_law_343 : decode cL_law 343 = .ok (.aload_n 2, 1) := by decide +kernel
theorem dL_law_344 : decode cL_law 344 = .ok (.invokevirtual 123, 3) := by decide +kernel
theorem dL_law_347 : decode cL_law 347 = .ok (.if_icmp .eq 1948, 3) := by decide +kernel
theorem dL_law_350 : decode cL_law 350 = .ok (.iconst 0, 1) := by decide +kernel
theorem dL_law_351 : decode cL_law 351 = .ok (.ireturn, 1) := by decide +kernel
set_option maxRecDepth 100000 in
set_option maxHeartbeats 4000000 in
theorem law_3 {p : Program} {l : Launch} {e : Env} {R : Room} {s : State} {m : MethodId} {args : Array Value} {below : List Frame} {meth : Method} {c : Code} {cells slots : Nat} {Q : State → Prop} {D : va_G} {Ca : Nat → ClassId} {B : Nat} {En : State → Prop} {N b L X i : Nat} {xs : Nat → Int32} {z : Int} (C : zC p s m args meth c cL_law RL 9 D Ca B En) (hT : ∀ U, En U → zThr B U) (hT2 : ∀ U, En U → va_Nc (zEx 4) (zEx 1) U ∧ va_Nc (zEx 2) (zEx 1) U) (hl0 : l.stackTraces = false) (ev : zEv) (hZ : ∀ U : State, En U → zEnv ev B U) (hLS : zLS s B b L xs) (hi : i + 6 ≤ L) (hRm : zRm R 2048 84000 (cells + 1) (slots + 6)) (σ : zS) (hJ : J X z σ) (h0 : 0 ≤ z) (hz : z < 700000000)
    (kk : ∀ (σ2 : zS) (N2 : Nat), N ≤ N2 → J X (z + 501) σ2 → zW p l e R s m args below meth c (cells + 1) (slots + 6) Q D Ca B 9 σ2 N2 2295 (lawLv b X i) []) : zW p l e R s m args below meth c cells slots Q D Ca B 9 σ N 339 (lawLv b X i) [] := by
  have hRm0 : zRm R 2048 84000 cells slots := ⟨hRm.1, hRm.2.1, Nat.le_of_succ_le hRm.2.2.1, Nat.le_trans (Nat.le_add_right slots 6) hRm.2.2.2⟩
  have kX := (J_k hJ).1
  have kY := (J_k hJ).2.1
  obtain ⟨σ1, σ2, a, e1, e2, k1, k2, hJ2⟩ := j_errorCode hJ h0 hz 
  have kY1 : (σ1.1 (X + 307)).1 = 14 := by rw [k1]; exact kY
  refine z_aload_n C dL_law_339 rfl 1 rfl ?_
  refine z_callVi (As := []) (F0 := 2048) (L0 := 84000) C (mX9_errorCode l D Ca B En C.2.2.2.2.2.2.2.1 σ N X  (σ1, a) e1) hRm0 kX rfl kw_638 kw_1 kw_635 kw_636 kw_637 hyX9_errorCode (Nat.le_of_ble_eq_true rfl) (Nat.le_of_ble_eq_true rfl) rfl rfl (Nat.le_of_ble_eq_true rfl) dL_law_340 ?_
  refine z_aload_n C dL_law_343 rfl 2 rfl ?_
  refine z_callVi (As := []) (F0 := 2048) (L0 := 84000) C (mX10_errorCode l D Ca B En C.2.2.2.2.2.2.2.1 σ1 N (X + 307)  (σ2, a) e2) hRm0 kY1 rfl kw_1900 kw_14 kw_1897 kw_1898 kw_1899 hyX10_errorCode (Nat.le_of_ble_eq_true rfl) (Nat.le_of_ble_eq_true rfl) rfl rfl (Nat.le_of_ble_eq_true rfl) dL_law_344 ?_
  refine z_icmp_eq C 2295 dL_law_347 (by decide) (fun _ => ?_) (fun q => absurd rfl q)
  exact z_widen (by omega) (by omega) (kk σ2 N (Nat.le_refl N) hJ2)
theorem dL_law_352 : decode cL_law 352 = .ok (.aload_n 1, 1) := by decide +kernel
theorem dL_law_353 : decode cL_law 353 = .ok (.invokevirtual 124, 3) := by decide +kernel
theorem dL_law_356 : decode cL_law 356 = .ok (.aload_n 2, 1) := by decide +kernel
theorem dL_law_357 : decode cL_law 357 = .ok (.invokevirtual 127, 3) := by decide +kernel
theorem dL_law_360 : decode cL_law 360 = .ok (.if_icmp .eq 1935, 3) := by decide +kernel
theorem dL_law_363 : decode cL_law 363 = .ok (.iconst 0, 1) := by decide +kernel
theorem dL_law_364 : decode cL_law 364 = .ok (.ireturn, 1) := by decide +kernel
set_option maxRecDepth 100000 in
set_option maxHeartbeats 4000000 in
theorem law_4 {p : Program} {l : Launch} {e : Env} {R : Room} {s : State} {m : MethodId} {args : Array Value} {below : List Frame} {meth : Method} {c : Code} {cells slots : Nat} {Q : State → Prop} {D : va_G} {Ca : Nat → ClassId} {B : Nat} {En : State → Prop} {N b L X i : Nat} {xs : Nat → Int32} {z : Int} (C : zC p s m args meth c cL_law RL 9 D Ca B En) (hT : ∀ U, En U → zThr B U) (hT2 : ∀ U, En U → va_Nc (zEx 4) (zEx 1) U ∧ va_Nc (zEx 2) (zEx 1) U) (hl0 : l.stackTraces = false) (ev : zEv) (hZ : ∀ U : State, En U → zEnv ev B U) (hLS : zLS s B b L xs) (hi : i + 6 ≤ L) (hRm : zRm R 2048 84000 (cells + 1) (slots + 6)) (σ : zS) (hJ : J X z σ) (h0 : 0 ≤ z) (hz : z < 700000000)
    (kk : ∀ (σ2 : zS) (N2 : Nat), N ≤ N2 → J X (z + 501) σ2 → zW p l e R s m args below meth c (cells + 1) (slots + 6) Q D Ca B 9 σ2 N2 2295 (lawLv b X i) []) : zW p l e R s m args below meth c cells slots Q D Ca B 9 σ N 352 (lawLv b X i) [] := by
  have hRm0 : zRm R 2048 84000 cells slots := ⟨hRm.1, hRm.2.1, Nat.le_of_succ_le hRm.2.2.1, Nat.le_trans (Nat.le_add_right slots 6) hRm.2.2.2⟩
  have kX := (J_k hJ).1
  have kY := (J_k hJ).2.1
  obtain ⟨σ1, σ2, a, e1, e2, k1, k2, hJ2⟩ := j_errorOffset hJ h0 hz 
  have kY1 : (σ1.1 (X + 307)).1 = 14 := by rw [k1]; exact kY
  refine z_aload_n C dL_law_352 rfl 1 rfl ?_
  refine z_callVi (As := []) (F0 := 2048) (L0 := 84000) C (mX9_errorOffset l D Ca B En C.2.2.2.2.2.2.2.1 σ N X  (σ1, a) e1) hRm0 kX rfl kw_642 kw_1 kw_639 kw_640 kw_641 hyX9_errorOffset (Nat.le_of_ble_eq_true rfl) (Nat.le_of_ble_eq_true rfl) rfl rfl (Nat.le_of_ble_eq_true rfl) dL_law_353 ?_
  refine z_aload_n C dL_law_356 rfl 2 rfl ?_
  refine z_callVi (As := []) (F0 := 2048) (L0 := 84000) C (mX10_errorOffset l D Ca B En C.2.2.2.2.2.2.2.1 σ1 N (X + 307)  (σ2, a) e2) hRm0 kY1 rfl kw_1904 kw_14 kw_1901 kw_1902 kw_1903 hyX10_errorOffset (Nat.le_of_ble_eq_true rfl) (Nat.le_of_ble_eq_true rfl) rfl rfl (Nat.le_of_ble_eq_true rfl) dL_law_357 ?_
  refine z_icmp_eq C 2295 dL_law_360 (by decide) (fun _ => ?_) (fun q => absurd rfl q)
  exact z_widen (by omega) (by omega) (kk σ2 N (Nat.le_refl N) hJ2)
theorem dL_law_365 : decode cL_law 365 = .ok (.aload_n 1, 1) := by decide +kernel
theorem dL_law_366 : decode cL_law 366 = .ok (.aload_n 0, 1) := by decide +kernel
theorem dL_law_367 : decode cL_law 367 = .ok (.iload 4, 2) := by decide +kernel
theorem dL_law_369 : decode cL_law 369 = .ok (.iconst 1, 1) := by decide +kernel
theorem dL_law_370 : decode cL_law 370 = .ok (.iadd, 1) := by decide +kernel
theorem dL_law_371 : decode cL_law 371 = .ok (.iaload, 1) := by decide +kernel
theorem dL_law_372 : decode cL_law 372 = .ok (.invokevirtual 128, 3) := by decide +kernel
theorem dL_law_375 : decode cL_law 375 = .ok (.aload_n 2, 1) := by decide +kernel
theorem dL_law_376 : decode cL_law 376 = .ok (.aload_n 0, 1) := by decide +kernel
theorem dL_law_377 : decode cL_law 377 = .ok (.iload 4, 2) := by decide +kernel
theorem dL_law_379 : decode cL_law 379 = .ok (.iconst 1, 1) := by decide +kernel
theorem dL_law_380 : decode cL_law 380 = .ok (.iadd, 1) := by decide +kernel
theorem dL_law_381 : decode cL_law 381 = .ok (.iaload, 1) := by decide +kernel
theorem dL_law_382 : decode cL_law 382 = .ok (.invokevirtual 131, 3) := by decide +kernel
theorem dL_law_385 : decode cL_law 385 = .ok (.if_icmp .eq 1910, 3) := by decide +kernel
theorem dL_law_388 : decode cL_law 388 = .ok (.iconst 0, 1) := by decide +kernel
theorem dL_law_389 : decode cL_law 389 = .ok (.ireturn, 1) := by decide +kernel
set_option maxRecDepth 100000 in
set_option maxHeartbeats 4000000 in
theorem law_5 {p : Program} {l : Launch} {e : Env} {R : Room} {s : State} {m : MethodId} {args : Array Value} {below : List Frame} {meth : Method} {c : Code} {cells slots : Nat} {Q : State → Prop} {D : va_G} {Ca : Nat → ClassId} {B : Nat} {En : State → Prop} {N b L X i : Nat} {xs : Nat → Int32} {z : Int} (C : zC p s m args meth c cL_law RL 9 D Ca B En) (hT : ∀ U, En U → zThr B U) (hT2 : ∀ U, En U → va_Nc (zEx 4) (zEx 1) U ∧ va_Nc (zEx 2) (zEx 1) U) (hl0 : l.stackTraces = false) (ev : zEv) (hZ : ∀ U : State, En U → zEnv ev B U) (hLS : zLS s B b L xs) (hi : i + 6 ≤ L) (hRm : zRm R 2048 84000 (cells + 1) (slots + 6)) (σ : zS) (hJ : J X z σ) (h0 : 0 ≤ z) (hz : z < 700000000)
    (kk : ∀ (σ2 : zS) (N2 : Nat), N ≤ N2 → J X (z + 501) σ2 → zW p l e R s m args below meth c (cells + 1) (slots + 6) Q D Ca B 9 σ2 N2 2295 (lawLv b X i) []) : zW p l e R s m args below meth c cells slots Q D Ca B 9 σ N 365 (lawLv b X i) [] := by
  have hRm0 : zRm R 2048 84000 cells slots := ⟨hRm.1, hRm.2.1, Nat.le_of_succ_le hRm.2.2.1, Nat.le_trans (Nat.le_add_right slots 6) hRm.2.2.2⟩
  have kX := (J_k hJ).1
  have kY := (J_k hJ).2.1
  obtain ⟨σ1, σ2, a, e1, e2, k1, k2, hJ2⟩ := j_count hJ h0 hz (xs (i + 1))
  have kY1 : (σ1.1 (X + 307)).1 = 14 := by rw [k1]; exact kY
  refine z_aload_n C dL_law_365 rfl 1 rfl ?_
  refine z_aload_n C dL_law_366 rfl 0 rfl ?_
  refine z_iload C dL_law_367 4 rfl ?_
  refine z_iconst C (zi 1) dL_law_369 (by decide) ?_
  refine z_iadd C dL_law_370 ?_
  refine z_sld C hLS (i + 1) (z_ix i 1) (by omega) dL_law_371 ?_
  refine z_callVi (As := [.int (xs (i + 1))]) (F0 := 2048) (L0 := 84000) C (mX9_count l D Ca B En C.2.2.2.2.2.2.2.1 σ N X (xs (i + 1)) (σ1, a) e1) hRm0 kX rfl kw_646 kw_1 kw_643 kw_644 kw_645 hyX9_count (Nat.le_of_ble_eq_true rfl) (Nat.le_of_ble_eq_true rfl) rfl rfl (Nat.le_of_ble_eq_true rfl) dL_law_372 ?_
  refine z_aload_n C dL_law_375 rfl 2 rfl ?_
  refine z_aload_n C dL_law_376 rfl 0 rfl ?_
  refine z_iload C dL_law_377 4 rfl ?_
  refine z_iconst C (zi 1) dL_law_379 (by decide) ?_
  refine z_iadd C dL_law_380 ?_
  refine z_sld C hLS (i + 1) (z_ix i 1) (by omega) dL_law_381 ?_
  refine z_callVi (As := [.int (xs (i + 1))]) (F0 := 2048) (L0 := 84000) C (mX10_count l D Ca B En C.2.2.2.2.2.2.2.1 σ1 N (X + 307) (xs (i + 1)) (σ2, a) e2) hRm0 kY1 rfl kw_1697 kw_14 kw_1694 kw_1695 kw_1696 hyX10_count (Nat.le_of_ble_eq_true rfl) (Nat.le_of_ble_eq_true rfl) rfl rfl (Nat.le_of_ble_eq_true rfl) dL_law_382 ?_
  refine z_icmp_eq C 2295 dL_law_385 (by decide) (fun _ => ?_) (fun q => absurd rfl q)
  exact z_widen (by omega) (by omega) (kk σ2 N (Nat.le_refl N) hJ2)
theorem dL_law_390 : decode cL_law 390 = .ok (.aload_n 1, 1) := by decide +kernel
theorem dL_law_391 : decode cL_law 391 = .ok (.invokevirtual 132, 3) := by decide +kernel
theorem dL_law_394 : decode cL_law 394 = .ok (.aload_n 2, 1) := by decide +kernel
theorem dL_law_395 : decode cL_law 395 = .ok (.invokevirtual 135, 3) := by decide +kernel
theorem dL_law_398 : decode cL_law 398 = .ok (.if_icmp .eq 1897, 3) := by decide +kernel
theorem dL_law_401 : decode cL_law 401 = .ok (.iconst 0, 1) := by decide +kernel
theorem dL_law_402 : decode cL_law 402 = .ok (.ireturn, 1) := by decide +kernel
set_option maxRecDepth 100000 in
set_option maxHeartbeats 4000000 in
theorem law_6 {p : Program} {l : Launch} {e : Env} {R : Room} {s : State} {m : MethodId} {args : Array Value} {below : List Frame} {meth : Method} {c : Code} {cells slots : Nat} {Q : State → Prop} {D : va_G} {Ca : Nat → ClassId} {B : Nat} {En : State → Prop} {N b L X i : Nat} {xs : Nat → Int32} {z : Int} (C : zC p s m args meth c cL_law RL 9 D Ca B En) (hT : ∀ U, En U → zThr B U) (hT2 : ∀ U, En U → va_Nc (zEx 4) (zEx 1) U ∧ va_Nc (zEx 2) (zEx 1) U) (hl0 : l.stackTraces = false) (ev : zEv) (hZ : ∀ U : State, En U → zEnv ev B U) (hLS : zLS s B b L xs) (hi : i + 6 ≤ L) (hRm : zRm R 2048 84000 (cells + 1) (slots + 6)) (σ : zS) (hJ : J X z σ) (h0 : 0 ≤ z) (hz : z < 700000000)
    (kk : ∀ (σ2 : zS) (N2 : Nat), N ≤ N2 → J X (z + 501) σ2 → zW p l e R s m args below meth c (cells + 1) (slots + 6) Q D Ca B 9 σ2 N2 2295 (lawLv b X i) []) : zW p l e R s m args below meth c cells slots Q D Ca B 9 σ N 390 (lawLv b X i) [] := by
  have hRm0 : zRm R 2048 84000 cells slots := ⟨hRm.1, hRm.2.1, Nat.le_of_succ_le hRm.2.2.1, Nat.le_trans (Nat.le_add_right slots 6) hRm.2.2.2⟩
  have kX := (J_k hJ).1
  have kY := (J_k hJ).2.1
  obtain ⟨σ1, σ2, a, e1, e2, k1, k2, hJ2⟩ := j_find hJ h0 hz 
  have kY1 : (σ1.1 (X + 307)).1 = 14 := by rw [k1]; exact kY
  refine z_aload_n C dL_law_390 rfl 1 rfl ?_
  refine z_callVi (As := []) (F0 := 2048) (L0 := 84000) C (mX9_find l D Ca B En C.2.2.2.2.2.2.2.1 σ N X  (σ1, a) e1) hRm0 kX rfl kw_650 kw_1 kw_647 kw_648 kw_649 hyX9_find (Nat.le_of_ble_eq_true rfl) (Nat.le_of_ble_eq_true rfl) rfl rfl (Nat.le_of_ble_eq_true rfl) dL_law_391 ?_
  refine z_aload_n C dL_law_394 rfl 2 rfl ?_
  refine z_callVi (As := []) (F0 := 2048) (L0 := 84000) C (mX10_find l D Ca B En C.2.2.2.2.2.2.2.1 ev hZ σ1 N (X + 307)  (σ2, a) e2) hRm0 kY1 rfl kw_1908 kw_14 kw_1905 kw_1906 kw_1907 hyX10_find (Nat.le_of_ble_eq_true rfl) (Nat.le_of_ble_eq_true rfl) rfl rfl (Nat.le_of_ble_eq_true rfl) dL_law_395 ?_
  refine z_icmp_eq C 2295 dL_law_398 (by decide) (fun _ => ?_) (fun q => absurd rfl q)
  exact z_widen (by omega) (by omega) (kk σ2 N (Nat.le_refl N) hJ2)
