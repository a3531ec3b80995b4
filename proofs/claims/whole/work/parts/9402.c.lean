/-! The law's cases 7 -/
theorem dL_law_403 : decode cL_law 403 = .ok (.aload_n 1, 1) := by decide +kernel
theorem dL_law_404 : decode cL_law 404 = .ok (.aload_n 0, 1) := by decide +kernel
theorem dL_law_405 : decode cL_law 405 = .ok (.iload 4, 2) := by decide +kernel
theorem dL_law_407 : decode cL_law 407 = .ok (.iconst 1, 1) := by decide +kernel
theorem dL_law_408 : decode cL_law 408 = .ok (.iadd, 1) := by decide +kernel
theorem dL_law_409 : decode cL_law 409 = .ok (.iaload, 1) := by decide +kernel
theorem dL_law_410 : decode cL_law 410 = .ok (.aload_n 0, 1) := by decide +kernel
theorem dL_law_411 : decode cL_law 411 = .ok (.iload 4, 2) := by decide +kernel
theorem dL_law_413 : decode cL_law 413 = .ok (.iconst 2, 1) := by decide +kernel
theorem dL_law_414 : decode cL_law 414 = .ok (.iadd, 1) := by decide +kernel
theorem dL_law_415 : decode cL_law 415 = .ok (.iaload, 1) := by decide +kernel
theorem dL_law_416 : decode cL_law 416 = .ok (.aload_n 3, 1) := by decide +kernel
theorem dL_law_417 : decode cL_law 417 = .ok (.invokestatic 136, 3) := by decide +kernel
theorem dL_law_420 : decode cL_law 420 = .ok (.istore 5, 2) := by decide +kernel
theorem dL_law_422 : decode cL_law 422 = .ok (.aload_n 2, 1) := by decide +kernel
theorem dL_law_423 : decode cL_law 423 = .ok (.aload_n 0, 1) := by decide +kernel
theorem dL_law_424 : decode cL_law 424 = .ok (.iload 4, 2) := by decide +kernel
theorem dL_law_426 : decode cL_law 426 = .ok (.iconst 1, 1) := by decide +kernel
theorem dL_law_427 : decode cL_law 427 = .ok (.iadd, 1) := by decide +kernel
theorem dL_law_428 : decode cL_law 428 = .ok (.iaload, 1) := by decide +kernel
theorem dL_law_429 : decode cL_law 429 = .ok (.aload_n 0, 1) := by decide +kernel
theorem dL_law_430 : decode cL_law 430 = .ok (.iload 4, 2) := by decide +kernel
theorem dL_law_432 : decode cL_law 432 = .ok (.iconst 2, 1) := by decide +kernel
theorem dL_law_433 : decode cL_law 433 = .ok (.iadd, 1) := by decide +kernel
theorem dL_law_434 : decode cL_law 434 = .ok (.iaload, 1) := by decide +kernel
theorem dL_law_435 : decode cL_law 435 = .ok (.invokevirtual 141, 3) := by decide +kernel
theorem dL_law_438 : decode cL_law 438 = .ok (.istore 6, 2) := by decide +kernel
theorem dL_law_440 : decode cL_law 440 = .ok (.aload_n 2, 1) := by decide +kernel
theorem dL_law_441 : decode cL_law 441 = .ok (.invokevirtual 142, 3) := by decide +kernel
theorem dL_law_444 : decode cL_law 444 = .ok (.iload 5, 2) := by decide +kernel
theorem dL_law_446 : decode cL_law 446 = .ok (.if_icmp .eq 5, 3) := by decide +kernel
theorem dL_law_449 : decode cL_law 449 = .ok (.iconst 0, 1) := by decide +kernel
theorem dL_law_450 : decode cL_law 450 = .ok (.ireturn, 1) := by decide +kernel
theorem dL_law_451 : decode cL_law 451 = .ok (.iload 5, 2) := by decide +kernel
theorem dL_law_453 : decode cL_law 453 = .ok (.ifCond .ne 15, 3) := by decide +kernel
theorem dL_law_456 : decode cL_law 456 = .ok (.aload_n 3, 1) := by decide +kernel
theorem dL_law_457 : decode cL_law 457 = .ok (.iconst 0, 1) := by decide +kernel
theorem dL_law_458 : decode cL_law 458 = .ok (.laload, 1) := by decide +kernel
theorem dL_law_459 : decode cL_law 459 = .ok (.iload 6, 2) := by decide +kernel
theorem dL_law_461 : decode cL_law 461 = .ok (.i2l, 1) := by decide +kernel
theorem dL_law_462 : decode cL_law 462 = .ok (.lcmp, 1) := by decide +kernel
theorem dL_law_463 : decode cL_law 463 = .ok (.ifCond .eq 5, 3) := by decide +kernel
theorem dL_law_466 : decode cL_law 466 = .ok (.iconst 0, 1) := by decide +kernel
theorem dL_law_467 : decode cL_law 467 = .ok (.ireturn, 1) := by decide +kernel
theorem dL_law_468 : decode cL_law 468 = .ok (.goto 1827, 3) := by decide +kernel
set_option maxRecDepth 100000 in
set_option maxHeartbeats 4000000 in
theorem law_7 {p : Program} {l : Launch} {e : Env} {R : Room} {s : State} {m : MethodId} {args : Array Value} {below : List Frame} {meth : Method} {c : Code} {cells slots : Nat} {Q : State → Prop} {D : va_G} {Ca : Nat → ClassId} {B : Nat} {En : State → Prop} {N b L X i : Nat} {xs : Nat → Int32} {z : Int} (C : zC p s m args meth c cL_law RL 9 D Ca B En) (hT : ∀ U, En U → zThr B U) (hT2 : ∀ U, En U → va_Nc (zEx 4) (zEx 1) U ∧ va_Nc (zEx 2) (zEx 1) U) (hl0 : l.stackTraces = false) (ev : zEv) (hZ : ∀ U : State, En U → zEnv ev B U) (hLS : zLS s B b L xs) (hi : i + 6 ≤ L) (hRm : zRm R 2048 84000 (cells + 1) (slots + 6)) (σ : zS) (hJ : J X z σ) (h0 : 0 ≤ z) (hz : z < 700000000)
    (kk : ∀ (σ2 : zS) (N2 : Nat), N ≤ N2 → J X (z + 501) σ2 → zW p l e R s m args below meth c (cells + 1) (slots + 6) Q D Ca B 9 σ2 N2 2295 (lawLv b X i) []) : zW p l e R s m args below meth c cells slots Q D Ca B 9 σ N 403 (lawLv b X i) [] := by
  have hRm0 : zRm R 2048 84000 cells slots := ⟨hRm.1, hRm.2.1, Nat.le_of_succ_le hRm.2.2.1, Nat.le_trans (Nat.le_add_right slots 6) hRm.2.2.2⟩
  have kX := (J_k hJ).1
  have kY := (J_k hJ).2.1
  rcases j_source hJ h0 hz (xs (i + 1)) (xs (i + 2)) with ⟨σ1, σ2, a, e1, e2, e3, e4, k1, k2, hJ2⟩ | ⟨σ2, a, k, c, t1, e2, e3, hK, k2, hJ2⟩
  · have kY1 : (σ1.1 (X + 307)).1 = 14 := by rw [k1]; exact kY
    have kY2 : (σ2.1 (X + 307)).1 = 14 := by rw [k2]; exact kY
    refine z_aload_n C dL_law_403 rfl 1 rfl ?_
    refine z_aload_n C dL_law_404 rfl 0 rfl ?_
    refine z_iload C dL_law_405 4 rfl ?_
    refine z_iconst C (zi 1) dL_law_407 (by decide) ?_
    refine z_iadd C dL_law_408 ?_
    refine z_sld C hLS (i + 1) (z_ix i 1) (by omega) dL_law_409 ?_
    refine z_aload_n C dL_law_410 rfl 0 rfl ?_
    refine z_iload C dL_law_411 4 rfl ?_
    refine z_iconst C (zi 2) dL_law_413 (by decide) ?_
    refine z_iadd C dL_law_414 ?_
    refine z_sld C hLS (i + 2) (z_ix i 2) (by omega) dL_law_415 ?_
    refine z_aload_n C dL_law_416 rfl 3 rfl ?_
    refine z_callH (As := [.ref X, .int (xs (i + 1)), .int (xs (i + 2)), .ref (X + 322)]) (F0 := 2048) (L0 := 84000) C (mL_source l D Ca B En C.2.2.2.2.2.2.2.1 σ N X (xs (i + 1)) (xs (i + 2)) (X + 322) (σ1, zi 0) e1) hRm0 kw_864 kw_0 kw_862 kw_863 hyL_source (Nat.le_of_ble_eq_true rfl) (Nat.le_of_ble_eq_true rfl) rfl rfl (Nat.le_of_ble_eq_true rfl) dL_law_417 hRm.2.2.1 hRm.2.2.2 (fun N2 hN => ?_)
    refine z_istore (lv2 := [(5, .int (zi 0)), (0, .ref b), (1, .ref X), (2, .ref (X + 307)), (3, .ref (X + 322)), (4, .int (zi (i : Int)))]) C dL_law_420 (by decide) rfl ?_
    refine z_aload_n C dL_law_422 rfl 3 rfl ?_
    refine z_aload_n C dL_law_423 rfl 1 rfl ?_
    refine z_iload C dL_law_424 5 rfl ?_
    refine z_iconst C (zi 1) dL_law_426 (by decide) ?_
    refine z_iadd C dL_law_427 ?_
    refine z_sld C hLS (i + 1) (z_ix i 1) (by omega) dL_law_428 ?_
    refine z_aload_n C dL_law_429 rfl 1 rfl ?_
    refine z_iload C dL_law_430 5 rfl ?_
    refine z_iconst C (zi 2) dL_law_432 (by decide) ?_
    refine z_iadd C dL_law_433 ?_
    refine z_sld C hLS (i + 2) (z_ix i 2) (by omega) dL_law_434 ?_
    refine z_callVi (As := [.int (xs (i + 1)), .int (xs (i + 2))]) (F0 := 2048) (L0 := 84000) C (mX10_source l D Ca B En C.2.2.2.2.2.2.2.1 σ1 N2 (X + 307) (xs (i + 1)) (xs (i + 2)) (σ2, a) e2) hRm kY1 rfl kw_1701 kw_14 kw_1698 kw_1699 kw_1700 hyX10_source (Nat.le_of_ble_eq_true rfl) (Nat.le_of_ble_eq_true rfl) rfl rfl (Nat.le_of_ble_eq_true rfl) dL_law_435 ?_
    refine z_istore (lv2 := [(6, .int a), (5, .int (zi 0)), (0, .ref b), (1, .ref X), (2, .ref (X + 307)), (3, .ref (X + 322)), (4, .int (zi (i : Int)))]) C dL_law_438 (by decide) rfl ?_
    refine z_aload_n C dL_law_440 rfl 4 rfl ?_
    refine z_callVi (As := []) (F0 := 2048) (L0 := 84000) C (mX10_thrown l D Ca B En C.2.2.2.2.2.2.2.1 σ2 N2 (X + 307)  (σ2, (zi 0)) e3) hRm kY2 rfl kw_1365 kw_14 kw_1362 kw_1363 kw_1364 hyX10_thrown (Nat.le_of_ble_eq_true rfl) (Nat.le_of_ble_eq_true rfl) rfl rfl (Nat.le_of_ble_eq_true rfl) dL_law_441 ?_
    refine z_iload C dL_law_444 1 rfl ?_
    refine z_icmp_eq C 451 dL_law_446 (by decide) (fun _ => ?_) (fun q => absurd rfl q)
    refine z_iload C dL_law_451 1 rfl ?_
    refine z_if_ne C 468 dL_law_453 (by decide) (fun q => absurd rfl q) (fun _ => ?_)
    refine z_aload_n C dL_law_456 rfl 5 rfl ?_
    refine z_iconst C (zi 0) dL_law_457 (by decide) ?_
    refine z_aJ C e4 dL_law_458 ?_
    refine z_iload C dL_law_459 0 rfl ?_
    refine z_i2l C dL_law_461 ?_
    refine z_lcmp C dL_law_462 ?_
    refine z_if_eq C 468 dL_law_463 (by decide) (fun _ => ?_) (fun q => absurd (lgc _) q)
    refine z_goto C 2295 dL_law_468 (by decide) ?_
    refine z_sub [2, 3, 4, 5, 6] rfl ?_
    exact kk σ2 N2 hN hJ2
  · have kY2 : (σ2.1 (X + 307)).1 = 14 := by rw [k2]; exact kY
    obtain ⟨rfl, rfl⟩ := hK
    refine z_aload_n C dL_law_403 rfl 1 rfl ?_
    refine z_aload_n C dL_law_404 rfl 0 rfl ?_
    refine z_iload C dL_law_405 4 rfl ?_
    refine z_iconst C (zi 1) dL_law_407 (by decide) ?_
    refine z_iadd C dL_law_408 ?_
    refine z_sld C hLS (i + 1) (z_ix i 1) (by omega) dL_law_409 ?_
    refine z_aload_n C dL_law_410 rfl 0 rfl ?_
    refine z_iload C dL_law_411 4 rfl ?_
    refine z_iconst C (zi 2) dL_law_413 (by decide) ?_
    refine z_iadd C dL_law_414 ?_
    refine z_sld C hLS (i + 2) (z_ix i 2) (by omega) dL_law_415 ?_
    refine z_aload_n C dL_law_416 rfl 3 rfl ?_
    refine z_callH (As := [.ref X, .int (xs (i + 1)), .int (xs (i + 2)), .ref (X + 322)]) (F0 := 2048) (L0 := 84000) C (mxL_source_1 l D Ca B En C.2.2.2.2.2.2.2.1 hT hT2 hl0 σ N X (xs (i + 1)) (xs (i + 2)) (X + 322) kX t1) hRm0 kw_864 kw_0 kw_862 kw_863 hyL_source (Nat.le_of_ble_eq_true rfl) (Nat.le_of_ble_eq_true rfl) rfl rfl (Nat.le_of_ble_eq_true rfl) dL_law_417 hRm.2.2.1 hRm.2.2.2 (fun N2 hN => ?_)
    refine z_istore (lv2 := [(5, .int (zi 1)), (0, .ref b), (1, .ref X), (2, .ref (X + 307)), (3, .ref (X + 322)), (4, .int (zi (i : Int)))]) C dL_law_420 (by decide) rfl ?_
    refine z_aload_n C dL_law_422 rfl 3 rfl ?_
    refine z_aload_n C dL_law_423 rfl 1 rfl ?_
    refine z_iload C dL_law_424 5 rfl ?_
    refine z_iconst C (zi 1) dL_law_426 (by decide) ?_
    refine z_iadd C dL_law_427 ?_
    refine z_sld C hLS (i + 1) (z_ix i 1) (by omega) dL_law_428 ?_
    refine z_aload_n C dL_law_429 rfl 1 rfl ?_
    refine z_iload C dL_law_430 5 rfl ?_
    refine z_iconst C (zi 2) dL_law_432 (by decide) ?_
    refine z_iadd C dL_law_433 ?_
    refine z_sld C hLS (i + 2) (z_ix i 2) (by omega) dL_law_434 ?_
    refine z_callVi (As := [.int (xs (i + 1)), .int (xs (i + 2))]) (F0 := 2048) (L0 := 84000) C (mX10_source l D Ca B En C.2.2.2.2.2.2.2.1 σ N2 (X + 307) (xs (i + 1)) (xs (i + 2)) (σ2, a) e2) hRm kY rfl kw_1701 kw_14 kw_1698 kw_1699 kw_1700 hyX10_source (Nat.le_of_ble_eq_true rfl) (Nat.le_of_ble_eq_true rfl) rfl rfl (Nat.le_of_ble_eq_true rfl) dL_law_435 ?_
    refine z_istore (lv2 := [(6, .int a), (5, .int (zi 1)), (0, .ref b), (1, .ref X), (2, .ref (X + 307)), (3, .ref (X + 322)), (4, .int (zi (i : Int)))]) C dL_law_438 (by decide) rfl ?_
    refine z_aload_n C dL_law_440 rfl 4 rfl ?_
    refine z_callVi (As := []) (F0 := 2048) (L0 := 84000) C (mX10_thrown l D Ca B En C.2.2.2.2.2.2.2.1 σ2 N2 (X + 307)  (σ2, (zi 1)) e3) hRm kY2 rfl kw_1365 kw_14 kw_1362 kw_1363 kw_1364 hyX10_thrown (Nat.le_of_ble_eq_true rfl) (Nat.le_of_ble_eq_true rfl) rfl rfl (Nat.le_of_ble_eq_true rfl) dL_law_441 ?_
    refine z_iload C dL_law_444 1 rfl ?_
    refine z_icmp_eq C 451 dL_law_446 (by decide) (fun _ => ?_) (fun q => absurd rfl q)
    refine z_iload C dL_law_451 1 rfl ?_
    refine z_if_ne C 468 dL_law_453 (by decide) (fun _ => ?_) (fun q => absurd q (by decide))
    refine z_goto C 2295 dL_law_468 (by decide) ?_
    refine z_sub [2, 3, 4, 5, 6] rfl ?_
    exact kk σ2 N2 hN hJ2
