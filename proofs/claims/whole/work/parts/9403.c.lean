/-! The law's cases 8 -/
theorem dL_law_471 : decode cL_law 471 = .ok (.aload_n 1, 1) := by decide +kernel
theorem dL_law_472 : decode cL_law 472 = .ok (.aload_n 0, 1) := by decide +kernel
theorem dL_law_473 : decode cL_law 473 = .ok (.iload 4, 2) := by decide +kernel
theorem dL_law_475 : decode cL_law 475 = .ok (.iconst 1, 1) := by decide +kernel
theorem dL_law_476 : decode cL_law 476 = .ok (.iadd, 1) := by decide +kernel
theorem dL_law_477 : decode cL_law 477 = .ok (.iaload, 1) := by decide +kernel
theorem dL_law_478 : decode cL_law 478 = .ok (.aload_n 0, 1) := by decide +kernel
theorem dL_law_479 : decode cL_law 479 = .ok (.iload 4, 2) := by decide +kernel
theorem dL_law_481 : decode cL_law 481 = .ok (.iconst 2, 1) := by decide +kernel
theorem dL_law_482 : decode cL_law 482 = .ok (.iadd, 1) := by decide +kernel
theorem dL_law_483 : decode cL_law 483 = .ok (.iaload, 1) := by decide +kernel
theorem dL_law_484 : decode cL_law 484 = .ok (.aload_n 0, 1) := by decide +kernel
theorem dL_law_485 : decode cL_law 485 = .ok (.iload 4, 2) := by decide +kernel
theorem dL_law_487 : decode cL_law 487 = .ok (.iconst 3, 1) := by decide +kernel
theorem dL_law_488 : decode cL_law 488 = .ok (.iadd, 1) := by decide +kernel
theorem dL_law_489 : decode cL_law 489 = .ok (.iaload, 1) := by decide +kernel
theorem dL_law_490 : decode cL_law 490 = .ok (.aload_n 3, 1) := by decide +kernel
theorem dL_law_491 : decode cL_law 491 = .ok (.invokestatic 145, 3) := by decide +kernel
theorem dL_law_494 : decode cL_law 494 = .ok (.istore 5, 2) := by decide +kernel
theorem dL_law_496 : decode cL_law 496 = .ok (.aload_n 2, 1) := by decide +kernel
theorem dL_law_497 : decode cL_law 497 = .ok (.aload_n 0, 1) := by decide +kernel
theorem dL_law_498 : decode cL_law 498 = .ok (.iload 4, 2) := by decide +kernel
theorem dL_law_500 : decode cL_law 500 = .ok (.iconst 1, 1) := by decide +kernel
theorem dL_law_501 : decode cL_law 501 = .ok (.iadd, 1) := by decide +kernel
theorem dL_law_502 : decode cL_law 502 = .ok (.iaload, 1) := by decide +kernel
theorem dL_law_503 : decode cL_law 503 = .ok (.aload_n 0, 1) := by decide +kernel
theorem dL_law_504 : decode cL_law 504 = .ok (.iload 4, 2) := by decide +kernel
theorem dL_law_506 : decode cL_law 506 = .ok (.iconst 2, 1) := by decide +kernel
theorem dL_law_507 : decode cL_law 507 = .ok (.iadd, 1) := by decide +kernel
theorem dL_law_508 : decode cL_law 508 = .ok (.iaload, 1) := by decide +kernel
theorem dL_law_509 : decode cL_law 509 = .ok (.aload_n 0, 1) := by decide +kernel
theorem dL_law_510 : decode cL_law 510 = .ok (.iload 4, 2) := by decide +kernel
theorem dL_law_512 : decode cL_law 512 = .ok (.iconst 3, 1) := by decide +kernel
theorem dL_law_513 : decode cL_law 513 = .ok (.iadd, 1) := by decide +kernel
theorem dL_law_514 : decode cL_law 514 = .ok (.iaload, 1) := by decide +kernel
theorem dL_law_515 : decode cL_law 515 = .ok (.invokevirtual 148, 3) := by decide +kernel
theorem dL_law_518 : decode cL_law 518 = .ok (.istore 6, 2) := by decide +kernel
theorem dL_law_520 : decode cL_law 520 = .ok (.aload_n 2, 1) := by decide +kernel
theorem dL_law_521 : decode cL_law 521 = .ok (.invokevirtual 142, 3) := by decide +kernel
theorem dL_law_524 : decode cL_law 524 = .ok (.iload 5, 2) := by decide +kernel
theorem dL_law_526 : decode cL_law 526 = .ok (.if_icmp .eq 5, 3) := by decide +kernel
theorem dL_law_529 : decode cL_law 529 = .ok (.iconst 0, 1) := by decide +kernel
theorem dL_law_530 : decode cL_law 530 = .ok (.ireturn, 1) := by decide +kernel
theorem dL_law_531 : decode cL_law 531 = .ok (.iload 5, 2) := by decide +kernel
theorem dL_law_533 : decode cL_law 533 = .ok (.ifCond .ne 15, 3) := by decide +kernel
theorem dL_law_536 : decode cL_law 536 = .ok (.aload_n 3, 1) := by decide +kernel
theorem dL_law_537 : decode cL_law 537 = .ok (.iconst 0, 1) := by decide +kernel
theorem dL_law_538 : decode cL_law 538 = .ok (.laload, 1) := by decide +kernel
theorem dL_law_539 : decode cL_law 539 = .ok (.iload 6, 2) := by decide +kernel
theorem dL_law_541 : decode cL_law 541 = .ok (.i2l, 1) := by decide +kernel
theorem dL_law_542 : decode cL_law 542 = .ok (.lcmp, 1) := by decide +kernel
theorem dL_law_543 : decode cL_law 543 = .ok (.ifCond .eq 5, 3) := by decide +kernel
theorem dL_law_546 : decode cL_law 546 = .ok (.iconst 0, 1) := by decide +kernel
theorem dL_law_547 : decode cL_law 547 = .ok (.ireturn, 1) := by decide +kernel
theorem dL_law_548 : decode cL_law 548 = .ok (.goto 1747, 3) := by decide +kernel
set_option maxRecDepth 100000 in
set_option maxHeartbeats 4000000 in
theorem law_8 {p : Program} {l : Launch} {e : Env} {R : Room} {s : State} {m : MethodId} {args : Array Value} {below : List Frame} {meth : Method} {c : Code} {cells slots : Nat} {Q : State → Prop} {D : va_G} {Ca : Nat → ClassId} {B : Nat} {En : State → Prop} {N b L X i : Nat} {xs : Nat → Int32} {z : Int} (C : zC p s m args meth c cL_law RL 9 D Ca B En) (hT : ∀ U, En U → zThr B U) (hT2 : ∀ U, En U → va_Nc (zEx 4) (zEx 1) U ∧ va_Nc (zEx 2) (zEx 1) U) (hl0 : l.stackTraces = false) (ev : zEv) (hZ : ∀ U : State, En U → zEnv ev B U) (hLS : zLS s B b L xs) (hi : i + 6 ≤ L) (hRm : zRm R 2048 84000 (cells + 1) (slots + 6)) (σ : zS) (hJ : J X z σ) (h0 : 0 ≤ z) (hz : z < 700000000)
    (kk : ∀ (σ2 : zS) (N2 : Nat), N ≤ N2 → J X (z + 501) σ2 → zW p l e R s m args below meth c (cells + 1) (slots + 6) Q D Ca B 9 σ2 N2 2295 (lawLv b X i) []) : zW p l e R s m args below meth c cells slots Q D Ca B 9 σ N 471 (lawLv b X i) [] := by
  have hRm0 : zRm R 2048 84000 cells slots := ⟨hRm.1, hRm.2.1, Nat.le_of_succ_le hRm.2.2.1, Nat.le_trans (Nat.le_add_right slots 6) hRm.2.2.2⟩
  have kX := (J_k hJ).1
  have kY := (J_k hJ).2.1
  rcases j_record hJ h0 hz (xs (i + 1)) (xs (i + 2)) (xs (i + 3)) with ⟨σ1, σ2, a, e1, e2, e3, e4, k1, k2, hJ2⟩ | ⟨σ2, a, k, c, t1, e2, e3, hK, k2, hJ2⟩
  · have kY1 : (σ1.1 (X + 307)).1 = 14 := by rw [k1]; exact kY
    have kY2 : (σ2.1 (X + 307)).1 = 14 := by rw [k2]; exact kY
    refine z_aload_n C dL_law_471 rfl 1 rfl ?_
    refine z_aload_n C dL_law_472 rfl 0 rfl ?_
    refine z_iload C dL_law_473 4 rfl ?_
    refine z_iconst C (zi 1) dL_law_475 (by decide) ?_
    refine z_iadd C dL_law_476 ?_
    refine z_sld C hLS (i + 1) (z_ix i 1) (by omega) dL_law_477 ?_
    refine z_aload_n C dL_law_478 rfl 0 rfl ?_
    refine z_iload C dL_law_479 4 rfl ?_
    refine z_iconst C (zi 2) dL_law_481 (by decide) ?_
    refine z_iadd C dL_law_482 ?_
    refine z_sld C hLS (i + 2) (z_ix i 2) (by omega) dL_law_483 ?_
    refine z_aload_n C dL_law_484 rfl 0 rfl ?_
    refine z_iload C dL_law_485 4 rfl ?_
    refine z_iconst C (zi 3) dL_law_487 (by decide) ?_
    refine z_iadd C dL_law_488 ?_
    refine z_sld C hLS (i + 3) (z_ix i 3) (by omega) dL_law_489 ?_
    refine z_aload_n C dL_law_490 rfl 3 rfl ?_
    refine z_callH (As := [.ref X, .int (xs (i + 1)), .int (xs (i + 2)), .int (xs (i + 3)), .ref (X + 322)]) (F0 := 2048) (L0 := 84000) C (mL_record l D Ca B En C.2.2.2.2.2.2.2.1 σ N X (xs (i + 1)) (xs (i + 2)) (xs (i + 3)) (X + 322) (σ1, zi 0) e1) hRm0 kw_940 kw_0 kw_938 kw_939 hyL_record (Nat.le_of_ble_eq_true rfl) (Nat.le_of_ble_eq_true rfl) rfl rfl (Nat.le_of_ble_eq_true rfl) dL_law_491 hRm.2.2.1 hRm.2.2.2 (fun N2 hN => ?_)
    refine z_istore (lv2 := [(5, .int (zi 0)), (0, .ref b), (1, .ref X), (2, .ref (X + 307)), (3, .ref (X + 322)), (4, .int (zi (i : Int)))]) C dL_law_494 (by decide) rfl ?_
    refine z_aload_n C dL_law_496 rfl 3 rfl ?_
    refine z_aload_n C dL_law_497 rfl 1 rfl ?_
    refine z_iload C dL_law_498 5 rfl ?_
    refine z_iconst C (zi 1) dL_law_500 (by decide) ?_
    refine z_iadd C dL_law_501 ?_
    refine z_sld C hLS (i + 1) (z_ix i 1) (by omega) dL_law_502 ?_
    refine z_aload_n C dL_law_503 rfl 1 rfl ?_
    refine z_iload C dL_law_504 5 rfl ?_
    refine z_iconst C (zi 2) dL_law_506 (by decide) ?_
    refine z_iadd C dL_law_507 ?_
    refine z_sld C hLS (i + 2) (z_ix i 2) (by omega) dL_law_508 ?_
    refine z_aload_n C dL_law_509 rfl 1 rfl ?_
    refine z_iload C dL_law_510 5 rfl ?_
    refine z_iconst C (zi 3) dL_law_512 (by decide) ?_
    refine z_iadd C dL_law_513 ?_
    refine z_sld C hLS (i + 3) (z_ix i 3) (by omega) dL_law_514 ?_
    refine z_callVi (As := [.int (xs (i + 1)), .int (xs (i + 2)), .int (xs (i + 3))]) (F0 := 2048) (L0 := 84000) C (mX10_record l D Ca B En C.2.2.2.2.2.2.2.1 σ1 N2 (X + 307) (xs (i + 1)) (xs (i + 2)) (xs (i + 3)) (σ2, a) e2) hRm kY1 rfl kw_1706 kw_14 kw_1703 kw_1704 kw_1705 hyX10_record (Nat.le_of_ble_eq_true rfl) (Nat.le_of_ble_eq_true rfl) rfl rfl (Nat.le_of_ble_eq_true rfl) dL_law_515 ?_
    refine z_istore (lv2 := [(6, .int a), (5, .int (zi 0)), (0, .ref b), (1, .ref X), (2, .ref (X + 307)), (3, .ref (X + 322)), (4, .int (zi (i : Int)))]) C dL_law_518 (by decide) rfl ?_
    refine z_aload_n C dL_law_520 rfl 4 rfl ?_
    refine z_callVi (As := []) (F0 := 2048) (L0 := 84000) C (mX10_thrown l D Ca B En C.2.2.2.2.2.2.2.1 σ2 N2 (X + 307)  (σ2, (zi 0)) e3) hRm kY2 rfl kw_1365 kw_14 kw_1362 kw_1363 kw_1364 hyX10_thrown (Nat.le_of_ble_eq_true rfl) (Nat.le_of_ble_eq_true rfl) rfl rfl (Nat.le_of_ble_eq_true rfl) dL_law_521 ?_
    refine z_iload C dL_law_524 1 rfl ?_
    refine z_icmp_eq C 531 dL_law_526 (by decide) (fun _ => ?_) (fun q => absurd rfl q)
    refine z_iload C dL_law_531 1 rfl ?_
    refine z_if_ne C 548 dL_law_533 (by decide) (fun q => absurd rfl q) (fun _ => ?_)
    refine z_aload_n C dL_law_536 rfl 5 rfl ?_
    refine z_iconst C (zi 0) dL_law_537 (by decide) ?_
    refine z_aJ C e4 dL_law_538 ?_
    refine z_iload C dL_law_539 0 rfl ?_
    refine z_i2l C dL_law_541 ?_
    refine z_lcmp C dL_law_542 ?_
    refine z_if_eq C 548 dL_law_543 (by decide) (fun _ => ?_) (fun q => absurd (lgc _) q)
    refine z_goto C 2295 dL_law_548 (by decide) ?_
    refine z_sub [2, 3, 4, 5, 6] rfl ?_
    exact kk σ2 N2 hN hJ2
  · have kY2 : (σ2.1 (X + 307)).1 = 14 := by rw [k2]; exact kY
    obtain ⟨rfl, rfl⟩ := hK
    refine z_aload_n C dL_law_471 rfl 1 rfl ?_
    refine z_aload_n C dL_law_472 rfl 0 rfl ?_
    refine z_iload C dL_law_473 4 rfl ?_
    refine z_iconst C (zi 1) dL_law_475 (by decide) ?_
    refine z_iadd C dL_law_476 ?_
    refine z_sld C hLS (i + 1) (z_ix i 1) (by omega) dL_law_477 ?_
    refine z_aload_n C dL_law_478 rfl 0 rfl ?_
    refine z_iload C dL_law_479 4 rfl ?_
    refine z_iconst C (zi 2) dL_law_481 (by decide) ?_
    refine z_iadd C dL_law_482 ?_
    refine z_sld C hLS (i + 2) (z_ix i 2) (by omega) dL_law_483 ?_
    refine z_aload_n C dL_law_484 rfl 0 rfl ?_
    refine z_iload C dL_law_485 4 rfl ?_
    refine z_iconst C (zi 3) dL_law_487 (by decide) ?_
    refine z_iadd C dL_law_488 ?_
    refine z_sld C hLS (i + 3) (z_ix i 3) (by omega) dL_law_489 ?_
    refine z_aload_n C dL_law_490 rfl 3 rfl ?_
    refine z_callH (As := [.ref X, .int (xs (i + 1)), .int (xs (i + 2)), .int (xs (i + 3)), .ref (X + 322)]) (F0 := 2048) (L0 := 84000) C (mxL_record_1 l D Ca B En C.2.2.2.2.2.2.2.1 hT hT2 hl0 σ N X (xs (i + 1)) (xs (i + 2)) (xs (i + 3)) (X + 322) kX t1) hRm0 kw_940 kw_0 kw_938 kw_939 hyL_record (Nat.le_of_ble_eq_true rfl) (Nat.le_of_ble_eq_true rfl) rfl rfl (Nat.le_of_ble_eq_true rfl) dL_law_491 hRm.2.2.1 hRm.2.2.2 (fun N2 hN => ?_)
    refine z_istore (lv2 := [(5, .int (zi 1)), (0, .ref b), (1, .ref X), (2, .ref (X + 307)), (3, .ref (X + 322)), (4, .int (zi (i : Int)))]) C dL_law_494 (by decide) rfl ?_
    refine z_aload_n C dL_law_496 rfl 3 rfl ?_
    refine z_aload_n C dL_law_497 rfl 1 rfl ?_
    refine z_iload C dL_law_498 5 rfl ?_
    refine z_iconst C (zi 1) dL_law_500 (by decide) ?_
    refine z_iadd C dL_law_501 ?_
    refine z_sld C hLS (i + 1) (z_ix i 1) (by omega) dL_law_502 ?_
    refine z_aload_n C dL_law_503 rfl 1 rfl ?_
    refine z_iload C dL_law_504 5 rfl ?_
    refine z_iconst C (zi 2) dL_law_506 (by decide) ?_
    refine z_iadd C dL_law_507 ?_
    refine z_sld C hLS (i + 2) (z_ix i 2) (by omega) dL_law_508 ?_
    refine z_aload_n C dL_law_509 rfl 1 rfl ?_
    refine z_iload C dL_law_510 5 rfl ?_
    refine z_iconst C (zi 3) dL_law_512 (by decide) ?_
    refine z_iadd C dL_law_513 ?_
    refine z_sld C hLS (i + 3) (z_ix i 3) (by omega) dL_law_514 ?_
    refine z_callVi (As := [.int (xs (i + 1)), .int (xs (i + 2)), .int (xs (i + 3))]) (F0 := 2048) (L0 := 84000) C (mX10_record l D Ca B En C.2.2.2.2.2.2.2.1 σ N2 (X + 307) (xs (i + 1)) (xs (i + 2)) (xs (i + 3)) (σ2, a) e2) hRm kY rfl kw_1706 kw_14 kw_1703 kw_1704 kw_1705 hyX10_record (Nat.le_of_ble_eq_true rfl) (Nat.le_of_ble_eq_true rfl) rfl rfl (Nat.le_of_ble_eq_true rfl) dL_law_515 ?_
    refine z_istore (lv2 := [(6, .int a), (5, .int (zi 1)), (0, .ref b), (1, .ref X), (2, .ref (X + 307)), (3, .ref (X + 322)), (4, .int (zi (i : Int)))]) C dL_law_518 (by decide) rfl ?_
    refine z_aload_n C dL_law_520 rfl 4 rfl ?_
    refine z_callVi (As := []) (F0 := 2048) (L0 := 84000) C (mX10_thrown l D Ca B En C.2.2.2.2.2.2.2.1 σ2 N2 (X + 307)  (σ2, (zi 1)) e3) hRm kY2 rfl kw_1365 kw_14 kw_1362 kw_1363 kw_1364 hyX10_thrown (Nat.le_of_ble_eq_true rfl) (Nat.le_of_ble_eq_true rfl) rfl rfl (Nat.le_of_ble_eq_true rfl) dL_law_521 ?_
    refine z_iload C dL_law_524 1 rfl ?_
    refine z_icmp_eq C 531 dL_law_526 (by decide) (fun _ => ?_) (fun q => absurd rfl q)
    refine z_iload C dL_law_531 1 rfl ?_
    refine z_if_ne C 548 dL_law_533 (by decide) (fun _ => ?_) (fun q => absurd q (by decide))
    refine z_goto C 2295 dL_law_548 (by decide) ?_
    refine z_sub [2, 3, 4, 5, 6] rfl ?_
    exact kk σ2 N2 hN hJ2
