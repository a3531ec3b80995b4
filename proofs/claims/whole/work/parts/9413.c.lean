/-! The law's cases 21, 22 -/
theorem dL_law_1351 : decode cL_law 1351 = .ok (.aload_n 1, 1) := by decide +kernel
theorem dL_law_1352 : decode cL_law 1352 = .ok (.aload_n 0, 1) := by decide +kernel
theorem dL_law_1353 : decode cL_law 1353 = .ok (.iload 4, 2) := by decide +kernel
theorem dL_law_1355 : decode cL_law 1355 = .ok (.iconst 1, 1) := by decide +kernel
theorem dL_law_1356 : decode cL_law 1356 = .ok (.iadd, 1) := by decide +kernel
theorem dL_law_1357 : decode cL_law 1357 = .ok (.iaload, 1) := by decide +kernel
theorem dL_law_1358 : decode cL_law 1358 = .ok (.aload_n 0, 1) := by decide +kernel
theorem dL_law_1359 : decode cL_law 1359 = .ok (.iload 4, 2) := by decide +kernel
theorem dL_law_1361 : decode cL_law 1361 = .ok (.iconst 2, 1) := by decide +kernel
theorem dL_law_1362 : decode cL_law 1362 = .ok (.iadd, 1) := by decide +kernel
theorem dL_law_1363 : decode cL_law 1363 = .ok (.iaload, 1) := by decide +kernel
theorem dL_law_1364 : decode cL_law 1364 = .ok (.aload_n 3, 1) := by decide +kernel
theorem dL_law_1365 : decode cL_law 1365 = .ok (.invokestatic 187, 3) := by decide +kernel
theorem dL_law_1368 : decode cL_law 1368 = .ok (.istore 5, 2) := by decide +kernel
theorem dL_law_1370 : decode cL_law 1370 = .ok (.aload_n 2, 1) := by decide +kernel
theorem dL_law_1371 : decode cL_law 1371 = .ok (.aload_n 0, 1) := by decide +kernel
theorem dL_law_1372 : decode cL_law 1372 = .ok (.iload 4, 2) := by decide +kernel
theorem dL_law_1374 : decode cL_law 1374 = .ok (.iconst 1, 1) := by decide +kernel
theorem dL_law_1375 : decode cL_law 1375 = .ok (.iadd, 1) := by decide +kernel
theorem dL_law_1376 : decode cL_law 1376 = .ok (.iaload, 1) := by decide +kernel
theorem dL_law_1377 : decode cL_law 1377 = .ok (.aload_n 0, 1) := by decide +kernel
theorem dL_law_1378 : decode cL_law 1378 = .ok (.iload 4, 2) := by decide +kernel
theorem dL_law_1380 : decode cL_law 1380 = .ok (.iconst 2, 1) := by decide +kernel
theorem dL_law_1381 : decode cL_law 1381 = .ok (.iadd, 1) := by decide +kernel
theorem dL_law_1382 : decode cL_law 1382 = .ok (.iaload, 1) := by decide +kernel
theorem dL_law_1383 : decode cL_law 1383 = .ok (.invokevirtual 189, 3) := by decide +kernel
theorem dL_law_1386 : decode cL_law 1386 = .ok (.istore 6, 2) := by decide +kernel
theorem dL_law_1388 : decode cL_law 1388 = .ok (.aload_n 2, 1) := by decide +kernel
theorem dL_law_1389 : decode cL_law 1389 = .ok (.invokevirtual 142, 3) := by decide +kernel
theorem dL_law_1392 : decode cL_law 1392 = .ok (.iload 5, 2) := by decide +kernel
theorem dL_law_1394 : decode cL_law 1394 = .ok (.if_icmp .eq 5, 3) := by decide +kernel
theorem dL_law_1397 : decode cL_law 1397 = .ok (.iconst 0, 1) := by decide +kernel
theorem dL_law_1398 : decode cL_law 1398 = .ok (.ireturn, 1) := by decide +kernel
theorem dL_law_1399 : decode cL_law 1399 = .ok (.iload 5, 2) := by decide +kernel
theorem dL_law_1401 : decode cL_law 1401 = .ok (.ifCond .ne 15, 3) := by decide +kernel
theorem dL_law_1404 : decode cL_law 1404 = .ok (.aload_n 3, 1) := by decide +kernel
theorem dL_law_1405 : decode cL_law 1405 = .ok (.iconst 0, 1) := by decide +kernel
theorem dL_law_1406 : decode cL_law 1406 = .ok (.laload, 1) := by decide +kernel
theorem dL_law_1407 : decode cL_law 1407 = .ok (.iload 6, 2) := by decide +kernel
theorem dL_law_1409 : decode cL_law 1409 = .ok (.i2l, 1) := by decide +kernel
theorem dL_law_1410 : decode cL_law 1410 = .ok (.lcmp, 1) := by decide +kernel
theorem dL_law_1411 : decode cL_law 1411 = .ok (.ifCond .eq 5, 3) := by decide +kernel
theorem dL_law_1414 : decode cL_law 1414 = .ok (.iconst 0, 1) := by decide +kernel
theorem dL_law_1415 : decode cL_law 1415 = .ok (.ireturn, 1) := by decide +kernel
theorem dL_law_1416 : decode cL_law 1416 = .ok (.goto 879, 3) := by decide +kernel
set_option maxRecDepth 100000 in
set_option maxHeartbeats 4000000 in
theorem law_21 {p : Program} {l : Launch} {e : Env} {R : Room} {s : State} {m : MethodId} {args : Array Value} {below : List Frame} {meth : Method} {c : Code} {cells slots : Nat} {Q : State → Prop} {D : va_G} {Ca : Nat → ClassId} {B : Nat} {En : State → Prop} {N b L X i : Nat} {xs : Nat → Int32} {z : Int} (C : zC p s m args meth c cL_law RL 9 D Ca B En) (hT : ∀ U, En U → zThr B U) (hT2 : ∀ U, En U → va_Nc (zEx 4) (zEx 1) U ∧ va_Nc (zEx 2) (zEx 1) U) (hl0 : l.stackTraces = false) (ev : zEv) (hZ : ∀ U : State, En U → zEnv ev B U) (hLS : zLS s B b L xs) (hi : i + 6 ≤ L) (hRm : zRm R 2048 84000 (cells + 1) (slots + 6)) (σ : zS) (hJ : J X z σ) (h0 : 0 ≤ z) (hz : z < 700000000)
    (kk : ∀ (σ2 : zS) (N2 : Nat), N ≤ N2 → J X (z + 501) σ2 → zW p l e R s m args below meth c (cells + 1) (slots + 6) Q D Ca B 9 σ2 N2 2295 (lawLv b X i) []) : zW p l e R s m args below meth c cells slots Q D Ca B 9 σ N 1351 (lawLv b X i) [] := by
  have hRm0 : zRm R 2048 84000 cells slots := ⟨hRm.1, hRm.2.1, Nat.le_of_succ_le hRm.2.2.1, Nat.le_trans (Nat.le_add_right slots 6) hRm.2.2.2⟩
  have kX := (J_k hJ).1
  have kY := (J_k hJ).2.1
  rcases j_expected hJ h0 hz (xs (i + 1)) (xs (i + 2)) with ⟨σ1, σ2, a, e1, e2, e3, e4, k1, k2, hJ2⟩ | ⟨σ2, a, k, c, t1, e2, e3, hK, k2, hJ2⟩
  · have kY1 : (σ1.1 (X + 307)).1 = 14 := by rw [k1]; exact kY
    have kY2 : (σ2.1 (X + 307)).1 = 14 := by rw [k2]; exact kY
    refine z_aload_n C dL_law_1351 rfl 1 rfl ?_
    refine z_aload_n C dL_law_1352 rfl 0 rfl ?_
    refine z_iload C dL_law_1353 4 rfl ?_
    refine z_iconst C (zi 1) dL_law_1355 (by decide) ?_
    refine z_iadd C dL_law_1356 ?_
    refine z_sld C hLS (i + 1) (z_ix i 1) (by omega) dL_law_1357 ?_
    refine z_aload_n C dL_law_1358 rfl 0 rfl ?_
    refine z_iload C dL_law_1359 4 rfl ?_
    refine z_iconst C (zi 2) dL_law_1361 (by decide) ?_
    refine z_iadd C dL_law_1362 ?_
    refine z_sld C hLS (i + 2) (z_ix i 2) (by omega) dL_law_1363 ?_
    refine z_aload_n C dL_law_1364 rfl 3 rfl ?_
    refine z_callH (As := [.ref X, .int (xs (i + 1)), .int (xs (i + 2)), .ref (X + 322)]) (F0 := 2048) (L0 := 84000) C (mL_expected l D Ca B En C.2.2.2.2.2.2.2.1 σ N X (xs (i + 1)) (xs (i + 2)) (X + 322) (σ1, zi 0) e1) hRm0 kw_1108 kw_0 kw_1106 kw_1107 hyL_expected (Nat.le_of_ble_eq_true rfl) (Nat.le_of_ble_eq_true rfl) rfl rfl (Nat.le_of_ble_eq_true rfl) dL_law_1365 hRm.2.2.1 hRm.2.2.2 (fun N2 hN => ?_)
    refine z_istore (lv2 := [(5, .int (zi 0)), (0, .ref b), (1, .ref X), (2, .ref (X + 307)), (3, .ref (X + 322)), (4, .int (zi (i : Int)))]) C dL_law_1368 (by decide) rfl ?_
    refine z_aload_n C dL_law_1370 rfl 3 rfl ?_
    refine z_aload_n C dL_law_1371 rfl 1 rfl ?_
    refine z_iload C dL_law_1372 5 rfl ?_
    refine z_iconst C (zi 1) dL_law_1374 (by decide) ?_
    refine z_iadd C dL_law_1375 ?_
    refine z_sld C hLS (i + 1) (z_ix i 1) (by omega) dL_law_1376 ?_
    refine z_aload_n C dL_law_1377 rfl 1 rfl ?_
    refine z_iload C dL_law_1378 5 rfl ?_
    refine z_iconst C (zi 2) dL_law_1380 (by decide) ?_
    refine z_iadd C dL_law_1381 ?_
    refine z_sld C hLS (i + 2) (z_ix i 2) (by omega) dL_law_1382 ?_
    refine z_callVi (As := [.int (xs (i + 1)), .int (xs (i + 2))]) (F0 := 2048) (L0 := 84000) C (mX10_expected l D Ca B En C.2.2.2.2.2.2.2.1 σ1 N2 (X + 307) (xs (i + 1)) (xs (i + 2)) (σ2, a) e2) hRm kY1 rfl kw_1796 kw_14 kw_1793 kw_1794 kw_1795 hyX10_expected (Nat.le_of_ble_eq_true rfl) (Nat.le_of_ble_eq_true rfl) rfl rfl (Nat.le_of_ble_eq_true rfl) dL_law_1383 ?_
    refine z_istore (lv2 := [(6, .int a), (5, .int (zi 0)), (0, .ref b), (1, .ref X), (2, .ref (X + 307)), (3, .ref (X + 322)), (4, .int (zi (i : Int)))]) C dL_law_1386 (by decide) rfl ?_
    refine z_aload_n C dL_law_1388 rfl 4 rfl ?_
    refine z_callVi (As := []) (F0 := 2048) (L0 := 84000) C (mX10_thrown l D Ca B En C.2.2.2.2.2.2.2.1 σ2 N2 (X + 307)  (σ2, (zi 0)) e3) hRm kY2 rfl kw_1365 kw_14 kw_1362 kw_1363 kw_1364 hyX10_thrown (Nat.le_of_ble_eq_true rfl) (Nat.le_of_ble_eq_true rfl) rfl rfl (Nat.le_of_ble_eq_true rfl) dL_law_1389 ?_
    refine z_iload C dL_law_1392 1 rfl ?_
    refine z_icmp_eq C 1399 dL_law_1394 (by decide) (fun _ => ?_) (fun q => absurd rfl q)
    refine z_iload C dL_law_1399 1 rfl ?_
    refine z_if_ne C 1416 dL_law_1401 (by decide) (fun q => absurd rfl q) (fun _ => ?_)
    refine z_aload_n C dL_law_1404 rfl 5 rfl ?_
    refine z_iconst C (zi 0) dL_law_1405 (by decide) ?_
    refine z_aJ C e4 dL_law_1406 ?_
    refine z_iload C dL_law_1407 0 rfl ?_
    refine z_i2l C dL_law_1409 ?_
    refine z_lcmp C dL_law_1410 ?_
    refine z_if_eq C 1416 dL_law_1411 (by decide) (fun _ => ?_) (fun q => absurd (lgc _) q)
    refine z_goto C 2295 dL_law_1416 (by decide) ?_
    refine z_sub [2, 3, 4, 5, 6] rfl ?_
    exact kk σ2 N2 hN hJ2
  · have kY2 : (σ2.1 (X + 307)).1 = 14 := by rw [k2]; exact kY
    obtain ⟨rfl, rfl⟩ := hK
    refine z_aload_n C dL_law_1351 rfl 1 rfl ?_
    refine z_aload_n C dL_law_1352 rfl 0 rfl ?_
    refine z_iload C dL_law_1353 4 rfl ?_
    refine z_iconst C (zi 1) dL_law_1355 (by decide) ?_
    refine z_iadd C dL_law_1356 ?_
    refine z_sld C hLS (i + 1) (z_ix i 1) (by omega) dL_law_1357 ?_
    refine z_aload_n C dL_law_1358 rfl 0 rfl ?_
    refine z_iload C dL_law_1359 4 rfl ?_
    refine z_iconst C (zi 2) dL_law_1361 (by decide) ?_
    refine z_iadd C dL_law_1362 ?_
    refine z_sld C hLS (i + 2) (z_ix i 2) (by omega) dL_law_1363 ?_
    refine z_aload_n C dL_law_1364 rfl 3 rfl ?_
    refine z_callH (As := [.ref X, .int (xs (i + 1)), .int (xs (i + 2)), .ref (X + 322)]) (F0 := 2048) (L0 := 84000) C (mxL_expected_2 l D Ca B En C.2.2.2.2.2.2.2.1 hT hT2 hl0 σ N X (xs (i + 1)) (xs (i + 2)) (X + 322) kX t1) hRm0 kw_1108 kw_0 kw_1106 kw_1107 hyL_expected (Nat.le_of_ble_eq_true rfl) (Nat.le_of_ble_eq_true rfl) rfl rfl (Nat.le_of_ble_eq_true rfl) dL_law_1365 hRm.2.2.1 hRm.2.2.2 (fun N2 hN => ?_)
    refine z_istore (lv2 := [(5, .int (zi 1)), (0, .ref b), (1, .ref X), (2, .ref (X + 307)), (3, .ref (X + 322)), (4, .int (zi (i : Int)))]) C dL_law_1368 (by decide) rfl ?_
    refine z_aload_n C dL_law_1370 rfl 3 rfl ?_
    refine z_aload_n C dL_law_1371 rfl 1 rfl ?_
    refine z_iload C dL_law_1372 5 rfl ?_
    refine z_iconst C (zi 1) dL_law_1374 (by decide) ?_
    refine z_iadd C dL_law_1375 ?_
    refine z_sld C hLS (i + 1) (z_ix i 1) (by omega) dL_law_1376 ?_
    refine z_aload_n C dL_law_1377 rfl 1 rfl ?_
    refine z_iload C dL_law_1378 5 rfl ?_
    refine z_iconst C (zi 2) dL_law_1380 (by decide) ?_
    refine z_iadd C dL_law_1381 ?_
    refine z_sld C hLS (i + 2) (z_ix i 2) (by omega) dL_law_1382 ?_
    refine z_callVi (As := [.int (xs (i + 1)), .int (xs (i + 2))]) (F0 := 2048) (L0 := 84000) C (mX10_expected l D Ca B En C.2.2.2.2.2.2.2.1 σ N2 (X + 307) (xs (i + 1)) (xs (i + 2)) (σ2, a) e2) hRm kY rfl kw_1796 kw_14 kw_1793 kw_1794 kw_1795 hyX10_expected (Nat.le_of_ble_eq_true rfl) (Nat.le_of_ble_eq_true rfl) rfl rfl (Nat.le_of_ble_eq_true rfl) dL_law_1383 ?_
    refine z_istore (lv2 := [(6, .int a), (5, .int (zi 1)), (0, .ref b), (1, .ref X), (2, .ref (X + 307)), (3, .ref (X + 322)), (4, .int (zi (i : Int)))]) C dL_law_1386 (by decide) rfl ?_
    refine z_aload_n C dL_law_1388 rfl 4 rfl ?_
    refine z_callVi (As := []) (F0 := 2048) (L0 := 84000) C (mX10_thrown l D Ca B En C.2.2.2.2.2.2.2.1 σ2 N2 (X + 307)  (σ2, (zi 1)) e3) hRm kY2 rfl kw_1365 kw_14 kw_1362 kw_1363 kw_1364 hyX10_thrown (Nat.le_of_ble_eq_true rfl) (Nat.le_of_ble_eq_true rfl) rfl rfl (Nat.le_of_ble_eq_true rfl) dL_law_1389 ?_
    refine z_iload C dL_law_1392 1 rfl ?_
    refine z_icmp_eq C 1399 dL_law_1394 (by decide) (fun _ => ?_) (fun q => absurd rfl q)
    refine z_iload C dL_law_1399 1 rfl ?_
    refine z_if_ne C 1416 dL_law_1401 (by decide) (fun _ => ?_) (fun q => absurd q (by decide))
    refine z_goto C 2295 dL_law_1416 (by decide) ?_
    refine z_sub [2, 3, 4, 5, 6] rfl ?_
    exact kk σ2 N2 hN hJ2
theorem dL_law_1419 : decode cL_law 1419 = .ok (.aload_n 1, 1) := by decide +kernel
theorem dL_law_1420 : decode cL_law 1420 = .ok (.invokevirtual 190, 3) := by decide +kernel
theorem dL_law_1423 : decode cL_law 1423 = .ok (.aload_n 2, 1) := by decide +kernel
theorem dL_law_1424 : decode cL_law 1424 = .ok (.invokevirtual 193, 3) := by decide +kernel
theorem dL_law_1427 : decode cL_law 1427 = .ok (.if_icmp .eq 868, 3) := by decide +kernel
theorem dL_law_1430 : decode cL_law 1430 = .ok (.iconst 0, 1) := by decide +kernel
theorem dL_law_1431 : decode cL_law 1431 = .ok (.ireturn, 1) := by decide +kernel
set_option maxRecDepth 100000 in
set_option maxHeartbeats 4000000 in
theorem law_22 {p : Program} {l : Launch} {e : Env} {R : Room} {s : State} {m : MethodId} {args : Array Value} {below : List Frame} {meth : Method} {c : Code} {cells slots : Nat} {Q : State → Prop} {D : va_G} {Ca : Nat → ClassId} {B : Nat} {En : State → Prop} {N b L X i : Nat} {xs : Nat → Int32} {z : Int} (C : zC p s m args meth c cL_law RL 9 D Ca B En) (hT : ∀ U, En U → zThr B U) (hT2 : ∀ U, En U → va_Nc (zEx 4) (zEx 1) U ∧ va_Nc (zEx 2) (zEx 1) U) (hl0 : l.stackTraces = false) (ev : zEv) (hZ : ∀ U : State, En U → zEnv ev B U) (hLS : zLS s B b L xs) (hi : i + 6 ≤ L) (hRm : zRm R 2048 84000 (cells + 1) (slots + 6)) (σ : zS) (hJ : J X z σ) (h0 : 0 ≤ z) (hz : z < 700000000)
    (kk : ∀ (σ2 : zS) (N2 : Nat), N ≤ N2 → J X (z + 501) σ2 → zW p l e R s m args below meth c (cells + 1) (slots + 6) Q D Ca B 9 σ2 N2 2295 (lawLv b X i) []) : zW p l e R s m args below meth c cells slots Q D Ca B 9 σ N 1419 (lawLv b X i) [] := by
  have hRm0 : zRm R 2048 84000 cells slots := ⟨hRm.1, hRm.2.1, Nat.le_of_succ_le hRm.2.2.1, Nat.le_trans (Nat.le_add_right slots 6) hRm.2.2.2⟩
  have kX := (J_k hJ).1
  have kY := (J_k hJ).2.1
  obtain ⟨σ1, σ2, a, e1, e2, k1, k2, hJ2⟩ := j_atRisk hJ h0 hz 
  have kY1 : (σ1.1 (X + 307)).1 = 14 := by rw [k1]; exact kY
  refine z_aload_n C dL_law_1419 rfl 1 rfl ?_
  refine z_callVi (As := []) (F0 := 2048) (L0 := 84000) C (mX9_atRisk l D Ca B En C.2.2.2.2.2.2.2.1 σ N X  (σ1, a) e1) hRm0 kX rfl kw_655 kw_1 kw_652 kw_653 kw_654 hyX9_atRisk (Nat.le_of_ble_eq_true rfl) (Nat.le_of_ble_eq_true rfl) rfl rfl (Nat.le_of_ble_eq_true rfl) dL_law_1420 ?_
  refine z_aload_n C dL_law_1423 rfl 2 rfl ?_
  refine z_callVi (As := []) (F0 := 2048) (L0 := 84000) C (mX10_atRisk l D Ca B En C.2.2.2.2.2.2.2.1 σ1 N (X + 307)  (σ2, a) e2) hRm0 kY1 rfl kw_1800 kw_14 kw_1797 kw_1798 kw_1799 hyX10_atRisk (Nat.le_of_ble_eq_true rfl) (Nat.le_of_ble_eq_true rfl) rfl rfl (Nat.le_of_ble_eq_true rfl) dL_law_1424 ?_
  refine z_icmp_eq C 2295 dL_law_1427 (by decide) (fun _ => ?_) (fun q => absurd rfl q)
  exact z_widen (by omega) (by omega) (kk σ2 N (Nat.le_refl N) hJ2)
