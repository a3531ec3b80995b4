/-! The law's cases 23, 24, 25 -/
theorem dL_law_1432 : decode cL_law 1432 = .ok (.aload_n 1, 1) := by decide +kernel
theorem dL_law_1433 : decode cL_law 1433 = .ok (.invokevirtual 194, 3) := by decide +kernel
theorem dL_law_1436 : decode cL_law 1436 = .ok (.f2d, 1) := by decide +kernel
theorem dL_law_1437 : decode cL_law 1437 = .ok (.dstore 5, 2) := by decide +kernel
theorem dL_law_1439 : decode cL_law 1439 = .ok (.aload_n 2, 1) := by decide +kernel
theorem dL_law_1440 : decode cL_law 1440 = .ok (.invokevirtual 198, 3) := by decide +kernel
theorem dL_law_1443 : decode cL_law 1443 = .ok (.f2d, 1) := by decide +kernel
theorem dL_law_1444 : decode cL_law 1444 = .ok (.dstore 7, 2) := by decide +kernel
theorem dL_law_1446 : decode cL_law 1446 = .ok (.dload 5, 2) := by decide +kernel
theorem dL_law_1448 : decode cL_law 1448 = .ok (.dload 7, 2) := by decide +kernel
theorem dL_law_1450 : decode cL_law 1450 = .ok (.dcmp .l, 1) := by decide +kernel
theorem dL_law_1451 : decode cL_law 1451 = .ok (.ifCond .eq 21, 3) := by decide +kernel
theorem dL_law_1454 : decode cL_law 1454 = .ok (.dload 5, 2) := by decide +kernel
theorem dL_law_1456 : decode cL_law 1456 = .ok (.dload 5, 2) := by decide +kernel
theorem dL_law_1458 : decode cL_law 1458 = .ok (.dcmp .l, 1) := by decide +kernel
theorem dL_law_1459 : decode cL_law 1459 = .ok (.ifCond .eq 11, 3) := by decide +kernel
theorem dL_law_1462 : decode cL_law 1462 = .ok (.dload 7, 2) := by decide +kernel
theorem dL_law_1464 : decode cL_law 1464 = .ok (.dload 7, 2) := by decide +kernel
theorem dL_law_1466 : decode cL_law 1466 = .ok (.dcmp .l, 1) := by decide +kernel
theorem dL_law_1467 : decode cL_law 1467 = .ok (.ifCond .ne 5, 3) := by decide +kernel
theorem dL_law_1470 : decode cL_law 1470 = .ok (.iconst 0, 1) := by decide +kernel
theorem dL_law_1471 : decode cL_law 1471 = .ok (.ireturn, 1) := by decide +kernel
theorem dL_law_1472 : decode cL_law 1472 = .ok (.goto 823, 3) := by decide +kernel
set_option maxRecDepth 100000 in
set_option maxHeartbeats 4000000 in
theorem law_23 {p : Program} {l : Launch} {e : Env} {R : Room} {s : State} {m : MethodId} {args : Array Value} {below : List Frame} {meth : Method} {c : Code} {cells slots : Nat} {Q : State → Prop} {D : va_G} {Ca : Nat → ClassId} {B : Nat} {En : State → Prop} {N b L X i : Nat} {xs : Nat → Int32} {z : Int} (C : zC p s m args meth c cL_law RL 9 D Ca B En) (hT : ∀ U, En U → zThr B U) (hT2 : ∀ U, En U → va_Nc (zEx 4) (zEx 1) U ∧ va_Nc (zEx 2) (zEx 1) U) (hl0 : l.stackTraces = false) (ev : zEv) (hZ : ∀ U : State, En U → zEnv ev B U) (hLS : zLS s B b L xs) (hi : i + 6 ≤ L) (hRm : zRm R 2048 84000 (cells + 1) (slots + 6)) (σ : zS) (hJ : J X z σ) (h0 : 0 ≤ z) (hz : z < 700000000)
    (kk : ∀ (σ2 : zS) (N2 : Nat), N ≤ N2 → J X (z + 501) σ2 → zW p l e R s m args below meth c (cells + 1) (slots + 6) Q D Ca B 9 σ2 N2 2295 (lawLv b X i) []) : zW p l e R s m args below meth c cells slots Q D Ca B 9 σ N 1432 (lawLv b X i) [] := by
  have hRm0 : zRm R 2048 84000 cells slots := ⟨hRm.1, hRm.2.1, Nat.le_of_succ_le hRm.2.2.1, Nat.le_trans (Nat.le_add_right slots 6) hRm.2.2.2⟩
  have kX := (J_k hJ).1
  have kY := (J_k hJ).2.1
  obtain ⟨σ2, v, e1, e2, hv, k2, hJ2⟩ := j_repeated hJ h0 hz
  refine z_aload_n C dL_law_1432 rfl 1 rfl ?_
  refine z_callVf (As := []) (F0 := 2048) (L0 := 84000) C (mX9_repeated l D Ca B En C.2.2.2.2.2.2.2.1 σ N X  (σ, v) e1) hRm0 kX rfl kw_667 kw_1 kw_664 kw_665 kw_666 hyX9_repeated (Nat.le_of_ble_eq_true rfl) (Nat.le_of_ble_eq_true rfl) rfl rfl (Nat.le_of_ble_eq_true rfl) dL_law_1433 ?_
  refine z_f2d C dL_law_1436 (ff_f2d hv).1 ?_
  refine z_dstore (lv2 := [(5, .double (FP.f2d v)), (0, .ref b), (1, .ref X), (2, .ref (X + 307)), (3, .ref (X + 322)), (4, .int (zi (i : Int)))]) C dL_law_1437 (by decide) rfl ?_
  refine z_aload_n C dL_law_1439 rfl 3 rfl ?_
  refine z_callVf (As := []) (F0 := 2048) (L0 := 84000) C (mX10_repeated l D Ca B En C.2.2.2.2.2.2.2.1 σ N (X + 307)  (σ2, v) e2) hRm0 kY rfl kw_1804 kw_14 kw_1801 kw_1802 kw_1803 hyX10_repeated (Nat.le_of_ble_eq_true rfl) (Nat.le_of_ble_eq_true rfl) rfl rfl (Nat.le_of_ble_eq_true rfl) dL_law_1440 ?_
  refine z_f2d C dL_law_1443 (ff_f2d hv).1 ?_
  refine z_dstore (lv2 := [(7, .double (FP.f2d v)), (5, .double (FP.f2d v)), (0, .ref b), (1, .ref X), (2, .ref (X + 307)), (3, .ref (X + 322)), (4, .int (zi (i : Int)))]) C dL_law_1444 (by decide) rfl ?_
  refine z_dload C dL_law_1446 1 rfl ?_
  refine z_dload C dL_law_1448 0 rfl ?_
  refine z_dcmp C dL_law_1450 ?_
  refine z_if_eq C 1472 dL_law_1451 (by decide) (fun _ => ?_) (fun q => absurd (ff_cmp (ff_f2d hv).2 _) q)
  refine z_goto C 2295 dL_law_1472 (by decide) ?_
  refine z_sub [2, 3, 4, 5, 6] rfl ?_
  exact z_widen (by omega) (by omega) (kk σ2 N (Nat.le_refl N) hJ2)
theorem dL_law_1475 : decode cL_law 1475 = .ok (.aload_n 1, 1) := by decide +kernel
theorem dL_law_1476 : decode cL_law 1476 = .ok (.invokevirtual 199, 3) := by decide +kernel
theorem dL_law_1479 : decode cL_law 1479 = .ok (.dstore 5, 2) := by decide +kernel
theorem dL_law_1481 : decode cL_law 1481 = .ok (.aload_n 2, 1) := by decide +kernel
theorem dL_law_1482 : decode cL_law 1482 = .ok (.invokevirtual 203, 3) := by decide +kernel
theorem dL_law_1485 : decode cL_law 1485 = .ok (.dstore 7, 2) := by decide +kernel
theorem dL_law_1487 : decode cL_law 1487 = .ok (.dload 5, 2) := by decide +kernel
theorem dL_law_1489 : decode cL_law 1489 = .ok (.dload 7, 2) := by decide +kernel
theorem dL_law_1491 : decode cL_law 1491 = .ok (.dcmp .l, 1) := by decide +kernel
theorem dL_law_1492 : decode cL_law 1492 = .ok (.ifCond .eq 21, 3) := by decide +kernel
theorem dL_law_1495 : decode cL_law 1495 = .ok (.dload 5, 2) := by decide +kernel
theorem dL_law_1497 : decode cL_law 1497 = .ok (.dload 5, 2) := by decide +kernel
theorem dL_law_1499 : decode cL_law 1499 = .ok (.dcmp .l, 1) := by decide +kernel
theorem dL_law_1500 : decode cL_law 1500 = .ok (.ifCond .eq 11, 3) := by decide +kernel
theorem dL_law_1503 : decode cL_law 1503 = .ok (.dload 7, 2) := by decide +kernel
theorem dL_law_1505 : decode cL_law 1505 = .ok (.dload 7, 2) := by decide +kernel
theorem dL_law_1507 : decode cL_law 1507 = .ok (.dcmp .l, 1) := by decide +kernel
theorem dL_law_1508 : decode cL_law 1508 = .ok (.ifCond .ne 5, 3) := by decide +kernel
theorem dL_law_1511 : decode cL_law 1511 = .ok (.iconst 0, 1) := by decide +kernel
theorem dL_law_1512 : decode cL_law 1512 = .ok (.ireturn, 1) := by decide +kernel
theorem dL_law_1513 : decode cL_law 1513 = .ok (.goto 782, 3) := by decide +kernel
set_option maxRecDepth 100000 in
set_option maxHeartbeats 4000000 in
theorem law_24 {p : Program} {l : Launch} {e : Env} {R : Room} {s : State} {m : MethodId} {args : Array Value} {below : List Frame} {meth : Method} {c : Code} {cells slots : Nat} {Q : State → Prop} {D : va_G} {Ca : Nat → ClassId} {B : Nat} {En : State → Prop} {N b L X i : Nat} {xs : Nat → Int32} {z : Int} (C : zC p s m args meth c cL_law RL 9 D Ca B En) (hT : ∀ U, En U → zThr B U) (hT2 : ∀ U, En U → va_Nc (zEx 4) (zEx 1) U ∧ va_Nc (zEx 2) (zEx 1) U) (hl0 : l.stackTraces = false) (ev : zEv) (hZ : ∀ U : State, En U → zEnv ev B U) (hLS : zLS s B b L xs) (hi : i + 6 ≤ L) (hRm : zRm R 2048 84000 (cells + 1) (slots + 6)) (σ : zS) (hJ : J X z σ) (h0 : 0 ≤ z) (hz : z < 700000000)
    (kk : ∀ (σ2 : zS) (N2 : Nat), N ≤ N2 → J X (z + 501) σ2 → zW p l e R s m args below meth c (cells + 1) (slots + 6) Q D Ca B 9 σ2 N2 2295 (lawLv b X i) []) : zW p l e R s m args below meth c cells slots Q D Ca B 9 σ N 1475 (lawLv b X i) [] := by
  have hRm0 : zRm R 2048 84000 cells slots := ⟨hRm.1, hRm.2.1, Nat.le_of_succ_le hRm.2.2.1, Nat.le_trans (Nat.le_add_right slots 6) hRm.2.2.2⟩
  have kX := (J_k hJ).1
  have kY := (J_k hJ).2.1
  obtain ⟨σ2, v, e1, e2, hv, k2, hJ2⟩ := j_skew hJ h0 hz
  refine z_aload_n C dL_law_1475 rfl 1 rfl ?_
  refine z_callVd (As := []) (F0 := 2048) (L0 := 84000) C (mX9_skew l D Ca B En C.2.2.2.2.2.2.2.1 σ N X  (σ, v) e1) hRm0 kX rfl kw_672 kw_1 kw_669 kw_670 kw_671 hyX9_skew (Nat.le_of_ble_eq_true rfl) (Nat.le_of_ble_eq_true rfl) rfl rfl (Nat.le_of_ble_eq_true rfl) dL_law_1476 ?_
  refine z_dstore (lv2 := [(5, .double v), (0, .ref b), (1, .ref X), (2, .ref (X + 307)), (3, .ref (X + 322)), (4, .int (zi (i : Int)))]) C dL_law_1479 (by decide) rfl ?_
  refine z_aload_n C dL_law_1481 rfl 3 rfl ?_
  refine z_callVd (As := []) (F0 := 2048) (L0 := 84000) C (mX10_skew l D Ca B En C.2.2.2.2.2.2.2.1 σ N (X + 307)  (σ2, v) e2) hRm0 kY rfl kw_1808 kw_14 kw_1805 kw_1806 kw_1807 hyX10_skew (Nat.le_of_ble_eq_true rfl) (Nat.le_of_ble_eq_true rfl) rfl rfl (Nat.le_of_ble_eq_true rfl) dL_law_1482 ?_
  refine z_dstore (lv2 := [(7, .double v), (5, .double v), (0, .ref b), (1, .ref X), (2, .ref (X + 307)), (3, .ref (X + 322)), (4, .int (zi (i : Int)))]) C dL_law_1485 (by decide) rfl ?_
  refine z_dload C dL_law_1487 1 rfl ?_
  refine z_dload C dL_law_1489 0 rfl ?_
  refine z_dcmp C dL_law_1491 ?_
  refine z_if_eq C 1513 dL_law_1492 (by decide) (fun _ => ?_) (fun q => absurd (ff_cmp hv _) q)
  refine z_goto C 2295 dL_law_1513 (by decide) ?_
  refine z_sub [2, 3, 4, 5, 6] rfl ?_
  exact z_widen (by omega) (by omega) (kk σ2 N (Nat.le_refl N) hJ2)
theorem dL_law_1516 : decode cL_law 1516 = .ok (.aload_n 1, 1) := by decide +kernel
theorem dL_law_1517 : decode cL_law 1517 = .ok (.invokevirtual 204, 3) := by decide +kernel
theorem dL_law_1520 : decode cL_law 1520 = .ok (.aload_n 2, 1) := by decide +kernel
theorem dL_law_1521 : decode cL_law 1521 = .ok (.invokevirtual 207, 3) := by decide +kernel
theorem dL_law_1524 : decode cL_law 1524 = .ok (.if_icmp .eq 771, 3) := by decide +kernel
theorem dL_law_1527 : decode cL_law 1527 = .ok (.iconst 0, 1) := by decide +kernel
theorem dL_law_1528 : decode cL_law 1528 = .ok (.ireturn, 1) := by decide +kernel
set_option maxRecDepth 100000 in
set_option maxHeartbeats 4000000 in
theorem law_25 {p : Program} {l : Launch} {e : Env} {R : Room} {s : State} {m : MethodId} {args : Array Value} {below : List Frame} {meth : Method} {c : Code} {cells slots : Nat} {Q : State → Prop} {D : va_G} {Ca : Nat → ClassId} {B : Nat} {En : State → Prop} {N b L X i : Nat} {xs : Nat → Int32} {z : Int} (C : zC p s m args meth c cL_law RL 9 D Ca B En) (hT : ∀ U, En U → zThr B U) (hT2 : ∀ U, En U → va_Nc (zEx 4) (zEx 1) U ∧ va_Nc (zEx 2) (zEx 1) U) (hl0 : l.stackTraces = false) (ev : zEv) (hZ : ∀ U : State, En U → zEnv ev B U) (hLS : zLS s B b L xs) (hi : i + 6 ≤ L) (hRm : zRm R 2048 84000 (cells + 1) (slots + 6)) (σ : zS) (hJ : J X z σ) (h0 : 0 ≤ z) (hz : z < 700000000)
    (kk : ∀ (σ2 : zS) (N2 : Nat), N ≤ N2 → J X (z + 501) σ2 → zW p l e R s m args below meth c (cells + 1) (slots + 6) Q D Ca B 9 σ2 N2 2295 (lawLv b X i) []) : zW p l e R s m args below meth c cells slots Q D Ca B 9 σ N 1516 (lawLv b X i) [] := by
  have hRm0 : zRm R 2048 84000 cells slots := ⟨hRm.1, hRm.2.1, Nat.le_of_succ_le hRm.2.2.1, Nat.le_trans (Nat.le_add_right slots 6) hRm.2.2.2⟩
  have kX := (J_k hJ).1
  have kY := (J_k hJ).2.1
  obtain ⟨σ1, σ2, a, e1, e2, k1, k2, hJ2⟩ := j_fullest hJ h0 hz 
  have kY1 : (σ1.1 (X + 307)).1 = 14 := by rw [k1]; exact kY
  refine z_aload_n C dL_law_1516 rfl 1 rfl ?_
  refine z_callVi (As := []) (F0 := 2048) (L0 := 84000) C (mX9_fullest l D Ca B En C.2.2.2.2.2.2.2.1 σ N X  (σ1, a) e1) hRm0 kX rfl kw_683 kw_1 kw_680 kw_681 kw_682 hyX9_fullest (Nat.le_of_ble_eq_true rfl) (Nat.le_of_ble_eq_true rfl) rfl rfl (Nat.le_of_ble_eq_true rfl) dL_law_1517 ?_
  refine z_aload_n C dL_law_1520 rfl 2 rfl ?_
  refine z_callVi (As := []) (F0 := 2048) (L0 := 84000) C (mX10_fullest l D Ca B En C.2.2.2.2.2.2.2.1 σ1 N (X + 307)  (σ2, a) e2) hRm0 kY1 rfl kw_1812 kw_14 kw_1809 kw_1810 kw_1811 hyX10_fullest (Nat.le_of_ble_eq_true rfl) (Nat.le_of_ble_eq_true rfl) rfl rfl (Nat.le_of_ble_eq_true rfl) dL_law_1521 ?_
  refine z_icmp_eq C 2295 dL_law_1524 (by decide) (fun _ => ?_) (fun q => absurd rfl q)
  exact z_widen (by omega) (by omega) (kk σ2 N (Nat.le_refl N) hJ2)
