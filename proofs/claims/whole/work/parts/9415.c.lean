/-! The law's cases 26 -/
theorem dL_law_1529 : decode cL_law 1529 = .ok (.aload_n 1, 1) := by decide +kernel
theorem dL_law_1530 : decode cL_law 1530 = .ok (.aload_n 0, 1) := by decide +kernel
theorem dL_law_1531 : decode cL_law 1531 = .ok (.iload 4, 2) := by decide +kernel
theorem dL_law_1533 : decode cL_law 1533 = .ok (.iconst 1, 1) := by decide +kernel
theorem dL_law_1534 : decode cL_law 1534 = .ok (.iadd, 1) := by decide +kernel
theorem dL_law_1535 : decode cL_law 1535 = .ok (.iaload, 1) := by decide +kernel
theorem dL_law_1536 : decode cL_law 1536 = .ok (.aload_n 3, 1) := by decide +kernel
theorem dL_law_1537 : decode cL_law 1537 = .ok (.invokestatic 208, 3) := by decide +kernel
theorem dL_law_1540 : decode cL_law 1540 = .ok (.istore 5, 2) := by decide +kernel
theorem dL_law_1542 : decode cL_law 1542 = .ok (.aload_n 2, 1) := by decide +kernel
theorem dL_law_1543 : decode cL_law 1543 = .ok (.aload_n 0, 1) := by decide +kernel
theorem dL_law_1544 : decode cL_law 1544 = .ok (.iload 4, 2) := by decide +kernel
theorem dL_law_1546 : decode cL_law 1546 = .ok (.iconst 1, 1) := by decide +kernel
theorem dL_law_1547 : decode cL_law 1547 = .ok (.iadd, 1) := by decide +kernel
theorem dL_law_1548 : decode cL_law 1548 = .ok (.iaload, 1) := by decide +kernel
theorem dL_law_1549 : decode cL_law 1549 = .ok (.invokevirtual 210, 3) := by decide +kernel
theorem dL_law_1552 : decode cL_law 1552 = .ok (.istore 6, 2) := by decide +kernel
theorem dL_law_1554 : decode cL_law 1554 = .ok (.aload_n 2, 1) := by decide +kernel
theorem dL_law_1555 : decode cL_law 1555 = .ok (.invokevirtual 142, 3) := by decide +kernel
theorem dL_law_1558 : decode cL_law 1558 = .ok (.iload 5, 2) := by decide +kernel
theorem dL_law_1560 : decode cL_law 1560 = .ok (.if_icmp .eq 5, 3) := by decide +kernel
theorem dL_law_1563 : decode cL_law 1563 = .ok (.iconst 0, 1) := by decide +kernel
theorem dL_law_1564 : decode cL_law 1564 = .ok (.ireturn, 1) := by decide +kernel
theorem dL_law_1565 : decode cL_law 1565 = .ok (.iload 5, 2) := by decide +kernel
theorem dL_law_1567 : decode cL_law 1567 = .ok (.ifCond .ne 15, 3) := by decide +kernel
theorem dL_law_1570 : decode cL_law 1570 = .ok (.aload_n 3, 1) := by decide +kernel
theorem dL_law_1571 : decode cL_law 1571 = .ok (.iconst 0, 1) := by decide +kernel
theorem dL_law_1572 : decode cL_law 1572 = .ok (.laload, 1) := by decide +kernel
theorem dL_law_1573 : decode cL_law 1573 = .ok (.iload 6, 2) := by decide +kernel
theorem dL_law_1575 : decode cL_law 1575 = .ok (.i2l, 1) := by decide +kernel
theorem dL_law_1576 : decode cL_law 1576 = .ok (.lcmp, 1) := by decide +kernel
theorem dL_law_1577 : decode cL_law 1577 = .ok (.ifCond .eq 5, 3) := by decide +kernel
theorem dL_law_1580 : decode cL_law 1580 = .ok (.iconst 0, 1) := by decide +kernel
theorem dL_law_1581 : decode cL_law 1581 = .ok (.ireturn, 1) := by decide +kernel
theorem dL_law_1582 : decode cL_law 1582 = .ok (.goto 713, 3) := by decide +kernel
set_option maxRecDepth 100000 in
set_option maxHeartbeats 4000000 in
theorem law_26 {p : Program} {l : Launch} {e : Env} {R : Room} {s : State} {m : MethodId} {args : Array Value} {below : List Frame} {meth : Method} {c : Code} {cells slots : Nat} {Q : State → Prop} {D : va_G} {Ca : Nat → ClassId} {B : Nat} {En : State → Prop} {N b L X i : Nat} {xs : Nat → Int32} {z : Int} (C : zC p s m args meth c cL_law RL 9 D Ca B En) (hT : ∀ U, En U → zThr B U) (hT2 : ∀ U, En U → va_Nc (zEx 4) (zEx 1) U ∧ va_Nc (zEx 2) (zEx 1) U) (hl0 : l.stackTraces = false) (ev : zEv) (hZ : ∀ U : State, En U → zEnv ev B U) (hLS : zLS s B b L xs) (hi : i + 6 ≤ L) (hRm : zRm R 2048 84000 (cells + 1) (slots + 6)) (σ : zS) (hJ : J X z σ) (h0 : 0 ≤ z) (hz : z < 700000000)
    (kk : ∀ (σ2 : zS) (N2 : Nat), N ≤ N2 → J X (z + 501) σ2 → zW p l e R s m args below meth c (cells + 1) (slots + 6) Q D Ca B 9 σ2 N2 2295 (lawLv b X i) []) : zW p l e R s m args below meth c cells slots Q D Ca B 9 σ N 1529 (lawLv b X i) [] := by
  have hRm0 : zRm R 2048 84000 cells slots := ⟨hRm.1, hRm.2.1, Nat.le_of_succ_le hRm.2.2.1, Nat.le_trans (Nat.le_add_right slots 6) hRm.2.2.2⟩
  have kX := (J_k hJ).1
  have kY := (J_k hJ).2.1
  rcases j_run hJ h0 hz (xs (i + 1)) with ⟨σ1, σ2, a, e1, e2, e3, e4, k1, k2, hJ2⟩ | ⟨σ2, a, k, c, t1, e2, e3, hK, k2, hJ2⟩
  · have kY1 : (σ1.1 (X + 307)).1 = 14 := by rw [k1]; exact kY
    have kY2 : (σ2.1 (X + 307)).1 = 14 := by rw [k2]; exact kY
    refine z_aload_n C dL_law_1529 rfl 1 rfl ?_
    refine z_aload_n C dL_law_1530 rfl 0 rfl ?_
    refine z_iload C dL_law_1531 4 rfl ?_
    refine z_iconst C (zi 1) dL_law_1533 (by decide) ?_
    refine z_iadd C dL_law_1534 ?_
    refine z_sld C hLS (i + 1) (z_ix i 1) (by omega) dL_law_1535 ?_
    refine z_aload_n C dL_law_1536 rfl 3 rfl ?_
    refine z_callH (As := [.ref X, .int (xs (i + 1)), .ref (X + 322)]) (F0 := 2048) (L0 := 84000) C (mL_run l D Ca B En C.2.2.2.2.2.2.2.1 σ N X (xs (i + 1)) (X + 322) (σ1, zi 0) e1) hRm0 kw_1121 kw_0 kw_1119 kw_1120 hyL_run (Nat.le_of_ble_eq_true rfl) (Nat.le_of_ble_eq_true rfl) rfl rfl (Nat.le_of_ble_eq_true rfl) dL_law_1537 hRm.2.2.1 hRm.2.2.2 (fun N2 hN => ?_)
    refine z_istore (lv2 := [(5, .int (zi 0)), (0, .ref b), (1, .ref X), (2, .ref (X + 307)), (3, .ref (X + 322)), (4, .int (zi (i : Int)))]) C dL_law_1540 (by decide) rfl ?_
    refine z_aload_n C dL_law_1542 rfl 3 rfl ?_
    refine z_aload_n C dL_law_1543 rfl 1 rfl ?_
    refine z_iload C dL_law_1544 5 rfl ?_
    refine z_iconst C (zi 1) dL_law_1546 (by decide) ?_
    refine z_iadd C dL_law_1547 ?_
    refine z_sld C hLS (i + 1) (z_ix i 1) (by omega) dL_law_1548 ?_
    refine z_callVi (As := [.int (xs (i + 1))]) (F0 := 2048) (L0 := 84000) C (mX10_run l D Ca B En C.2.2.2.2.2.2.2.1 σ1 N2 (X + 307) (xs (i + 1)) (σ2, a) e2) hRm kY1 rfl kw_1385 kw_14 kw_1382 kw_1383 kw_1384 hyX10_run (Nat.le_of_ble_eq_true rfl) (Nat.le_of_ble_eq_true rfl) rfl rfl (Nat.le_of_ble_eq_true rfl) dL_law_1549 ?_
    refine z_istore (lv2 := [(6, .int a), (5, .int (zi 0)), (0, .ref b), (1, .ref X), (2, .ref (X + 307)), (3, .ref (X + 322)), (4, .int (zi (i : Int)))]) C dL_law_1552 (by decide) rfl ?_
    refine z_aload_n C dL_law_1554 rfl 4 rfl ?_
    refine z_callVi (As := []) (F0 := 2048) (L0 := 84000) C (mX10_thrown l D Ca B En C.2.2.2.2.2.2.2.1 σ2 N2 (X + 307)  (σ2, (zi 0)) e3) hRm kY2 rfl kw_1365 kw_14 kw_1362 kw_1363 kw_1364 hyX10_thrown (Nat.le_of_ble_eq_true rfl) (Nat.le_of_ble_eq_true rfl) rfl rfl (Nat.le_of_ble_eq_true rfl) dL_law_1555 ?_
    refine z_iload C dL_law_1558 1 rfl ?_
    refine z_icmp_eq C 1565 dL_law_1560 (by decide) (fun _ => ?_) (fun q => absurd rfl q)
    refine z_iload C dL_law_1565 1 rfl ?_
    refine z_if_ne C 1582 dL_law_1567 (by decide) (fun q => absurd rfl q) (fun _ => ?_)
    refine z_aload_n C dL_law_1570 rfl 5 rfl ?_
    refine z_iconst C (zi 0) dL_law_1571 (by decide) ?_
    refine z_aJ C e4 dL_law_1572 ?_
    refine z_iload C dL_law_1573 0 rfl ?_
    refine z_i2l C dL_law_1575 ?_
    refine z_lcmp C dL_law_1576 ?_
    refine z_if_eq C 1582 dL_law_1577 (by decide) (fun _ => ?_) (fun q => absurd (lgc _) q)
    refine z_goto C 2295 dL_law_1582 (by decide) ?_
    refine z_sub [2, 3, 4, 5, 6] rfl ?_
    exact kk σ2 N2 hN hJ2
  · have kY2 : (σ2.1 (X + 307)).1 = 14 := by rw [k2]; exact kY
    obtain ⟨rfl, rfl⟩ := hK
    refine z_aload_n C dL_law_1529 rfl 1 rfl ?_
    refine z_aload_n C dL_law_1530 rfl 0 rfl ?_
    refine z_iload C dL_law_1531 4 rfl ?_
    refine z_iconst C (zi 1) dL_law_1533 (by decide) ?_
    refine z_iadd C dL_law_1534 ?_
    refine z_sld C hLS (i + 1) (z_ix i 1) (by omega) dL_law_1535 ?_
    refine z_aload_n C dL_law_1536 rfl 3 rfl ?_
    refine z_callH (As := [.ref X, .int (xs (i + 1)), .ref (X + 322)]) (F0 := 2048) (L0 := 84000) C (mxL_run_2 l D Ca B En C.2.2.2.2.2.2.2.1 hT hT2 hl0 σ N X (xs (i + 1)) (X + 322) kX t1) hRm0 kw_1121 kw_0 kw_1119 kw_1120 hyL_run (Nat.le_of_ble_eq_true rfl) (Nat.le_of_ble_eq_true rfl) rfl rfl (Nat.le_of_ble_eq_true rfl) dL_law_1537 hRm.2.2.1 hRm.2.2.2 (fun N2 hN => ?_)
    refine z_istore (lv2 := [(5, .int (zi 1)), (0, .ref b), (1, .ref X), (2, .ref (X + 307)), (3, .ref (X + 322)), (4, .int (zi (i : Int)))]) C dL_law_1540 (by decide) rfl ?_
    refine z_aload_n C dL_law_1542 rfl 3 rfl ?_
    refine z_aload_n C dL_law_1543 rfl 1 rfl ?_
    refine z_iload C dL_law_1544 5 rfl ?_
    refine z_iconst C (zi 1) dL_law_1546 (by decide) ?_
    refine z_iadd C dL_law_1547 ?_
    refine z_sld C hLS (i + 1) (z_ix i 1) (by omega) dL_law_1548 ?_
    refine z_callVi (As := [.int (xs (i + 1))]) (F0 := 2048) (L0 := 84000) C (mX10_run l D Ca B En C.2.2.2.2.2.2.2.1 σ N2 (X + 307) (xs (i + 1)) (σ2, a) e2) hRm kY rfl kw_1385 kw_14 kw_1382 kw_1383 kw_1384 hyX10_run (Nat.le_of_ble_eq_true rfl) (Nat.le_of_ble_eq_true rfl) rfl rfl (Nat.le_of_ble_eq_true rfl) dL_law_1549 ?_
    refine z_istore (lv2 := [(6, .int a), (5, .int (zi 1)), (0, .ref b), (1, .ref X), (2, .ref (X + 307)), (3, .ref (X + 322)), (4, .int (zi (i : Int)))]) C dL_law_1552 (by decide) rfl ?_
    refine z_aload_n C dL_law_1554 rfl 4 rfl ?_
    refine z_callVi (As := []) (F0 := 2048) (L0 := 84000) C (mX10_thrown l D Ca B En C.2.2.2.2.2.2.2.1 σ2 N2 (X + 307)  (σ2, (zi 1)) e3) hRm kY2 rfl kw_1365 kw_14 kw_1362 kw_1363 kw_1364 hyX10_thrown (Nat.le_of_ble_eq_true rfl) (Nat.le_of_ble_eq_true rfl) rfl rfl (Nat.le_of_ble_eq_true rfl) dL_law_1555 ?_
    refine z_iload C dL_law_1558 1 rfl ?_
    refine z_icmp_eq C 1565 dL_law_1560 (by decide) (fun _ => ?_) (fun q => absurd rfl q)
    refine z_iload C dL_law_1565 1 rfl ?_
    refine z_if_ne C 1582 dL_law_1567 (by decide) (fun _ => ?_) (fun q => absurd q (by decide))
    refine z_goto C 2295 dL_law_1582 (by decide) ?_
    refine z_sub [2, 3, 4, 5, 6] rfl ?_
    exact kk σ2 N2 hN hJ2
