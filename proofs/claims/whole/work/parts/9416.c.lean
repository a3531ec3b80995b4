/-! The law's cases 27, 28 -/
theorem dL_law_1585 : decode cL_law 1585 = .ok (.aload_n 1, 1) := by decide +kernel
theorem dL_law_1586 : decode cL_law 1586 = .ok (.aload_n 0, 1) := by decide +kernel
theorem dL_law_1587 : decode cL_law 1587 = .ok (.iload 4, 2) := by decide +kernel
theorem dL_law_1589 : decode cL_law 1589 = .ok (.iconst 1, 1) := by decide +kernel
theorem dL_law_1590 : decode cL_law 1590 = .ok (.iadd, 1) := by decide +kernel
theorem dL_law_1591 : decode cL_law 1591 = .ok (.iaload, 1) := by decide +kernel
theorem dL_law_1592 : decode cL_law 1592 = .ok (.ifCond .eq 7, 3) := by decide +kernel
theorem dL_law_1595 : decode cL_law 1595 = .ok (.iconst 1, 1) := by decide +kernel
theorem dL_law_1596 : decode cL_law 1596 = .ok (.goto 4, 3) := by decide +kernel
theorem dL_law_1599 : decode cL_law 1599 = .ok (.iconst 0, 1) := by decide +kernel
theorem dL_law_1600 : decode cL_law 1600 = .ok (.aload_n 3, 1) := by decide +kernel
theorem dL_law_1601 : decode cL_law 1601 = .ok (.invokestatic 211, 3) := by decide +kernel
theorem dL_law_1604 : decode cL_law 1604 = .ok (.istore 5, 2) := by decide +kernel
theorem dL_law_1606 : decode cL_law 1606 = .ok (.aload_n 2, 1) := by decide +kernel
theorem dL_law_1607 : decode cL_law 1607 = .ok (.aload_n 0, 1) := by decide +kernel
theorem dL_law_1608 : decode cL_law 1608 = .ok (.iload 4, 2) := by decide +kernel
theorem dL_law_1610 : decode cL_law 1610 = .ok (.iconst 1, 1) := by decide +kernel
theorem dL_law_1611 : decode cL_law 1611 = .ok (.iadd, 1) := by decide +kernel
theorem dL_law_1612 : decode cL_law 1612 = .ok (.iaload, 1) := by decide +kernel
theorem dL_law_1613 : decode cL_law 1613 = .ok (.ifCond .eq 7, 3) := by decide +kernel
theorem dL_law_1616 : decode cL_law 1616 = .ok (.iconst 1, 1) := by decide +kernel
theorem dL_law_1617 : decode cL_law 1617 = .ok (.goto 4, 3) := by decide +kernel
theorem dL_law_1620 : decode cL_law 1620 = .ok (.iconst 0, 1) := by decide +kernel
theorem dL_law_1621 : decode cL_law 1621 = .ok (.invokevirtual 214, 3) := by decide +kernel
theorem dL_law_1624 : decode cL_law 1624 = .ok (.istore 6, 2) := by decide +kernel
theorem dL_law_1626 : decode cL_law 1626 = .ok (.aload_n 2, 1) := by decide +kernel
theorem dL_law_1627 : decode cL_law 1627 = .ok (.invokevirtual 142, 3) := by decide +kernel
theorem dL_law_1630 : decode cL_law 1630 = .ok (.iload 5, 2) := by decide +kernel
theorem dL_law_1632 : decode cL_law 1632 = .ok (.if_icmp .eq 5, 3) := by decide +kernel
theorem dL_law_1635 : decode cL_law 1635 = .ok (.iconst 0, 1) := by decide +kernel
theorem dL_law_1636 : decode cL_law 1636 = .ok (.ireturn, 1) := by decide +kernel
theorem dL_law_1637 : decode cL_law 1637 = .ok (.iload 5, 2) := by decide +kernel
theorem dL_law_1639 : decode cL_law 1639 = .ok (.ifCond .ne 15, 3) := by decide +kernel
theorem dL_law_1642 : decode cL_law 1642 = .ok (.aload_n 3, 1) := by decide +kernel
theorem dL_law_1643 : decode cL_law 1643 = .ok (.iconst 0, 1) := by decide +kernel
theorem dL_law_1644 : decode cL_law 1644 = .ok (.laload, 1) := by decide +kernel
theorem dL_law_1645 : decode cL_law 1645 = .ok (.iload 6, 2) := by decide +kernel
theorem dL_law_1647 : decode cL_law 1647 = .ok (.i2l, 1) := by decide +kernel
theorem dL_law_1648 : decode cL_law 1648 = .ok (.lcmp, 1) := by decide +kernel
theorem dL_law_1649 : decode cL_law 1649 = .ok (.ifCond .eq 5, 3) := by decide +kernel
theorem dL_law_1652 : decode cL_law 1652 = .ok (.iconst 0, 1) := by decide +kernel
theorem dL_law_1653 : decode cL_law 1653 = .ok (.ireturn, 1) := by decide +kernel
theorem dL_law_1654 : decode cL_law 1654 = .ok (.goto 641, 3) := by decide +kernel
set_option maxRecDepth 100000 in
set_option maxHeartbeats 4000000 in
theorem law_27 {p : Program} {l : Launch} {e : Env} {R : Room} {s : State} {m : MethodId} {args : Array Value} {below : List Frame} {meth : Method} {c : Code} {cells slots : Nat} {Q : State → Prop} {D : va_G} {Ca : Nat → ClassId} {B : Nat} {En : State → Prop} {N b L X i : Nat} {xs : Nat → Int32} {z : Int} (C : zC p s m args meth c cL_law RL 9 D Ca B En) (hT : ∀ U, En U → zThr B U) (hT2 : ∀ U, En U → va_Nc (zEx 4) (zEx 1) U ∧ va_Nc (zEx 2) (zEx 1) U) (hl0 : l.stackTraces = false) (ev : zEv) (hZ : ∀ U : State, En U → zEnv ev B U) (hLS : zLS s B b L xs) (hi : i + 6 ≤ L) (hRm : zRm R 2048 84000 (cells + 1) (slots + 6)) (σ : zS) (hJ : J X z σ) (h0 : 0 ≤ z) (hz : z < 700000000)
    (kk : ∀ (σ2 : zS) (N2 : Nat), N ≤ N2 → J X (z + 501) σ2 → zW p l e R s m args below meth c (cells + 1) (slots + 6) Q D Ca B 9 σ2 N2 2295 (lawLv b X i) []) : zW p l e R s m args below meth c cells slots Q D Ca B 9 σ N 1585 (lawLv b X i) [] := by
  have hRm0 : zRm R 2048 84000 cells slots := ⟨hRm.1, hRm.2.1, Nat.le_of_succ_le hRm.2.2.1, Nat.le_trans (Nat.le_add_right slots 6) hRm.2.2.2⟩
  have kX := (J_k hJ).1
  have kY := (J_k hJ).2.1
  by_cases hb1 : xs (i + 1) = zi 0
  · rcases j_begin hJ h0 hz false with ⟨σ1, σ2, a, e1, e2, e3, e4, k1, k2, hJ2⟩ | ⟨σ2, a, k, c, t1, e2, e3, hK, k2, hJ2⟩
    · have kY1 : (σ1.1 (X + 307)).1 = 14 := by rw [k1]; exact kY
      have kY2 : (σ2.1 (X + 307)).1 = 14 := by rw [k2]; exact kY
      refine z_aload_n C dL_law_1585 rfl 1 rfl ?_
      refine z_aload_n C dL_law_1586 rfl 0 rfl ?_
      refine z_iload C dL_law_1587 4 rfl ?_
      refine z_iconst C (zi 1) dL_law_1589 (by decide) ?_
      refine z_iadd C dL_law_1590 ?_
      refine z_sld C hLS (i + 1) (z_ix i 1) (by omega) dL_law_1591 ?_
      refine z_if_eq C 1599 dL_law_1592 (by decide) (fun _ => ?_) (fun q => absurd hb1 q)
      refine z_iconst C (zi 0) dL_law_1599 (by decide) ?_
      refine z_aload_n C dL_law_1600 rfl 3 rfl ?_
      refine z_callH (As := [.ref X, .int (zi 0), .ref (X + 322)]) (F0 := 2048) (L0 := 84000) C (mL_begin l D Ca B En C.2.2.2.2.2.2.2.1 σ N X (zi 0) (X + 322) (σ1, zi 0) e1) hRm0 kw_1131 kw_0 kw_1129 kw_1130 hyL_begin (Nat.le_of_ble_eq_true rfl) (Nat.le_of_ble_eq_true rfl) rfl rfl (Nat.le_of_ble_eq_true rfl) dL_law_1601 hRm.2.2.1 hRm.2.2.2 (fun N2 hN => ?_)
      refine z_istore (lv2 := [(5, .int (zi 0)), (0, .ref b), (1, .ref X), (2, .ref (X + 307)), (3, .ref (X + 322)), (4, .int (zi (i : Int)))]) C dL_law_1604 (by decide) rfl ?_
      refine z_aload_n C dL_law_1606 rfl 3 rfl ?_
      refine z_aload_n C dL_law_1607 rfl 1 rfl ?_
      refine z_iload C dL_law_1608 5 rfl ?_
      refine z_iconst C (zi 1) dL_law_1610 (by decide) ?_
      refine z_iadd C dL_law_1611 ?_
      refine z_sld C hLS (i + 1) (z_ix i 1) (by omega) dL_law_1612 ?_
      refine z_if_eq C 1620 dL_law_1613 (by decide) (fun _ => ?_) (fun q => absurd hb1 q)
      refine z_iconst C (zi 0) dL_law_1620 (by decide) ?_
      refine z_callVi (As := [.int (zi 0)]) (F0 := 2048) (L0 := 84000) C (mX10_begin l D Ca B En C.2.2.2.2.2.2.2.1 σ1 N2 (X + 307) (zi 0) (σ2, a) e2) hRm kY1 rfl kw_1583 kw_14 kw_1580 kw_1581 kw_1582 hyX10_begin (Nat.le_of_ble_eq_true rfl) (Nat.le_of_ble_eq_true rfl) rfl rfl (Nat.le_of_ble_eq_true rfl) dL_law_1621 ?_
      refine z_istore (lv2 := [(6, .int a), (5, .int (zi 0)), (0, .ref b), (1, .ref X), (2, .ref (X + 307)), (3, .ref (X + 322)), (4, .int (zi (i : Int)))]) C dL_law_1624 (by decide) rfl ?_
      refine z_aload_n C dL_law_1626 rfl 4 rfl ?_
      refine z_callVi (As := []) (F0 := 2048) (L0 := 84000) C (mX10_thrown l D Ca B En C.2.2.2.2.2.2.2.1 σ2 N2 (X + 307)  (σ2, (zi 0)) e3) hRm kY2 rfl kw_1365 kw_14 kw_1362 kw_1363 kw_1364 hyX10_thrown (Nat.le_of_ble_eq_true rfl) (Nat.le_of_ble_eq_true rfl) rfl rfl (Nat.le_of_ble_eq_true rfl) dL_law_1627 ?_
      refine z_iload C dL_law_1630 1 rfl ?_
      refine z_icmp_eq C 1637 dL_law_1632 (by decide) (fun _ => ?_) (fun q => absurd rfl q)
      refine z_iload C dL_law_1637 1 rfl ?_
      refine z_if_ne C 1654 dL_law_1639 (by decide) (fun q => absurd rfl q) (fun _ => ?_)
      refine z_aload_n C dL_law_1642 rfl 5 rfl ?_
      refine z_iconst C (zi 0) dL_law_1643 (by decide) ?_
      refine z_aJ C e4 dL_law_1644 ?_
      refine z_iload C dL_law_1645 0 rfl ?_
      refine z_i2l C dL_law_1647 ?_
      refine z_lcmp C dL_law_1648 ?_
      refine z_if_eq C 1654 dL_law_1649 (by decide) (fun _ => ?_) (fun q => absurd (lgc _) q)
      refine z_goto C 2295 dL_law_1654 (by decide) ?_
      refine z_sub [2, 3, 4, 5, 6] rfl ?_
      exact kk σ2 N2 hN hJ2
    · have kY2 : (σ2.1 (X + 307)).1 = 14 := by rw [k2]; exact kY
      obtain ⟨rfl, rfl⟩ := hK
      refine z_aload_n C dL_law_1585 rfl 1 rfl ?_
      refine z_aload_n C dL_law_1586 rfl 0 rfl ?_
      refine z_iload C dL_law_1587 4 rfl ?_
      refine z_iconst C (zi 1) dL_law_1589 (by decide) ?_
      refine z_iadd C dL_law_1590 ?_
      refine z_sld C hLS (i + 1) (z_ix i 1) (by omega) dL_law_1591 ?_
      refine z_if_eq C 1599 dL_law_1592 (by decide) (fun _ => ?_) (fun q => absurd hb1 q)
      refine z_iconst C (zi 0) dL_law_1599 (by decide) ?_
      refine z_aload_n C dL_law_1600 rfl 3 rfl ?_
      refine z_callH (As := [.ref X, .int (zi 0), .ref (X + 322)]) (F0 := 2048) (L0 := 84000) C (mxL_begin_3 l D Ca B En C.2.2.2.2.2.2.2.1 hT hT2 hl0 σ N X (zi 0) (X + 322) kX t1) hRm0 kw_1131 kw_0 kw_1129 kw_1130 hyL_begin (Nat.le_of_ble_eq_true rfl) (Nat.le_of_ble_eq_true rfl) rfl rfl (Nat.le_of_ble_eq_true rfl) dL_law_1601 hRm.2.2.1 hRm.2.2.2 (fun N2 hN => ?_)
      refine z_istore (lv2 := [(5, .int (zi 1)), (0, .ref b), (1, .ref X), (2, .ref (X + 307)), (3, .ref (X + 322)), (4, .int (zi (i : Int)))]) C dL_law_1604 (by decide) rfl ?_
      refine z_aload_n C dL_law_1606 rfl 3 rfl ?_
      refine z_aload_n C dL_law_1607 rfl 1 rfl ?_
      refine z_iload C dL_law_1608 5 rfl ?_
      refine z_iconst C (zi 1) dL_law_1610 (by decide) ?_
      refine z_iadd C dL_law_1611 ?_
      refine z_sld C hLS (i + 1) (z_ix i 1) (by omega) dL_law_1612 ?_
      refine z_if_eq C 1620 dL_law_1613 (by decide) (fun _ => ?_) (fun q => absurd hb1 q)
      refine z_iconst C (zi 0) dL_law_1620 (by decide) ?_
      refine z_callVi (As := [.int (zi 0)]) (F0 := 2048) (L0 := 84000) C (mX10_begin l D Ca B En C.2.2.2.2.2.2.2.1 σ N2 (X + 307) (zi 0) (σ2, a) e2) hRm kY rfl kw_1583 kw_14 kw_1580 kw_1581 kw_1582 hyX10_begin (Nat.le_of_ble_eq_true rfl) (Nat.le_of_ble_eq_true rfl) rfl rfl (Nat.le_of_ble_eq_true rfl) dL_law_1621 ?_
      refine z_istore (lv2 := [(6, .int a), (5, .int (zi 1)), (0, .ref b), (1, .ref X), (2, .ref (X + 307)), (3, .ref (X + 322)), (4, .int (zi (i : Int)))]) C dL_law_1624 (by decide) rfl ?_
      refine z_aload_n C dL_law_1626 rfl 4 rfl ?_
      refine z_callVi (As := []) (F0 := 2048) (L0 := 84000) C (mX10_thrown l D Ca B En C.2.2.2.2.2.2.2.1 σ2 N2 (X + 307)  (σ2, (zi 1)) e3) hRm kY2 rfl kw_1365 kw_14 kw_1362 kw_1363 kw_1364 hyX10_thrown (Nat.le_of_ble_eq_true rfl) (Nat.le_of_ble_eq_true rfl) rfl rfl (Nat.le_of_ble_eq_true rfl) dL_law_1627 ?_
      refine z_iload C dL_law_1630 1 rfl ?_
      refine z_icmp_eq C 1637 dL_law_1632 (by decide) (fun _ => ?_) (fun q => absurd rfl q)
      refine z_iload C dL_law_1637 1 rfl ?_
      refine z_if_ne C 1654 dL_law_1639 (by decide) (fun _ => ?_) (fun q => absurd q (by decide))
      refine z_goto C 2295 dL_law_1654 (by decide) ?_
      refine z_sub [2, 3, 4, 5, 6] rfl ?_
      exact kk σ2 N2 hN hJ2
  · rcases j_begin hJ h0 hz true with ⟨σ1, σ2, a, e1, e2, e3, e4, k1, k2, hJ2⟩ | ⟨σ2, a, k, c, t1, e2, e3, hK, k2, hJ2⟩
    · have kY1 : (σ1.1 (X + 307)).1 = 14 := by rw [k1]; exact kY
      have kY2 : (σ2.1 (X + 307)).1 = 14 := by rw [k2]; exact kY
      refine z_aload_n C dL_law_1585 rfl 1 rfl ?_
      refine z_aload_n C dL_law_1586 rfl 0 rfl ?_
      refine z_iload C dL_law_1587 4 rfl ?_
      refine z_iconst C (zi 1) dL_law_1589 (by decide) ?_
      refine z_iadd C dL_law_1590 ?_
      refine z_sld C hLS (i + 1) (z_ix i 1) (by omega) dL_law_1591 ?_
      refine z_if_eq C 1599 dL_law_1592 (by decide) (fun q => absurd q hb1) (fun _ => ?_)
      refine z_iconst C (zi 1) dL_law_1595 (by decide) ?_
      refine z_goto C 1600 dL_law_1596 (by decide) ?_
      refine z_aload_n C dL_law_1600 rfl 3 rfl ?_
      refine z_callH (As := [.ref X, .int (zi 1), .ref (X + 322)]) (F0 := 2048) (L0 := 84000) C (mL_begin l D Ca B En C.2.2.2.2.2.2.2.1 σ N X (zi 1) (X + 322) (σ1, zi 0) e1) hRm0 kw_1131 kw_0 kw_1129 kw_1130 hyL_begin (Nat.le_of_ble_eq_true rfl) (Nat.le_of_ble_eq_true rfl) rfl rfl (Nat.le_of_ble_eq_true rfl) dL_law_1601 hRm.2.2.1 hRm.2.2.2 (fun N2 hN => ?_)
      refine z_istore (lv2 := [(5, .int (zi 0)), (0, .ref b), (1, .ref X), (2, .ref (X + 307)), (3, .ref (X + 322)), (4, .int (zi (i : Int)))]) C dL_law_1604 (by decide) rfl ?_
      refine z_aload_n C dL_law_1606 rfl 3 rfl ?_
      refine z_aload_n C dL_law_1607 rfl 1 rfl ?_
      refine z_iload C dL_law_1608 5 rfl ?_
      refine z_iconst C (zi 1) dL_law_1610 (by decide) ?_
      refine z_iadd C dL_law_1611 ?_
      refine z_sld C hLS (i + 1) (z_ix i 1) (by omega) dL_law_1612 ?_
      refine z_if_eq C 1620 dL_law_1613 (by decide) (fun q => absurd q hb1) (fun _ => ?_)
      refine z_iconst C (zi 1) dL_law_1616 (by decide) ?_
      refine z_goto C 1621 dL_law_1617 (by decide) ?_
      refine z_callVi (As := [.int (zi 1)]) (F0 := 2048) (L0 := 84000) C (mX10_begin l D Ca B En C.2.2.2.2.2.2.2.1 σ1 N2 (X + 307) (zi 1) (σ2, a) e2) hRm kY1 rfl kw_1583 kw_14 kw_1580 kw_1581 kw_1582 hyX10_begin (Nat.le_of_ble_eq_true rfl) (Nat.le_of_ble_eq_true rfl) rfl rfl (Nat.le_of_ble_eq_true rfl) dL_law_1621 ?_
      refine z_istore (lv2 := [(6, .int a), (5, .int (zi 0)), (0, .ref b), (1, .ref X), (2, .ref (X + 307)), (3, .ref (X + 322)), (4, .int (zi (i : Int)))]) C dL_law_1624 (by decide) rfl ?_
      refine z_aload_n C dL_law_1626 rfl 4 rfl ?_
      refine z_callVi (As := []) (F0 := 2048) (L0 := 84000) C (mX10_thrown l D Ca B En C.2.2.2.2.2.2.2.1 σ2 N2 (X + 307)  (σ2, (zi 0)) e3) hRm kY2 rfl kw_1365 kw_14 kw_1362 kw_1363 kw_1364 hyX10_thrown (Nat.le_of_ble_eq_true rfl) (Nat.le_of_ble_eq_true rfl) rfl rfl (Nat.le_of_ble_eq_true rfl) dL_law_1627 ?_
      refine z_iload C dL_law_1630 1 rfl ?_
      refine z_icmp_eq C 1637 dL_law_1632 (by decide) (fun _ => ?_) (fun q => absurd rfl q)
      refine z_iload C dL_law_1637 1 rfl ?_
      refine z_if_ne C 1654 dL_law_1639 (by decide) (fun q => absurd rfl q) (fun _ => ?_)
      refine z_aload_n C dL_law_1642 rfl 5 rfl ?_
      refine z_iconst C (zi 0) dL_law_1643 (by decide) ?_
      refine z_aJ C e4 dL_law_1644 ?_
      refine z_iload C dL_law_1645 0 rfl ?_
      refine z_i2l C dL_law_1647 ?_
      refine z_lcmp C dL_law_1648 ?_
      refine z_if_eq C 1654 dL_law_1649 (by decide) (fun _ => ?_) (fun q => absurd (lgc _) q)
      refine z_goto C 2295 dL_law_1654 (by decide) ?_
      refine z_sub [2, 3, 4, 5, 6] rfl ?_
      exact kk σ2 N2 hN hJ2
    · have kY2 : (σ2.1 (X + 307)).1 = 14 := by rw [k2]; exact kY
      obtain ⟨rfl, rfl⟩ := hK
      refine z_aload_n C dL_law_1585 rfl 1 rfl ?_
      refine z_aload_n C dL_law_1586 rfl 0 rfl ?_
      refine z_iload C dL_law_1587 4 rfl ?_
      refine z_iconst C (zi 1) dL_law_1589 (by decide) ?_
      refine z_iadd C dL_law_1590 ?_
      refine z_sld C hLS (i + 1) (z_ix i 1) (by omega) dL_law_1591 ?_
      refine z_if_eq C 1599 dL_law_1592 (by decide) (fun q => absurd q hb1) (fun _ => ?_)
      refine z_iconst C (zi 1) dL_law_1595 (by decide) ?_
      refine z_goto C 1600 dL_law_1596 (by decide) ?_
      refine z_aload_n C dL_law_1600 rfl 3 rfl ?_
      refine z_callH (As := [.ref X, .int (zi 1), .ref (X + 322)]) (F0 := 2048) (L0 := 84000) C (mxL_begin_3 l D Ca B En C.2.2.2.2.2.2.2.1 hT hT2 hl0 σ N X (zi 1) (X + 322) kX t1) hRm0 kw_1131 kw_0 kw_1129 kw_1130 hyL_begin (Nat.le_of_ble_eq_true rfl) (Nat.le_of_ble_eq_true rfl) rfl rfl (Nat.le_of_ble_eq_true rfl) dL_law_1601 hRm.2.2.1 hRm.2.2.2 (fun N2 hN => ?_)
      refine z_istore (lv2 := [(5, .int (zi 1)), (0, .ref b), (1, .ref X), (2, .ref (X + 307)), (3, .ref (X + 322)), (4, .int (zi (i : Int)))]) C dL_law_1604 (by decide) rfl ?_
      refine z_aload_n C dL_law_1606 rfl 3 rfl ?_
      refine z_aload_n C dL_law_1607 rfl 1 rfl ?_
      refine z_iload C dL_law_1608 5 rfl ?_
      refine z_iconst C (zi 1) dL_law_1610 (by decide) ?_
      refine z_iadd C dL_law_1611 ?_
      refine z_sld C hLS (i + 1) (z_ix i 1) (by omega) dL_law_1612 ?_
      refine z_if_eq C 1620 dL_law_1613 (by decide) (fun q => absurd q hb1) (fun _ => ?_)
      refine z_iconst C (zi 1) dL_law_1616 (by decide) ?_
      refine z_goto C 1621 dL_law_1617 (by decide) ?_
      refine z_callVi (As := [.int (zi 1)]) (F0 := 2048) (L0 := 84000) C (mX10_begin l D Ca B En C.2.2.2.2.2.2.2.1 σ N2 (X + 307) (zi 1) (σ2, a) e2) hRm kY rfl kw_1583 kw_14 kw_1580 kw_1581 kw_1582 hyX10_begin (Nat.le_of_ble_eq_true rfl) (Nat.le_of_ble_eq_true rfl) rfl rfl (Nat.le_of_ble_eq_true rfl) dL_law_1621 ?_
      refine z_istore (lv2 := [(6, .int a), (5, .int (zi 1)), (0, .ref b), (1, .ref X), (2, .ref (X + 307)), (3, .ref (X + 322)), (4, .int (zi (i : Int)))]) C dL_law_1624 (by decide) rfl ?_
      refine z_aload_n C dL_law_1626 rfl 4 rfl ?_
      refine z_callVi (As := []) (F0 := 2048) (L0 := 84000) C (mX10_thrown l D Ca B En C.2.2.2.2.2.2.2.1 σ2 N2 (X + 307)  (σ2, (zi 1)) e3) hRm kY2 rfl kw_1365 kw_14 kw_1362 kw_1363 kw_1364 hyX10_thrown (Nat.le_of_ble_eq_true rfl) (Nat.le_of_ble_eq_true rfl) rfl rfl (Nat.le_of_ble_eq_true rfl) dL_law_1627 ?_
      refine z_iload C dL_law_1630 1 rfl ?_
      refine z_icmp_eq C 1637 dL_law_1632 (by decide) (fun _ => ?_) (fun q => absurd rfl q)
      refine z_iload C dL_law_1637 1 rfl ?_
      refine z_if_ne C 1654 dL_law_1639 (by decide) (fun _ => ?_) (fun q => absurd q (by decide))
      refine z_goto C 2295 dL_law_1654 (by decide) ?_
      refine z_sub [2, 3, 4, 5, 6] rfl ?_
      exact kk σ2 N2 hN hJ2
theorem dL_law_1657 : decode cL_law 1657 = .ok (.aload_n 1, 1) := by decide +kernel
theorem dL_law_1658 : decode cL_law 1658 = .ok (.invokevirtual 215, 3) := by decide +kernel
theorem dL_law_1661 : decode cL_law 1661 = .ok (.aload_n 2, 1) := by decide +kernel
theorem dL_law_1662 : decode cL_law 1662 = .ok (.invokevirtual 218, 3) := by decide +kernel
theorem dL_law_1665 : decode cL_law 1665 = .ok (.if_icmp .eq 630, 3) := by decide +kernel
theorem dL_law_1668 : decode cL_law 1668 = .ok (.iconst 0, 1) := by decide +kernel
theorem dL_law_1669 : decode cL_law 1669 = .ok (.ireturn, 1) := by decide +kernel
set_option maxRecDepth 100000 in
set_option maxHeartbeats 4000000 in
theorem law_28 {p : Program} {l : Launch} {e : Env} {R : Room} {s : State} {m : MethodId} {args : Array Value} {below : List Frame} {meth : Method} {c : Code} {cells slots : Nat} {Q : State → Prop} {D : va_G} {Ca : Nat → ClassId} {B : Nat} {En : State → Prop} {N b L X i : Nat} {xs : Nat → Int32} {z : Int} (C : zC p s m args meth c cL_law RL 9 D Ca B En) (hT : ∀ U, En U → zThr B U) (hT2 : ∀ U, En U → va_Nc (zEx 4) (zEx 1) U ∧ va_Nc (zEx 2) (zEx 1) U) (hl0 : l.stackTraces = false) (ev : zEv) (hZ : ∀ U : State, En U → zEnv ev B U) (hLS : zLS s B b L xs) (hi : i + 6 ≤ L) (hRm : zRm R 2048 84000 (cells + 1) (slots + 6)) (σ : zS) (hJ : J X z σ) (h0 : 0 ≤ z) (hz : z < 700000000)
    (kk : ∀ (σ2 : zS) (N2 : Nat), N ≤ N2 → J X (z + 501) σ2 → zW p l e R s m args below meth c (cells + 1) (slots + 6) Q D Ca B 9 σ2 N2 2295 (lawLv b X i) []) : zW p l e R s m args below meth c cells slots Q D Ca B 9 σ N 1657 (lawLv b X i) [] := by
  have hRm0 : zRm R 2048 84000 cells slots := ⟨hRm.1, hRm.2.1, Nat.le_of_succ_le hRm.2.2.1, Nat.le_trans (Nat.le_add_right slots 6) hRm.2.2.2⟩
  have kX := (J_k hJ).1
  have kY := (J_k hJ).2.1
  obtain ⟨σ1, σ2, a, e1, e2, k1, k2, hJ2⟩ := j_fail hJ h0 hz 
  have kY1 : (σ1.1 (X + 307)).1 = 14 := by rw [k1]; exact kY
  refine z_aload_n C dL_law_1657 rfl 1 rfl ?_
  refine z_callVi (As := []) (F0 := 2048) (L0 := 84000) C (mX9_fail l D Ca B En C.2.2.2.2.2.2.2.1 σ N X  (σ1, a) e1) hRm0 kX rfl kw_691 kw_1 kw_688 kw_689 kw_690 hyX9_fail (Nat.le_of_ble_eq_true rfl) (Nat.le_of_ble_eq_true rfl) rfl rfl (Nat.le_of_ble_eq_true rfl) dL_law_1658 ?_
  refine z_aload_n C dL_law_1661 rfl 2 rfl ?_
  refine z_callVi (As := []) (F0 := 2048) (L0 := 84000) C (mX10_fail l D Ca B En C.2.2.2.2.2.2.2.1 σ1 N (X + 307)  (σ2, a) e2) hRm0 kY1 rfl kw_1587 kw_14 kw_1584 kw_1585 kw_1586 hyX10_fail (Nat.le_of_ble_eq_true rfl) (Nat.le_of_ble_eq_true rfl) rfl rfl (Nat.le_of_ble_eq_true rfl) dL_law_1662 ?_
  refine z_icmp_eq C 2295 dL_law_1665 (by decide) (fun _ => ?_) (fun q => absurd rfl q)
  exact z_widen (by omega) (by omega) (kk σ2 N (Nat.le_refl N) hJ2)
