/-! The law's cases 29, 30 -/
theorem dL_law_1670 : decode cL_law 1670 = .ok (.aload_n 1, 1) := by decide +kernel
theorem dL_law_1671 : decode cL_law 1671 = .ok (.aload_n 0, 1) := by decide +kernel
theorem dL_law_1672 : decode cL_law 1672 = .ok (.iload 4, 2) := by decide +kernel
theorem dL_law_1674 : decode cL_law 1674 = .ok (.iconst 1, 1) := by decide +kernel
theorem dL_law_1675 : decode cL_law 1675 = .ok (.iadd, 1) := by decide +kernel
theorem dL_law_1676 : decode cL_law 1676 = .ok (.iaload, 1) := by decide +kernel
theorem dL_law_1677 : decode cL_law 1677 = .ok (.aload_n 3, 1) := by decide +kernel
theorem dL_law_1678 : decode cL_law 1678 = .ok (.invokestatic 219, 3) := by decide +kernel
theorem dL_law_1681 : decode cL_law 1681 = .ok (.istore 5, 2) := by decide +kernel
theorem dL_law_1683 : decode cL_law 1683 = .ok (.aload_n 2, 1) := by decide +kernel
theorem dL_law_1684 : decode cL_law 1684 = .ok (.aload_n 0, 1) := by decide +kernel
theorem dL_law_1685 : decode cL_law 1685 = .ok (.iload 4, 2) := by decide +kernel
theorem dL_law_1687 : decode cL_law 1687 = .ok (.iconst 1, 1) := by decide +kernel
theorem dL_law_1688 : decode cL_law 1688 = .ok (.iadd, 1) := by decide +kernel
theorem dL_law_1689 : decode cL_law 1689 = .ok (.iaload, 1) := by decide +kernel
theorem dL_law_1690 : decode cL_law 1690 = .ok (.invokevirtual 221, 3) := by decide +kernel
theorem dL_law_1693 : decode cL_law 1693 = .ok (.istore 6, 2) := by decide +kernel
theorem dL_law_1695 : decode cL_law 1695 = .ok (.aload_n 2, 1) := by decide +kernel
theorem dL_law_1696 : decode cL_law 1696 = .ok (.invokevirtual 142, 3) := by decide +kernel
theorem dL_law_1699 : decode cL_law 1699 = .ok (.iload 5, 2) := by decide +kernel
theorem dL_law_1701 : decode cL_law 1701 = .ok (.if_icmp .eq 5, 3) := by decide +kernel
theorem dL_law_1704 : decode cL_law 1704 = .ok (.iconst 0, 1) := by decide +kernel
theorem dL_law_1705 : decode cL_law 1705 = .ok (.ireturn, 1) := by decide +kernel
theorem dL_law_1706 : decode cL_law 1706 = .ok (.iload 5, 2) := by decide +kernel
theorem dL_law_1708 : decode cL_law 1708 = .ok (.ifCond .ne 15, 3) := by decide +kernel
theorem dL_law_1711 : decode cL_law 1711 = .ok (.aload_n 3, 1) := by decide +kernel
theorem dL_law_1712 : decode cL_law 1712 = .ok (.iconst 0, 1) := by decide +kernel
theorem dL_law_1713 : decode cL_law 1713 = .ok (.laload, 1) := by decide +kernel
theorem dL_law_1714 : decode cL_law 1714 = .ok (.iload 6, 2) := by decide +kernel
theorem dL_law_1716 : decode cL_law 1716 = .ok (.i2l, 1) := by decide +kernel
theorem dL_law_1717 : decode cL_law 1717 = .ok (.lcmp, 1) := by decide +kernel
theorem dL_law_1718 : decode cL_law 1718 = .ok (.ifCond .eq 5, 3) := by decide +kernel
theorem dL_law_1721 : decode cL_law 1721 = .ok (.iconst 0, 1) := by decide +kernel
theorem dL_law_1722 : decode cL_law 1722 = .ok (.ireturn, 1) := by decide +kernel
theorem dL_law_1723 : decode cL_law 1723 = .ok (.goto 572, 3) := by decide +kernel
set_option maxRecDepth 100000 in
set_option maxHeartbeats 4000000 in
theorem law_29 {p : Program} {l : Launch} {e : Env} {R : Room} {s : State} {m : MethodId} {args : Array Value} {below : List Frame} {meth : Method} {c : Code} {cells slots : Nat} {Q : State → Prop} {D : va_G} {Ca : Nat → ClassId} {B : Nat} {En : State → Prop} {N b L X i : Nat} {xs : Nat → Int32} {z : Int} (C : zC p s m args meth c cL_law RL 9 D Ca B En) (hT : ∀ U, En U → zThr B U) (hT2 : ∀ U, En U → va_Nc (zEx 4) (zEx 1) U ∧ va_Nc (zEx 2) (zEx 1) U) (hl0 : l.stackTraces = false) (ev : zEv) (hZ : ∀ U : State, En U → zEnv ev B U) (hLS : zLS s B b L xs) (hi : i + 6 ≤ L) (hRm : zRm R 2048 84000 (cells + 1) (slots + 6)) (σ : zS) (hJ : J X z σ) (h0 : 0 ≤ z) (hz : z < 700000000)
    (kk : ∀ (σ2 : zS) (N2 : Nat), N ≤ N2 → J X (z + 501) σ2 → zW p l e R s m args below meth c (cells + 1) (slots + 6) Q D Ca B 9 σ2 N2 2295 (lawLv b X i) []) : zW p l e R s m args below meth c cells slots Q D Ca B 9 σ N 1670 (lawLv b X i) [] := by
  have hRm0 : zRm R 2048 84000 cells slots := ⟨hRm.1, hRm.2.1, Nat.le_of_succ_le hRm.2.2.1, Nat.le_trans (Nat.le_add_right slots 6) hRm.2.2.2⟩
  have kX := (J_k hJ).1
  have kY := (J_k hJ).2.1
  rcases j_rescale hJ h0 hz (xs (i + 1)) with ⟨σ1, σ2, a, e1, e2, e3, e4, k1, k2, hJ2⟩ | ⟨σ2, a, k, c, t1, e2, e3, hK, k2, hJ2⟩
  · have kY1 : (σ1.1 (X + 307)).1 = 14 := by rw [k1]; exact kY
    have kY2 : (σ2.1 (X + 307)).1 = 14 := by rw [k2]; exact kY
    refine z_aload_n C dL_law_1670 rfl 1 rfl ?_
    refine z_aload_n C dL_law_1671 rfl 0 rfl ?_
    refine z_iload C dL_law_1672 4 rfl ?_
    refine z_iconst C (zi 1) dL_law_1674 (by decide) ?_
    refine z_iadd C dL_law_1675 ?_
    refine z_sld C hLS (i + 1) (z_ix i 1) (by omega) dL_law_1676 ?_
    refine z_aload_n C dL_law_1677 rfl 3 rfl ?_
    refine z_callH (As := [.ref X, .int (xs (i + 1)), .ref (X + 322)]) (F0 := 2048) (L0 := 84000) C (mL_rescale l D Ca B En C.2.2.2.2.2.2.2.1 σ N X (xs (i + 1)) (X + 322) (σ1, zi 0) e1) hRm0 kw_1154 kw_0 kw_1152 kw_1153 hyL_rescale (Nat.le_of_ble_eq_true rfl) (Nat.le_of_ble_eq_true rfl) rfl rfl (Nat.le_of_ble_eq_true rfl) dL_law_1678 hRm.2.2.1 hRm.2.2.2 (fun N2 hN => ?_)
    refine z_istore (lv2 := [(5, .int (zi 0)), (0, .ref b), (1, .ref X), (2, .ref (X + 307)), (3, .ref (X + 322)), (4, .int (zi (i : Int)))]) C dL_law_1681 (by decide) rfl ?_
    refine z_aload_n C dL_law_1683 rfl 3 rfl ?_
    refine z_aload_n C dL_law_1684 rfl 1 rfl ?_
    refine z_iload C dL_law_1685 5 rfl ?_
    refine z_iconst C (zi 1) dL_law_1687 (by decide) ?_
    refine z_iadd C dL_law_1688 ?_
    refine z_sld C hLS (i + 1) (z_ix i 1) (by omega) dL_law_1689 ?_
    refine z_callVi (As := [.int (xs (i + 1))]) (F0 := 2048) (L0 := 84000) C (mX10_rescale l D Ca B En C.2.2.2.2.2.2.2.1 σ1 N2 (X + 307) (xs (i + 1)) (σ2, a) e2) hRm kY1 rfl kw_1603 kw_14 kw_1600 kw_1601 kw_1602 hyX10_rescale (Nat.le_of_ble_eq_true rfl) (Nat.le_of_ble_eq_true rfl) rfl rfl (Nat.le_of_ble_eq_true rfl) dL_law_1690 ?_
    refine z_istore (lv2 := [(6, .int a), (5, .int (zi 0)), (0, .ref b), (1, .ref X), (2, .ref (X + 307)), (3, .ref (X + 322)), (4, .int (zi (i : Int)))]) C dL_law_1693 (by decide) rfl ?_
    refine z_aload_n C dL_law_1695 rfl 4 rfl ?_
    refine z_callVi (As := []) (F0 := 2048) (L0 := 84000) C (mX10_thrown l D Ca B En C.2.2.2.2.2.2.2.1 σ2 N2 (X + 307)  (σ2, (zi 0)) e3) hRm kY2 rfl kw_1365 kw_14 kw_1362 kw_1363 kw_1364 hyX10_thrown (Nat.le_of_ble_eq_true rfl) (Nat.le_of_ble_eq_true rfl) rfl rfl (Nat.le_of_ble_eq_true rfl) dL_law_1696 ?_
    refine z_iload C dL_law_1699 1 rfl ?_
    refine z_icmp_eq C 1706 dL_law_1701 (by decide) (fun _ => ?_) (fun q => absurd rfl q)
    refine z_iload C dL_law_1706 1 rfl ?_
    refine z_if_ne C 1723 dL_law_1708 (by decide) (fun q => absurd rfl q) (fun _ => ?_)
    refine z_aload_n C dL_law_1711 rfl 5 rfl ?_
    refine z_iconst C (zi 0) dL_law_1712 (by decide) ?_
    refine z_aJ C e4 dL_law_1713 ?_
    refine z_iload C dL_law_1714 0 rfl ?_
    refine z_i2l C dL_law_1716 ?_
    refine z_lcmp C dL_law_1717 ?_
    refine z_if_eq C 1723 dL_law_1718 (by decide) (fun _ => ?_) (fun q => absurd (lgc _) q)
    refine z_goto C 2295 dL_law_1723 (by decide) ?_
    refine z_sub [2, 3, 4, 5, 6] rfl ?_
    exact kk σ2 N2 hN hJ2
  · have kY2 : (σ2.1 (X + 307)).1 = 14 := by rw [k2]; exact kY
    obtain ⟨rfl, rfl⟩ := hK
    refine z_aload_n C dL_law_1670 rfl 1 rfl ?_
    refine z_aload_n C dL_law_1671 rfl 0 rfl ?_
    refine z_iload C dL_law_1672 4 rfl ?_
    refine z_iconst C (zi 1) dL_law_1674 (by decide) ?_
    refine z_iadd C dL_law_1675 ?_
    refine z_sld C hLS (i + 1) (z_ix i 1) (by omega) dL_law_1676 ?_
    refine z_aload_n C dL_law_1677 rfl 3 rfl ?_
    refine z_callH (As := [.ref X, .int (xs (i + 1)), .ref (X + 322)]) (F0 := 2048) (L0 := 84000) C (mxL_rescale_2 l D Ca B En C.2.2.2.2.2.2.2.1 hT hT2 hl0 σ N X (xs (i + 1)) (X + 322) kX t1) hRm0 kw_1154 kw_0 kw_1152 kw_1153 hyL_rescale (Nat.le_of_ble_eq_true rfl) (Nat.le_of_ble_eq_true rfl) rfl rfl (Nat.le_of_ble_eq_true rfl) dL_law_1678 hRm.2.2.1 hRm.2.2.2 (fun N2 hN => ?_)
    refine z_istore (lv2 := [(5, .int (zi 1)), (0, .ref b), (1, .ref X), (2, .ref (X + 307)), (3, .ref (X + 322)), (4, .int (zi (i : Int)))]) C dL_law_1681 (by decide) rfl ?_
    refine z_aload_n C dL_law_1683 rfl 3 rfl ?_
    refine z_aload_n C dL_law_1684 rfl 1 rfl ?_
    refine z_iload C dL_law_1685 5 rfl ?_
    refine z_iconst C (zi 1) dL_law_1687 (by decide) ?_
    refine z_iadd C dL_law_1688 ?_
    refine z_sld C hLS (i + 1) (z_ix i 1) (by omega) dL_law_1689 ?_
    refine z_callVi (As := [.int (xs (i + 1))]) (F0 := 2048) (L0 := 84000) C (mX10_rescale l D Ca B En C.2.2.2.2.2.2.2.1 σ N2 (X + 307) (xs (i + 1)) (σ2, a) e2) hRm kY rfl kw_1603 kw_14 kw_1600 kw_1601 kw_1602 hyX10_rescale (Nat.le_of_ble_eq_true rfl) (Nat.le_of_ble_eq_true rfl) rfl rfl (Nat.le_of_ble_eq_true rfl) dL_law_1690 ?_
    refine z_istore (lv2 := [(6, .int a), (5, .int (zi 1)), (0, .ref b), (1, .ref X), (2, .ref (X + 307)), (3, .ref (X + 322)), (4, .int (zi (i : Int)))]) C dL_law_1693 (by decide) rfl ?_
    refine z_aload_n C dL_law_1695 rfl 4 rfl ?_
    refine z_callVi (As := []) (F0 := 2048) (L0 := 84000) C (mX10_thrown l D Ca B En C.2.2.2.2.2.2.2.1 σ2 N2 (X + 307)  (σ2, (zi 1)) e3) hRm kY2 rfl kw_1365 kw_14 kw_1362 kw_1363 kw_1364 hyX10_thrown (Nat.le_of_ble_eq_true rfl) (Nat.le_of_ble_eq_true rfl) rfl rfl (Nat.le_of_ble_eq_true rfl) dL_law_1696 ?_
    refine z_iload C dL_law_1699 1 rfl ?_
    refine z_icmp_eq C 1706 dL_law_1701 (by decide) (fun _ => ?_) (fun q => absurd rfl q)
    refine z_iload C dL_law_1706 1 rfl ?_
    refine z_if_ne C 1723 dL_law_1708 (by decide) (fun _ => ?_) (fun q => absurd q (by decide))
    refine z_goto C 2295 dL_law_1723 (by decide) ?_
    refine z_sub [2, 3, 4, 5, 6] rfl ?_
    exact kk σ2 N2 hN hJ2
theorem dL_law_1726 : decode cL_law 1726 = .ok (.aload_n 1, 1) := by decide +kernel
theorem dL_law_1727 : decode cL_law 1727 = .ok (.aload_n 0, 1) := by decide +kernel
theorem dL_law_1728 : decode cL_law 1728 = .ok (.iload 4, 2) := by decide +kernel
theorem dL_law_1730 : decode cL_law 1730 = .ok (.iconst 1, 1) := by decide +kernel
theorem dL_law_1731 : decode cL_law 1731 = .ok (.iadd, 1) := by decide +kernel
theorem dL_law_1732 : decode cL_law 1732 = .ok (.iaload, 1) := by decide +kernel
theorem dL_law_1733 : decode cL_law 1733 = .ok (.aload_n 3, 1) := by decide +kernel
theorem dL_law_1734 : decode cL_law 1734 = .ok (.invokestatic 222, 3) := by decide +kernel
theorem dL_law_1737 : decode cL_law 1737 = .ok (.istore 5, 2) := by decide +kernel
theorem dL_law_1739 : decode cL_law 1739 = .ok (.aload_n 2, 1) := by decide +kernel
theorem dL_law_1740 : decode cL_law 1740 = .ok (.aload_n 0, 1) := by decide +kernel
theorem dL_law_1741 : decode cL_law 1741 = .ok (.iload 4, 2) := by decide +kernel
theorem dL_law_1743 : decode cL_law 1743 = .ok (.iconst 1, 1) := by decide +kernel
theorem dL_law_1744 : decode cL_law 1744 = .ok (.iadd, 1) := by decide +kernel
theorem dL_law_1745 : decode cL_law 1745 = .ok (.iaload, 1) := by decide +kernel
theorem dL_law_1746 : decode cL_law 1746 = .ok (.invokevirtual 224, 3) := by decide +kernel
theorem dL_law_1749 : decode cL_law 1749 = .ok (.istore 6, 2) := by decide +kernel
theorem dL_law_1751 : decode cL_law 1751 = .ok (.aload_n 2, 1) := by decide +kernel
theorem dL_law_1752 : decode cL_law 1752 = .ok (.invokevirtual 142, 3) := by decide +kernel
theorem dL_law_1755 : decode cL_law 1755 = .ok (.iload 5, 2) := by decide +kernel
theorem dL_law_1757 : decode cL_law 1757 = .ok (.if_icmp .eq 5, 3) := by decide +kernel
theorem dL_law_1760 : decode cL_law 1760 = .ok (.iconst 0, 1) := by decide +kernel
theorem dL_law_1761 : decode cL_law 1761 = .ok (.ireturn, 1) := by decide +kernel
theorem dL_law_1762 : decode cL_law 1762 = .ok (.iload 5, 2) := by decide +kernel
theorem dL_law_1764 : decode cL_law 1764 = .ok (.ifCond .ne 15, 3) := by decide +kernel
theorem dL_law_1767 : decode cL_law 1767 = .ok (.aload_n 3, 1) := by decide +kernel
theorem dL_law_1768 : decode cL_law 1768 = .ok (.iconst 0, 1) := by decide +kernel
theorem dL_law_1769 : decode cL_law 1769 = .ok (.laload, 1) := by decide +kernel
theorem dL_law_1770 : decode cL_law 1770 = .ok (.iload 6, 2) := by decide +kernel
theorem dL_law_1772 : decode cL_law 1772 = .ok (.i2l, 1) := by decide +kernel
theorem dL_law_1773 : decode cL_law 1773 = .ok (.lcmp, 1) := by decide +kernel
theorem dL_law_1774 : decode cL_law 1774 = .ok (.ifCond .eq 5, 3) := by decide +kernel
theorem dL_law_1777 : decode cL_law 1777 = .ok (.iconst 0, 1) := by decide +kernel
theorem dL_law_1778 : decode cL_law 1778 = .ok (.ireturn, 1) := by decide +kernel
theorem dL_law_1779 : decode cL_law 1779 = .ok (.goto 516, 3) := by decide +kernel
set_option maxRecDepth 100000 in
set_option maxHeartbeats 4000000 in
theorem law_30 {p : Program} {l : Launch} {e : Env} {R : Room} {s : State} {m : MethodId} {args : Array Value} {below : List Frame} {meth : Method} {c : Code} {cells slots : Nat} {Q : State → Prop} {D : va_G} {Ca : Nat → ClassId} {B : Nat} {En : State → Prop} {N b L X i : Nat} {xs : Nat → Int32} {z : Int} (C : zC p s m args meth c cL_law RL 9 D Ca B En) (hT : ∀ U, En U → zThr B U) (hT2 : ∀ U, En U → va_Nc (zEx 4) (zEx 1) U ∧ va_Nc (zEx 2) (zEx 1) U) (hl0 : l.stackTraces = false) (ev : zEv) (hZ : ∀ U : State, En U → zEnv ev B U) (hLS : zLS s B b L xs) (hi : i + 6 ≤ L) (hRm : zRm R 2048 84000 (cells + 1) (slots + 6)) (σ : zS) (hJ : J X z σ) (h0 : 0 ≤ z) (hz : z < 700000000)
    (kk : ∀ (σ2 : zS) (N2 : Nat), N ≤ N2 → J X (z + 501) σ2 → zW p l e R s m args below meth c (cells + 1) (slots + 6) Q D Ca B 9 σ2 N2 2295 (lawLv b X i) []) : zW p l e R s m args below meth c cells slots Q D Ca B 9 σ N 1726 (lawLv b X i) [] := by
  have hRm0 : zRm R 2048 84000 cells slots := ⟨hRm.1, hRm.2.1, Nat.le_of_succ_le hRm.2.2.1, Nat.le_trans (Nat.le_add_right slots 6) hRm.2.2.2⟩
  have kX := (J_k hJ).1
  have kY := (J_k hJ).2.1
  rcases j_setRoom hJ h0 hz (xs (i + 1)) with ⟨σ1, σ2, a, e1, e2, e3, e4, k1, k2, hJ2⟩ | ⟨σ2, a, k, c, t1, e2, e3, hK, k2, hJ2⟩
  · have kY1 : (σ1.1 (X + 307)).1 = 14 := by rw [k1]; exact kY
    have kY2 : (σ2.1 (X + 307)).1 = 14 := by rw [k2]; exact kY
    refine z_aload_n C dL_law_1726 rfl 1 rfl ?_
    refine z_aload_n C dL_law_1727 rfl 0 rfl ?_
    refine z_iload C dL_law_1728 4 rfl ?_
    refine z_iconst C (zi 1) dL_law_1730 (by decide) ?_
    refine z_iadd C dL_law_1731 ?_
    refine z_sld C hLS (i + 1) (z_ix i 1) (by omega) dL_law_1732 ?_
    refine z_aload_n C dL_law_1733 rfl 3 rfl ?_
    refine z_callH (As := [.ref X, .int (xs (i + 1)), .ref (X + 322)]) (F0 := 2048) (L0 := 84000) C (mL_setRoom l D Ca B En C.2.2.2.2.2.2.2.1 σ N X (xs (i + 1)) (X + 322) (σ1, zi 0) e1) hRm0 kw_1178 kw_0 kw_1176 kw_1177 hyL_setRoom (Nat.le_of_ble_eq_true rfl) (Nat.le_of_ble_eq_true rfl) rfl rfl (Nat.le_of_ble_eq_true rfl) dL_law_1734 hRm.2.2.1 hRm.2.2.2 (fun N2 hN => ?_)
    refine z_istore (lv2 := [(5, .int (zi 0)), (0, .ref b), (1, .ref X), (2, .ref (X + 307)), (3, .ref (X + 322)), (4, .int (zi (i : Int)))]) C dL_law_1737 (by decide) rfl ?_
    refine z_aload_n C dL_law_1739 rfl 3 rfl ?_
    refine z_aload_n C dL_law_1740 rfl 1 rfl ?_
    refine z_iload C dL_law_1741 5 rfl ?_
    refine z_iconst C (zi 1) dL_law_1743 (by decide) ?_
    refine z_iadd C dL_law_1744 ?_
    refine z_sld C hLS (i + 1) (z_ix i 1) (by omega) dL_law_1745 ?_
    refine z_callVi (As := [.int (xs (i + 1))]) (F0 := 2048) (L0 := 84000) C (mX10_setRoom l D Ca B En C.2.2.2.2.2.2.2.1 σ1 N2 (X + 307) (xs (i + 1)) (σ2, a) e2) hRm kY1 rfl kw_1619 kw_14 kw_1616 kw_1617 kw_1618 hyX10_setRoom (Nat.le_of_ble_eq_true rfl) (Nat.le_of_ble_eq_true rfl) rfl rfl (Nat.le_of_ble_eq_true rfl) dL_law_1746 ?_
    refine z_istore (lv2 := [(6, .int a), (5, .int (zi 0)), (0, .ref b), (1, .ref X), (2, .ref (X + 307)), (3, .ref (X + 322)), (4, .int (zi (i : Int)))]) C dL_law_1749 (by decide) rfl ?_
    refine z_aload_n C dL_law_1751 rfl 4 rfl ?_
    refine z_callVi (As := []) (F0 := 2048) (L0 := 84000) C (mX10_thrown l D Ca B En C.2.2.2.2.2.2.2.1 σ2 N2 (X + 307)  (σ2, (zi 0)) e3) hRm kY2 rfl kw_1365 kw_14 kw_1362 kw_1363 kw_1364 hyX10_thrown (Nat.le_of_ble_eq_true rfl) (Nat.le_of_ble_eq_true rfl) rfl rfl (Nat.le_of_ble_eq_true rfl) dL_law_1752 ?_
    refine z_iload C dL_law_1755 1 rfl ?_
    refine z_icmp_eq C 1762 dL_law_1757 (by decide) (fun _ => ?_) (fun q => absurd rfl q)
    refine z_iload C dL_law_1762 1 rfl ?_
    refine z_if_ne C 1779 dL_law_1764 (by decide) (fun q => absurd rfl q) (fun _ => ?_)
    refine z_aload_n C dL_law_1767 rfl 5 rfl ?_
    refine z_iconst C (zi 0) dL_law_1768 (by decide) ?_
    refine z_aJ C e4 dL_law_1769 ?_
    refine z_iload C dL_law_1770 0 rfl ?_
    refine z_i2l C dL_law_1772 ?_
    refine z_lcmp C dL_law_1773 ?_
    refine z_if_eq C 1779 dL_law_1774 (by decide) (fun _ => ?_) (fun q => absurd (lgc _) q)
    refine z_goto C 2295 dL_law_1779 (by decide) ?_
    refine z_sub [2, 3, 4, 5, 6] rfl ?_
    exact kk σ2 N2 hN hJ2
  · have kY2 : (σ2.1 (X + 307)).1 = 14 := by rw [k2]; exact kY
    obtain ⟨rfl, rfl⟩ := hK
    refine z_aload_n C dL_law_1726 rfl 1 rfl ?_
    refine z_aload_n C dL_law_1727 rfl 0 rfl ?_
    refine z_iload C dL_law_1728 4 rfl ?_
    refine z_iconst C (zi 1) dL_law_1730 (by decide) ?_
    refine z_iadd C dL_law_1731 ?_
    refine z_sld C hLS (i + 1) (z_ix i 1) (by omega) dL_law_1732 ?_
    refine z_aload_n C dL_law_1733 rfl 3 rfl ?_
    refine z_callH (As := [.ref X, .int (xs (i + 1)), .ref (X + 322)]) (F0 := 2048) (L0 := 84000) C (mxL_setRoom_2 l D Ca B En C.2.2.2.2.2.2.2.1 hT hT2 hl0 σ N X (xs (i + 1)) (X + 322) kX t1) hRm0 kw_1178 kw_0 kw_1176 kw_1177 hyL_setRoom (Nat.le_of_ble_eq_true rfl) (Nat.le_of_ble_eq_true rfl) rfl rfl (Nat.le_of_ble_eq_true rfl) dL_law_1734 hRm.2.2.1 hRm.2.2.2 (fun N2 hN => ?_)
    refine z_istore (lv2 := [(5, .int (zi 1)), (0, .ref b), (1, .ref X), (2, .ref (X + 307)), (3, .ref (X + 322)), (4, .int (zi (i : Int)))]) C dL_law_1737 (by decide) rfl ?_
    refine z_aload_n C dL_law_1739 rfl 3 rfl ?_
    refine z_aload_n C dL_law_1740 rfl 1 rfl ?_
    refine z_iload C dL_law_1741 5 rfl ?_
    refine z_iconst C (zi 1) dL_law_1743 (by decide) ?_
    refine z_iadd C dL_law_1744 ?_
    refine z_sld C hLS (i + 1) (z_ix i 1) (by omega) dL_law_1745 ?_
    refine z_callVi (As := [.int (xs (i + 1))]) (F0 := 2048) (L0 := 84000) C (mX10_setRoom l D Ca B En C.2.2.2.2.2.2.2.1 σ N2 (X + 307) (xs (i + 1)) (σ2, a) e2) hRm kY rfl kw_1619 kw_14 kw_1616 kw_1617 kw_1618 hyX10_setRoom (Nat.le_of_ble_eq_true rfl) (Nat.le_of_ble_eq_true rfl) rfl rfl (Nat.le_of_ble_eq_true rfl) dL_law_1746 ?_
    refine z_istore (lv2 := [(6, .int a), (5, .int (zi 1)), (0, .ref b), (1, .ref X), (2, .ref (X + 307)), (3, .ref (X + 322)), (4, .int (zi (i : Int)))]) C dL_law_1749 (by decide) rfl ?_
    refine z_aload_n C dL_law_1751 rfl 4 rfl ?_
    refine z_callVi (As := []) (F0 := 2048) (L0 := 84000) C (mX10_thrown l D Ca B En C.2.2.2.2.2.2.2.1 σ2 N2 (X + 307)  (σ2, (zi 1)) e3) hRm kY2 rfl kw_1365 kw_14 kw_1362 kw_1363 kw_1364 hyX10_thrown (Nat.le_of_ble_eq_true rfl) (Nat.le_of_ble_eq_true rfl) rfl rfl (Nat.le_of_ble_eq_true rfl) dL_law_1752 ?_
    refine z_iload C dL_law_1755 1 rfl ?_
    refine z_icmp_eq C 1762 dL_law_1757 (by decide) (fun _ => ?_) (fun q => absurd rfl q)
    refine z_iload C dL_law_1762 1 rfl ?_
    refine z_if_ne C 1779 dL_law_1764 (by decide) (fun _ => ?_) (fun q => absurd q (by decide))
    refine z_goto C 2295 dL_law_1779 (by decide) ?_
    refine z_sub [2, 3, 4, 5, 6] rfl ?_
    exact kk σ2 N2 hN hJ2
