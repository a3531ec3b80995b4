/-! The law's cases 31 -/
theorem dL_law_1782 : decode cL_law 1782 = .ok (.aload_n 1, 1) := by decide +kernel
theorem dL_law_1783 : decode cL_law 1783 = .ok (.aload_n 0, 1) := by decide +kernel
theorem dL_law_1784 : decode cL_law 1784 = .ok (.iload 4, 2) := by decide +kernel
theorem dL_law_1786 : decode cL_law 1786 = .ok (.iconst 1, 1) := by decide +kernel
theorem dL_law_1787 : decode cL_law 1787 = .ok (.iadd, 1) := by decide +kernel
theorem dL_law_1788 : decode cL_law 1788 = .ok (.iaload, 1) := by decide +kernel
theorem dL_law_1789 : decode cL_law 1789 = .ok (.aload_n 0, 1) := by decide +kernel
theorem dL_law_1790 : decode cL_law 1790 = .ok (.iload 4, 2) := by decide +kernel
theorem dL_law_1792 : decode cL_law 1792 = .ok (.iconst 2, 1) := by decide +kernel
theorem dL_law_1793 : decode cL_law 1793 = .ok (.iadd, 1) := by decide +kernel
theorem dL_law_1794 : decode cL_law 1794 = .ok (.iaload, 1) := by decide +kernel
theorem dL_law_1795 : decode cL_law 1795 = .ok (.aload_n 3, 1) := by decide +kernel
theorem dL_law_1796 : decode cL_law 1796 = .ok (.invokestatic 225, 3) := by decide +kernel
theorem dL_law_1799 : decode cL_law 1799 = .ok (.istore 5, 2) := by decide +kernel
theorem dL_law_1801 : decode cL_law 1801 = .ok (.aload_n 2, 1) := by decide +kernel
theorem dL_law_1802 : decode cL_law 1802 = .ok (.aload_n 0, 1) := by decide +kernel
theorem dL_law_1803 : decode cL_law 1803 = .ok (.iload 4, 2) := by decide +kernel
theorem dL_law_1805 : decode cL_law 1805 = .ok (.iconst 1, 1) := by decide +kernel
theorem dL_law_1806 : decode cL_law 1806 = .ok (.iadd, 1) := by decide +kernel
theorem dL_law_1807 : decode cL_law 1807 = .ok (.iaload, 1) := by decide +kernel
theorem dL_law_1808 : decode cL_law 1808 = .ok (.aload_n 0, 1) := by decide +kernel
theorem dL_law_1809 : decode cL_law 1809 = .ok (.iload 4, 2) := by decide +kernel
theorem dL_law_1811 : decode cL_law 1811 = .ok (.iconst 2, 1) := by decide +kernel
theorem dL_law_1812 : decode cL_law 1812 = .ok (.iadd, 1) := by decide +kernel
theorem dL_law_1813 : decode cL_law 1813 = .ok (.iaload, 1) := by decide +kernel
theorem dL_law_1814 : decode cL_law 1814 = .ok (.invokevirtual 227, 3) := by decide +kernel
theorem dL_law_1817 : decode cL_law 1817 = .ok (.istore 6, 2) := by decide +kernel
theorem dL_law_1819 : decode cL_law 1819 = .ok (.aload_n 2, 1) := by decide +kernel
theorem dL_law_1820 : decode cL_law 1820 = .ok (.invokevirtual 142, 3) := by decide +kernel
theorem dL_law_1823 : decode cL_law 1823 = .ok (.iload 5, 2) := by decide +kernel
theorem dL_law_1825 : decode cL_law 1825 = .ok (.if_icmp .eq 5, 3) := by decide +kernel
theorem dL_law_1828 : decode cL_law 1828 = .ok (.iconst 0, 1) := by decide +kernel
theorem dL_law_1829 : decode cL_law 1829 = .ok (.ireturn, 1) := by decide +kernel
theorem dL_law_1830 : decode cL_law 1830 = .ok (.iload 5, 2) := by decide +kernel
theorem dL_law_1832 : decode cL_law 1832 = .ok (.ifCond .ne 15, 3) := by decide +kernel
theorem dL_law_1835 : decode cL_law 1835 = .ok (.aload_n 3, 1) := by decide +kernel
theorem dL_law_1836 : decode cL_law 1836 = .ok (.iconst 0, 1) := by decide +kernel
theorem dL_law_1837 : decode cL_law 1837 = .ok (.laload, 1) := by decide +kernel
theorem dL_law_1838 : decode cL_law 1838 = .ok (.iload 6, 2) := by decide +kernel
theorem dL_law_1840 : decode cL_law 1840 = .ok (.i2l, 1) := by decide +kernel
theorem dL_law_1841 : decode cL_law 1841 = .ok (.lcmp, 1) := by decide +kernel
theorem dL_law_1842 : decode cL_law 1842 = .ok (.ifCond .eq 5, 3) := by decide +kernel
theorem dL_law_1845 : decode cL_law 1845 = .ok (.iconst 0, 1) := by decide +kernel
theorem dL_law_1846 : decode cL_law 1846 = .ok (.ireturn, 1) := by decide +kernel
theorem dL_law_1847 : decode cL_law 1847 = .ok (.goto 448, 3) := by decide +kernel
set_option maxRecDepth 100000 in
set_option maxHeartbeats 4000000 in
theorem law_31 {p : Program} {l : Launch} {e : Env} {R : Room} {s : State} {m : MethodId} {args : Array Value} {below : List Frame} {meth : Method} {c : Code} {cells slots : Nat} {Q : State → Prop} {D : va_G} {Ca : Nat → ClassId} {B : Nat} {En : State → Prop} {N b L X i : Nat} {xs : Nat → Int32} {z : Int} (C : zC p s m args meth c cL_law RL 9 D Ca B En) (hT : ∀ U, En U → zThr B U) (hT2 : ∀ U, En U → va_Nc (zEx 4) (zEx 1) U ∧ va_Nc (zEx 2) (zEx 1) U) (hl0 : l.stackTraces = false) (ev : zEv) (hZ : ∀ U : State, En U → zEnv ev B U) (hLS : zLS s B b L xs) (hi : i + 6 ≤ L) (hRm : zRm R 2048 84000 (cells + 1) (slots + 6)) (σ : zS) (hJ : J X z σ) (h0 : 0 ≤ z) (hz : z < 700000000)
    (kk : ∀ (σ2 : zS) (N2 : Nat), N ≤ N2 → J X (z + 501) σ2 → zW p l e R s m args below meth c (cells + 1) (slots + 6) Q D Ca B 9 σ2 N2 2295 (lawLv b X i) []) : zW p l e R s m args below meth c cells slots Q D Ca B 9 σ N 1782 (lawLv b X i) [] := by
  have hRm0 : zRm R 2048 84000 cells slots := ⟨hRm.1, hRm.2.1, Nat.le_of_succ_le hRm.2.2.1, Nat.le_trans (Nat.le_add_right slots 6) hRm.2.2.2⟩
  have kX := (J_k hJ).1
  have kY := (J_k hJ).2.1
  rcases j_setLag hJ h0 hz (xs (i + 1)) (xs (i + 2)) with ⟨σ1, σ2, a, e1, e2, e3, e4, k1, k2, hJ2⟩ | ⟨σ2, a, k, c, t1, e2, e3, hK, k2, hJ2⟩
  · have kY1 : (σ1.1 (X + 307)).1 = 14 := by rw [k1]; exact kY
    have kY2 : (σ2.1 (X + 307)).1 = 14 := by rw [k2]; exact kY
    refine z_aload_n C dL_law_1782 rfl 1 rfl ?_
    refine z_aload_n C dL_law_1783 rfl 0 rfl ?_
    refine z_iload C dL_law_1784 4 rfl ?_
    refine z_iconst C (zi 1) dL_law_1786 (by decide) ?_
    refine z_iadd C dL_law_1787 ?_
    refine z_sld C hLS (i + 1) (z_ix i 1) (by omega) dL_law_1788 ?_
    refine z_aload_n C dL_law_1789 rfl 0 rfl ?_
    refine z_iload C dL_law_1790 4 rfl ?_
    refine z_iconst C (zi 2) dL_law_1792 (by decide) ?_
    refine z_iadd C dL_law_1793 ?_
    refine z_sld C hLS (i + 2) (z_ix i 2) (by omega) dL_law_1794 ?_
    refine z_aload_n C dL_law_1795 rfl 3 rfl ?_
    refine z_callH (As := [.ref X, .int (xs (i + 1)), .int (xs (i + 2)), .ref (X + 322)]) (F0 := 2048) (L0 := 84000) C (mL_setLag l D Ca B En C.2.2.2.2.2.2.2.1 σ N X (xs (i + 1)) (xs (i + 2)) (X + 322) (σ1, zi 0) e1) hRm0 kw_1185 kw_0 kw_1183 kw_1184 hyL_setLag (Nat.le_of_ble_eq_true rfl) (Nat.le_of_ble_eq_true rfl) rfl rfl (Nat.le_of_ble_eq_true rfl) dL_law_1796 hRm.2.2.1 hRm.2.2.2 (fun N2 hN => ?_)
    refine z_istore (lv2 := [(5, .int (zi 0)), (0, .ref b), (1, .ref X), (2, .ref (X + 307)), (3, .ref (X + 322)), (4, .int (zi (i : Int)))]) C dL_law_1799 (by decide) rfl ?_
    refine z_aload_n C dL_law_1801 rfl 3 rfl ?_
    refine z_aload_n C dL_law_1802 rfl 1 rfl ?_
    refine z_iload C dL_law_1803 5 rfl ?_
    refine z_iconst C (zi 1) dL_law_1805 (by decide) ?_
    refine z_iadd C dL_law_1806 ?_
    refine z_sld C hLS (i + 1) (z_ix i 1) (by omega) dL_law_1807 ?_
    refine z_aload_n C dL_law_1808 rfl 1 rfl ?_
    refine z_iload C dL_law_1809 5 rfl ?_
    refine z_iconst C (zi 2) dL_law_1811 (by decide) ?_
    refine z_iadd C dL_law_1812 ?_
    refine z_sld C hLS (i + 2) (z_ix i 2) (by omega) dL_law_1813 ?_
    refine z_callVi (As := [.int (xs (i + 1)), .int (xs (i + 2))]) (F0 := 2048) (L0 := 84000) C (mX10_setLag l D Ca B En C.2.2.2.2.2.2.2.1 σ1 N2 (X + 307) (xs (i + 1)) (xs (i + 2)) (σ2, a) e2) hRm kY1 rfl kw_1628 kw_14 kw_1625 kw_1626 kw_1627 hyX10_setLag (Nat.le_of_ble_eq_true rfl) (Nat.le_of_ble_eq_true rfl) rfl rfl (Nat.le_of_ble_eq_true rfl) dL_law_1814 ?_
    refine z_istore (lv2 := [(6, .int a), (5, .int (zi 0)), (0, .ref b), (1, .ref X), (2, .ref (X + 307)), (3, .ref (X + 322)), (4, .int (zi (i : Int)))]) C dL_law_1817 (by decide) rfl ?_
    refine z_aload_n C dL_law_1819 rfl 4 rfl ?_
    refine z_callVi (As := []) (F0 := 2048) (L0 := 84000) C (mX10_thrown l D Ca B En C.2.2.2.2.2.2.2.1 σ2 N2 (X + 307)  (σ2, (zi 0)) e3) hRm kY2 rfl kw_1365 kw_14 kw_1362 kw_1363 kw_1364 hyX10_thrown (Nat.le_of_ble_eq_true rfl) (Nat.le_of_ble_eq_true rfl) rfl rfl (Nat.le_of_ble_eq_true rfl) dL_law_1820 ?_
    refine z_iload C dL_law_1823 1 rfl ?_
    refine z_icmp_eq C 1830 dL_law_1825 (by decide) (fun _ => ?_) (fun q => absurd rfl q)
    refine z_iload C dL_law_1830 1 rfl ?_
    refine z_if_ne C 1847 dL_law_1832 (by decide) (fun q => absurd rfl q) (fun _ => ?_)
    refine z_aload_n C dL_law_1835 rfl 5 rfl ?_
    refine z_iconst C (zi 0) dL_law_1836 (by decide) ?_
    refine z_aJ C e4 dL_law_1837 ?_
    refine z_iload C dL_law_1838 0 rfl ?_
    refine z_i2l C dL_law_1840 ?_
    refine z_lcmp C dL_law_1841 ?_
    refine z_if_eq C 1847 dL_law_1842 (by decide) (fun _ => ?_) (fun q => absurd (lgc _) q)
    refine z_goto C 2295 dL_law_1847 (by decide) ?_
    refine z_sub [2, 3, 4, 5, 6] rfl ?_
    exact kk σ2 N2 hN hJ2
  · have kY2 : (σ2.1 (X + 307)).1 = 14 := by rw [k2]; exact kY
    rcases hK with ⟨rfl, rfl⟩ | ⟨rfl, rfl⟩
    · refine z_aload_n C dL_law_1782 rfl 1 rfl ?_
      refine z_aload_n C dL_law_1783 rfl 0 rfl ?_
      refine z_iload C dL_law_1784 4 rfl ?_
      refine z_iconst C (zi 1) dL_law_1786 (by decide) ?_
      refine z_iadd C dL_law_1787 ?_
      refine z_sld C hLS (i + 1) (z_ix i 1) (by omega) dL_law_1788 ?_
      refine z_aload_n C dL_law_1789 rfl 0 rfl ?_
      refine z_iload C dL_law_1790 4 rfl ?_
      refine z_iconst C (zi 2) dL_law_1792 (by decide) ?_
      refine z_iadd C dL_law_1793 ?_
      refine z_sld C hLS (i + 2) (z_ix i 2) (by omega) dL_law_1794 ?_
      refine z_aload_n C dL_law_1795 rfl 3 rfl ?_
      refine z_callH (As := [.ref X, .int (xs (i + 1)), .int (xs (i + 2)), .ref (X + 322)]) (F0 := 2048) (L0 := 84000) C (mxL_setLag_1 l D Ca B En C.2.2.2.2.2.2.2.1 hT hT2 hl0 σ N X (xs (i + 1)) (xs (i + 2)) (X + 322) kX t1) hRm0 kw_1185 kw_0 kw_1183 kw_1184 hyL_setLag (Nat.le_of_ble_eq_true rfl) (Nat.le_of_ble_eq_true rfl) rfl rfl (Nat.le_of_ble_eq_true rfl) dL_law_1796 hRm.2.2.1 hRm.2.2.2 (fun N2 hN => ?_)
      refine z_istore (lv2 := [(5, .int (zi 1)), (0, .ref b), (1, .ref X), (2, .ref (X + 307)), (3, .ref (X + 322)), (4, .int (zi (i : Int)))]) C dL_law_1799 (by decide) rfl ?_
      refine z_aload_n C dL_law_1801 rfl 3 rfl ?_
      refine z_aload_n C dL_law_1802 rfl 1 rfl ?_
      refine z_iload C dL_law_1803 5 rfl ?_
      refine z_iconst C (zi 1) dL_law_1805 (by decide) ?_
      refine z_iadd C dL_law_1806 ?_
      refine z_sld C hLS (i + 1) (z_ix i 1) (by omega) dL_law_1807 ?_
      refine z_aload_n C dL_law_1808 rfl 1 rfl ?_
      refine z_iload C dL_law_1809 5 rfl ?_
      refine z_iconst C (zi 2) dL_law_1811 (by decide) ?_
      refine z_iadd C dL_law_1812 ?_
      refine z_sld C hLS (i + 2) (z_ix i 2) (by omega) dL_law_1813 ?_
      refine z_callVi (As := [.int (xs (i + 1)), .int (xs (i + 2))]) (F0 := 2048) (L0 := 84000) C (mX10_setLag l D Ca B En C.2.2.2.2.2.2.2.1 σ N2 (X + 307) (xs (i + 1)) (xs (i + 2)) (σ2, a) e2) hRm kY rfl kw_1628 kw_14 kw_1625 kw_1626 kw_1627 hyX10_setLag (Nat.le_of_ble_eq_true rfl) (Nat.le_of_ble_eq_true rfl) rfl rfl (Nat.le_of_ble_eq_true rfl) dL_law_1814 ?_
      refine z_istore (lv2 := [(6, .int a), (5, .int (zi 1)), (0, .ref b), (1, .ref X), (2, .ref (X + 307)), (3, .ref (X + 322)), (4, .int (zi (i : Int)))]) C dL_law_1817 (by decide) rfl ?_
      refine z_aload_n C dL_law_1819 rfl 4 rfl ?_
      refine z_callVi (As := []) (F0 := 2048) (L0 := 84000) C (mX10_thrown l D Ca B En C.2.2.2.2.2.2.2.1 σ2 N2 (X + 307)  (σ2, (zi 1)) e3) hRm kY2 rfl kw_1365 kw_14 kw_1362 kw_1363 kw_1364 hyX10_thrown (Nat.le_of_ble_eq_true rfl) (Nat.le_of_ble_eq_true rfl) rfl rfl (Nat.le_of_ble_eq_true rfl) dL_law_1820 ?_
      refine z_iload C dL_law_1823 1 rfl ?_
      refine z_icmp_eq C 1830 dL_law_1825 (by decide) (fun _ => ?_) (fun q => absurd rfl q)
      refine z_iload C dL_law_1830 1 rfl ?_
      refine z_if_ne C 1847 dL_law_1832 (by decide) (fun _ => ?_) (fun q => absurd q (by decide))
      refine z_goto C 2295 dL_law_1847 (by decide) ?_
      refine z_sub [2, 3, 4, 5, 6] rfl ?_
      exact kk σ2 N2 hN hJ2
    · refine z_aload_n C dL_law_1782 rfl 1 rfl ?_
      refine z_aload_n C dL_law_1783 rfl 0 rfl ?_
      refine z_iload C dL_law_1784 4 rfl ?_
      refine z_iconst C (zi 1) dL_law_1786 (by decide) ?_
      refine z_iadd C dL_law_1787 ?_
      refine z_sld C hLS (i + 1) (z_ix i 1) (by omega) dL_law_1788 ?_
      refine z_aload_n C dL_law_1789 rfl 0 rfl ?_
      refine z_iload C dL_law_1790 4 rfl ?_
      refine z_iconst C (zi 2) dL_law_1792 (by decide) ?_
      refine z_iadd C dL_law_1793 ?_
      refine z_sld C hLS (i + 2) (z_ix i 2) (by omega) dL_law_1794 ?_
      refine z_aload_n C dL_law_1795 rfl 3 rfl ?_
      refine z_callH (As := [.ref X, .int (xs (i + 1)), .int (xs (i + 2)), .ref (X + 322)]) (F0 := 2048) (L0 := 84000) C (mxL_setLag_2 l D Ca B En C.2.2.2.2.2.2.2.1 hT hT2 hl0 σ N X (xs (i + 1)) (xs (i + 2)) (X + 322) kX t1) hRm0 kw_1185 kw_0 kw_1183 kw_1184 hyL_setLag (Nat.le_of_ble_eq_true rfl) (Nat.le_of_ble_eq_true rfl) rfl rfl (Nat.le_of_ble_eq_true rfl) dL_law_1796 hRm.2.2.1 hRm.2.2.2 (fun N2 hN => ?_)
      refine z_istore (lv2 := [(5, .int (zi 2)), (0, .ref b), (1, .ref X), (2, .ref (X + 307)), (3, .ref (X + 322)), (4, .int (zi (i : Int)))]) C dL_law_1799 (by decide) rfl ?_
      refine z_aload_n C dL_law_1801 rfl 3 rfl ?_
      refine z_aload_n C dL_law_1802 rfl 1 rfl ?_
      refine z_iload C dL_law_1803 5 rfl ?_
      refine z_iconst C (zi 1) dL_law_1805 (by decide) ?_
      refine z_iadd C dL_law_1806 ?_
      refine z_sld C hLS (i + 1) (z_ix i 1) (by omega) dL_law_1807 ?_
      refine z_aload_n C dL_law_1808 rfl 1 rfl ?_
      refine z_iload C dL_law_1809 5 rfl ?_
      refine z_iconst C (zi 2) dL_law_1811 (by decide) ?_
      refine z_iadd C dL_law_1812 ?_
      refine z_sld C hLS (i + 2) (z_ix i 2) (by omega) dL_law_1813 ?_
      refine z_callVi (As := [.int (xs (i + 1)), .int (xs (i + 2))]) (F0 := 2048) (L0 := 84000) C (mX10_setLag l D Ca B En C.2.2.2.2.2.2.2.1 σ N2 (X + 307) (xs (i + 1)) (xs (i + 2)) (σ2, a) e2) hRm kY rfl kw_1628 kw_14 kw_1625 kw_1626 kw_1627 hyX10_setLag (Nat.le_of_ble_eq_true rfl) (Nat.le_of_ble_eq_true rfl) rfl rfl (Nat.le_of_ble_eq_true rfl) dL_law_1814 ?_
      refine z_istore (lv2 := [(6, .int a), (5, .int (zi 2)), (0, .ref b), (1, .ref X), (2, .ref (X + 307)), (3, .ref (X + 322)), (4, .int (zi (i : Int)))]) C dL_law_1817 (by decide) rfl ?_
      refine z_aload_n C dL_law_1819 rfl 4 rfl ?_
      refine z_callVi (As := []) (F0 := 2048) (L0 := 84000) C (mX10_thrown l D Ca B En C.2.2.2.2.2.2.2.1 σ2 N2 (X + 307)  (σ2, (zi 2)) e3) hRm kY2 rfl kw_1365 kw_14 kw_1362 kw_1363 kw_1364 hyX10_thrown (Nat.le_of_ble_eq_true rfl) (Nat.le_of_ble_eq_true rfl) rfl rfl (Nat.le_of_ble_eq_true rfl) dL_law_1820 ?_
      refine z_iload C dL_law_1823 1 rfl ?_
      refine z_icmp_eq C 1830 dL_law_1825 (by decide) (fun _ => ?_) (fun q => absurd rfl q)
      refine z_iload C dL_law_1830 1 rfl ?_
      refine z_if_ne C 1847 dL_law_1832 (by decide) (fun _ => ?_) (fun q => absurd q (by decide))
      refine z_goto C 2295 dL_law_1847 (by decide) ?_
      refine z_sub [2, 3, 4, 5, 6] rfl ?_
      exact kk σ2 N2 hN hJ2
