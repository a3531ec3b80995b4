/-! The law's cases 32 -/
theorem dL_law_1850 : decode cL_law 1850 = .ok (.aload_n 1, 1) := by decide +kernel
theorem dL_law_1851 : decode cL_law 1851 = .ok (.aload_n 0, 1) := by decide +kernel
theorem dL_law_1852 : decode cL_law 1852 = .ok (.iload 4, 2) := by decide +kernel
theorem dL_law_1854 : decode cL_law 1854 = .ok (.iconst 1, 1) := by decide +kernel
theorem dL_law_1855 : decode cL_law 1855 = .ok (.iadd, 1) := by decide +kernel
theorem dL_law_1856 : decode cL_law 1856 = .ok (.iaload, 1) := by decide +kernel
theorem dL_law_1857 : decode cL_law 1857 = .ok (.aload_n 0, 1) := by decide +kernel
theorem dL_law_1858 : decode cL_law 1858 = .ok (.iload 4, 2) := by decide +kernel
theorem dL_law_1860 : decode cL_law 1860 = .ok (.iconst 2, 1) := by decide +kernel
theorem dL_law_1861 : decode cL_law 1861 = .ok (.iadd, 1) := by decide +kernel
theorem dL_law_1862 : decode cL_law 1862 = .ok (.iaload, 1) := by decide +kernel
theorem dL_law_1863 : decode cL_law 1863 = .ok (.ifCond .eq 7, 3) := by decide +kernel
theorem dL_law_1866 : decode cL_law 1866 = .ok (.iconst 1, 1) := by decide +kernel
theorem dL_law_1867 : decode cL_law 1867 = .ok (.goto 4, 3) := by decide +kernel
theorem dL_law_1870 : decode cL_law 1870 = .ok (.iconst 0, 1) := by decide +kernel
theorem dL_law_1871 : decode cL_law 1871 = .ok (.aload_n 3, 1) := by decide +kernel
theorem dL_law_1872 : decode cL_law 1872 = .ok (.invokestatic 228, 3) := by decide +kernel
theorem dL_law_1875 : decode cL_law 1875 = .ok (.istore 5, 2) := by decide +kernel
theorem dL_law_1877 : decode cL_law 1877 = .ok (.aload_n 2, 1) := by decide +kernel
theorem dL_law_1878 : decode cL_law 1878 = .ok (.aload_n 0, 1) := by decide +kernel
theorem dL_law_1879 : decode cL_law 1879 = .ok (.iload 4, 2) := by decide +kernel
theorem dL_law_1881 : decode cL_law 1881 = .ok (.iconst 1, 1) := by decide +kernel
theorem dL_law_1882 : decode cL_law 1882 = .ok (.iadd, 1) := by decide +kernel
theorem dL_law_1883 : decode cL_law 1883 = .ok (.iaload, 1) := by decide +kernel
theorem dL_law_1884 : decode cL_law 1884 = .ok (.aload_n 0, 1) := by decide +kernel
theorem dL_law_1885 : decode cL_law 1885 = .ok (.iload 4, 2) := by decide +kernel
theorem dL_law_1887 : decode cL_law 1887 = .ok (.iconst 2, 1) := by decide +kernel
theorem dL_law_1888 : decode cL_law 1888 = .ok (.iadd, 1) := by decide +kernel
theorem dL_law_1889 : decode cL_law 1889 = .ok (.iaload, 1) := by decide +kernel
theorem dL_law_1890 : decode cL_law 1890 = .ok (.ifCond .eq 7, 3) := by decide +kernel
theorem dL_law_1893 : decode cL_law 1893 = .ok (.iconst 1, 1) := by decide +kernel
theorem dL_law_1894 : decode cL_law 1894 = .ok (.goto 4, 3) := by decide +kernel
theorem dL_law_1897 : decode cL_law 1897 = .ok (.iconst 0, 1) := by decide +kernel
theorem dL_law_1898 : decode cL_law 1898 = .ok (.invokevirtual 231, 3) := by decide +kernel
theorem dL_law_1901 : decode cL_law 1901 = .ok (.istore 6, 2) := by decide +kernel
theorem dL_law_1903 : decode cL_law 1903 = .ok (.aload_n 2, 1) := by decide +kernel
theorem dL_law_1904 : decode cL_law 1904 = .ok (.invokevirtual 142, 3) := by decide +kernel
theorem dL_law_1907 : decode cL_law 1907 = .ok (.iload 5, 2) := by decide +kernel
theorem dL_law_1909 : decode cL_law 1909 = .ok (.if_icmp .eq 5, 3) := by decide +kernel
theorem dL_law_1912 : decode cL_law 1912 = .ok (.iconst 0, 1) := by decide +kernel
theorem dL_law_1913 : decode cL_law 1913 = .ok (.ireturn, 1) := by decide +kernel
theorem dL_law_1914 : decode cL_law 1914 = .ok (.iload 5, 2) := by decide +kernel
theorem dL_law_1916 : decode cL_law 1916 = .ok (.ifCond .ne 15, 3) := by decide +kernel
theorem dL_law_1919 : decode cL_law 1919 = .ok (.aload_n 3, 1) := by decide +kernel
theorem dL_law_1920 : decode cL_law 1920 = .ok (.iconst 0, 1) := by decide +kernel
theorem dL_law_1921 : decode cL_law 1921 = .ok (.laload, 1) := by decide +kernel
theorem dL_law_1922 : decode cL_law 1922 = .ok (.iload 6, 2) := by decide +kernel
theorem dL_law_1924 : decode cL_law 1924 = .ok (.i2l, 1) := by decide +kernel
theorem dL_law_1925 : decode cL_law 1925 = .ok (.lcmp, 1) := by decide +kernel
theorem dL_law_1926 : decode cL_law 1926 = .ok (.ifCond .eq 5, 3) := by decide +kernel
theorem dL_law_1929 : decode cL_law 1929 = .ok (.iconst 0, 1) := by decide +kernel
theorem dL_law_1930 : decode cL_law 1930 = .ok (.ireturn, 1) := by decide +kernel
theorem dL_law_1931 : decode cL_law 1931 = .ok (.goto 364, 3) := by decide +kernel
set_option maxRecDepth 100000 in
set_option maxHeartbeats 4000000 in
theorem law_32 {p : Program} {l : Launch} {e : Env} {R : Room} {s : State} {m : MethodId} {args : Array Value} {below : List Frame} {meth : Method} {c : Code} {cells slots : Nat} {Q : State → Prop} {D : va_G} {Ca : Nat → ClassId} {B : Nat} {En : State → Prop} {N b L X i : Nat} {xs : Nat → Int32} {z : Int} (C : zC p s m args meth c cL_law RL 9 D Ca B En) (hT : ∀ U, En U → zThr B U) (hT2 : ∀ U, En U → va_Nc (zEx 4) (zEx 1) U ∧ va_Nc (zEx 2) (zEx 1) U) (hl0 : l.stackTraces = false) (ev : zEv) (hZ : ∀ U : State, En U → zEnv ev B U) (hLS : zLS s B b L xs) (hi : i + 6 ≤ L) (hRm : zRm R 2048 84000 (cells + 1) (slots + 6)) (σ : zS) (hJ : J X z σ) (h0 : 0 ≤ z) (hz : z < 700000000)
    (kk : ∀ (σ2 : zS) (N2 : Nat), N ≤ N2 → J X (z + 501) σ2 → zW p l e R s m args below meth c (cells + 1) (slots + 6) Q D Ca B 9 σ2 N2 2295 (lawLv b X i) []) : zW p l e R s m args below meth c cells slots Q D Ca B 9 σ N 1850 (lawLv b X i) [] := by
  have hRm0 : zRm R 2048 84000 cells slots := ⟨hRm.1, hRm.2.1, Nat.le_of_succ_le hRm.2.2.1, Nat.le_trans (Nat.le_add_right slots 6) hRm.2.2.2⟩
  have kX := (J_k hJ).1
  have kY := (J_k hJ).2.1
  by_cases hb2 : xs (i + 2) = zi 0
  · rcases j_setEvery hJ h0 hz (xs (i + 1)) false with ⟨σ1, σ2, a, e1, e2, e3, e4, k1, k2, hJ2⟩ | ⟨σ2, a, k, c, t1, e2, e3, hK, k2, hJ2⟩
    · have kY1 : (σ1.1 (X + 307)).1 = 14 := by rw [k1]; exact kY
      have kY2 : (σ2.1 (X + 307)).1 = 14 := by rw [k2]; exact kY
      refine z_aload_n C dL_law_1850 rfl 1 rfl ?_
      refine z_aload_n C dL_law_1851 rfl 0 rfl ?_
      refine z_iload C dL_law_1852 4 rfl ?_
      refine z_iconst C (zi 1) dL_law_1854 (by decide) ?_
      refine z_iadd C dL_law_1855 ?_
      refine z_sld C hLS (i + 1) (z_ix i 1) (by omega) dL_law_1856 ?_
      refine z_aload_n C dL_law_1857 rfl 0 rfl ?_
      refine z_iload C dL_law_1858 4 rfl ?_
      refine z_iconst C (zi 2) dL_law_1860 (by decide) ?_
      refine z_iadd C dL_law_1861 ?_
      refine z_sld C hLS (i + 2) (z_ix i 2) (by omega) dL_law_1862 ?_
      refine z_if_eq C 1870 dL_law_1863 (by decide) (fun _ => ?_) (fun q => absurd hb2 q)
      refine z_iconst C (zi 0) dL_law_1870 (by decide) ?_
      refine z_aload_n C dL_law_1871 rfl 3 rfl ?_
      refine z_callH (As := [.ref X, .int (xs (i + 1)), .int (zi 0), .ref (X + 322)]) (F0 := 2048) (L0 := 84000) C (mL_setEvery l D Ca B En C.2.2.2.2.2.2.2.1 σ N X (xs (i + 1)) (zi 0) (X + 322) (σ1, zi 0) e1) hRm0 kw_1192 kw_0 kw_1190 kw_1191 hyL_setEvery (Nat.le_of_ble_eq_true rfl) (Nat.le_of_ble_eq_true rfl) rfl rfl (Nat.le_of_ble_eq_true rfl) dL_law_1872 hRm.2.2.1 hRm.2.2.2 (fun N2 hN => ?_)
      refine z_istore (lv2 := [(5, .int (zi 0)), (0, .ref b), (1, .ref X), (2, .ref (X + 307)), (3, .ref (X + 322)), (4, .int (zi (i : Int)))]) C dL_law_1875 (by decide) rfl ?_
      refine z_aload_n C dL_law_1877 rfl 3 rfl ?_
      refine z_aload_n C dL_law_1878 rfl 1 rfl ?_
      refine z_iload C dL_law_1879 5 rfl ?_
      refine z_iconst C (zi 1) dL_law_1881 (by decide) ?_
      refine z_iadd C dL_law_1882 ?_
      refine z_sld C hLS (i + 1) (z_ix i 1) (by omega) dL_law_1883 ?_
      refine z_aload_n C dL_law_1884 rfl 1 rfl ?_
      refine z_iload C dL_law_1885 5 rfl ?_
      refine z_iconst C (zi 2) dL_law_1887 (by decide) ?_
      refine z_iadd C dL_law_1888 ?_
      refine z_sld C hLS (i + 2) (z_ix i 2) (by omega) dL_law_1889 ?_
      refine z_if_eq C 1897 dL_law_1890 (by decide) (fun _ => ?_) (fun q => absurd hb2 q)
      refine z_iconst C (zi 0) dL_law_1897 (by decide) ?_
      refine z_callVi (As := [.int (xs (i + 1)), .int (zi 0)]) (F0 := 2048) (L0 := 84000) C (mX10_setEvery l D Ca B En C.2.2.2.2.2.2.2.1 σ1 N2 (X + 307) (xs (i + 1)) (zi 0) (σ2, a) e2) hRm kY1 rfl kw_1640 kw_14 kw_1637 kw_1638 kw_1639 hyX10_setEvery (Nat.le_of_ble_eq_true rfl) (Nat.le_of_ble_eq_true rfl) rfl rfl (Nat.le_of_ble_eq_true rfl) dL_law_1898 ?_
      refine z_istore (lv2 := [(6, .int a), (5, .int (zi 0)), (0, .ref b), (1, .ref X), (2, .ref (X + 307)), (3, .ref (X + 322)), (4, .int (zi (i : Int)))]) C dL_law_1901 (by decide) rfl ?_
      refine z_aload_n C dL_law_1903 rfl 4 rfl ?_
      refine z_callVi (As := []) (F0 := 2048) (L0 := 84000) C (mX10_thrown l D Ca B En C.2.2.2.2.2.2.2.1 σ2 N2 (X + 307)  (σ2, (zi 0)) e3) hRm kY2 rfl kw_1365 kw_14 kw_1362 kw_1363 kw_1364 hyX10_thrown (Nat.le_of_ble_eq_true rfl) (Nat.le_of_ble_eq_true rfl) rfl rfl (Nat.le_of_ble_eq_true rfl) dL_law_1904 ?_
      refine z_iload C dL_law_1907 1 rfl ?_
      refine z_icmp_eq C 1914 dL_law_1909 (by decide) (fun _ => ?_) (fun q => absurd rfl q)
      refine z_iload C dL_law_1914 1 rfl ?_
      refine z_if_ne C 1931 dL_law_1916 (by decide) (fun q => absurd rfl q) (fun _ => ?_)
      refine z_aload_n C dL_law_1919 rfl 5 rfl ?_
      refine z_iconst C (zi 0) dL_law_1920 (by decide) ?_
      refine z_aJ C e4 dL_law_1921 ?_
      refine z_iload C dL_law_1922 0 rfl ?_
      refine z_i2l C dL_law_1924 ?_
      refine z_lcmp C dL_law_1925 ?_
      refine z_if_eq C 1931 dL_law_1926 (by decide) (fun _ => ?_) (fun q => absurd (lgc _) q)
      refine z_goto C 2295 dL_law_1931 (by decide) ?_
      refine z_sub [2, 3, 4, 5, 6] rfl ?_
      exact kk σ2 N2 hN hJ2
    · have kY2 : (σ2.1 (X + 307)).1 = 14 := by rw [k2]; exact kY
      obtain ⟨rfl, rfl⟩ := hK
      refine z_aload_n C dL_law_1850 rfl 1 rfl ?_
      refine z_aload_n C dL_law_1851 rfl 0 rfl ?_
      refine z_iload C dL_law_1852 4 rfl ?_
      refine z_iconst C (zi 1) dL_law_1854 (by decide) ?_
      refine z_iadd C dL_law_1855 ?_
      refine z_sld C hLS (i + 1) (z_ix i 1) (by omega) dL_law_1856 ?_
      refine z_aload_n C dL_law_1857 rfl 0 rfl ?_
      refine z_iload C dL_law_1858 4 rfl ?_
      refine z_iconst C (zi 2) dL_law_1860 (by decide) ?_
      refine z_iadd C dL_law_1861 ?_
      refine z_sld C hLS (i + 2) (z_ix i 2) (by omega) dL_law_1862 ?_
      refine z_if_eq C 1870 dL_law_1863 (by decide) (fun _ => ?_) (fun q => absurd hb2 q)
      refine z_iconst C (zi 0) dL_law_1870 (by decide) ?_
      refine z_aload_n C dL_law_1871 rfl 3 rfl ?_
      refine z_callH (As := [.ref X, .int (xs (i + 1)), .int (zi 0), .ref (X + 322)]) (F0 := 2048) (L0 := 84000) C (mxL_setEvery_2 l D Ca B En C.2.2.2.2.2.2.2.1 hT hT2 hl0 σ N X (xs (i + 1)) (zi 0) (X + 322) kX t1) hRm0 kw_1192 kw_0 kw_1190 kw_1191 hyL_setEvery (Nat.le_of_ble_eq_true rfl) (Nat.le_of_ble_eq_true rfl) rfl rfl (Nat.le_of_ble_eq_true rfl) dL_law_1872 hRm.2.2.1 hRm.2.2.2 (fun N2 hN => ?_)
      refine z_istore (lv2 := [(5, .int (zi 1)), (0, .ref b), (1, .ref X), (2, .ref (X + 307)), (3, .ref (X + 322)), (4, .int (zi (i : Int)))]) C dL_law_1875 (by decide) rfl ?_
      refine z_aload_n C dL_law_1877 rfl 3 rfl ?_
      refine z_aload_n C dL_law_1878 rfl 1 rfl ?_
      refine z_iload C dL_law_1879 5 rfl ?_
      refine z_iconst C (zi 1) dL_law_1881 (by decide) ?_
      refine z_iadd C dL_law_1882 ?_
      refine z_sld C hLS (i + 1) (z_ix i 1) (by omega) dL_law_1883 ?_
      refine z_aload_n C dL_law_1884 rfl 1 rfl ?_
      refine z_iload C dL_law_1885 5 rfl ?_
      refine z_iconst C (zi 2) dL_law_1887 (by decide) ?_
      refine z_iadd C dL_law_1888 ?_
      refine z_sld C hLS (i + 2) (z_ix i 2) (by omega) dL_law_1889 ?_
      refine z_if_eq C 1897 dL_law_1890 (by decide) (fun _ => ?_) (fun q => absurd hb2 q)
      refine z_iconst C (zi 0) dL_law_1897 (by decide) ?_
      refine z_callVi (As := [.int (xs (i + 1)), .int (zi 0)]) (F0 := 2048) (L0 := 84000) C (mX10_setEvery l D Ca B En C.2.2.2.2.2.2.2.1 σ N2 (X + 307) (xs (i + 1)) (zi 0) (σ2, a) e2) hRm kY rfl kw_1640 kw_14 kw_1637 kw_1638 kw_1639 hyX10_setEvery (Nat.le_of_ble_eq_true rfl) (Nat.le_of_ble_eq_true rfl) rfl rfl (Nat.le_of_ble_eq_true rfl) dL_law_1898 ?_
      refine z_istore (lv2 := [(6, .int a), (5, .int (zi 1)), (0, .ref b), (1, .ref X), (2, .ref (X + 307)), (3, .ref (X + 322)), (4, .int (zi (i : Int)))]) C dL_law_1901 (by decide) rfl ?_
      refine z_aload_n C dL_law_1903 rfl 4 rfl ?_
      refine z_callVi (As := []) (F0 := 2048) (L0 := 84000) C (mX10_thrown l D Ca B En C.2.2.2.2.2.2.2.1 σ2 N2 (X + 307)  (σ2, (zi 1)) e3) hRm kY2 rfl kw_1365 kw_14 kw_1362 kw_1363 kw_1364 hyX10_thrown (Nat.le_of_ble_eq_true rfl) (Nat.le_of_ble_eq_true rfl) rfl rfl (Nat.le_of_ble_eq_true rfl) dL_law_1904 ?_
      refine z_iload C dL_law_1907 1 rfl ?_
      refine z_icmp_eq C 1914 dL_law_1909 (by decide) (fun _ => ?_) (fun q => absurd rfl q)
      refine z_iload C dL_law_1914 1 rfl ?_
      refine z_if_ne C 1931 dL_law_1916 (by decide) (fun _ => ?_) (fun q => absurd q (by decide))
      refine z_goto C 2295 dL_law_1931 (by decide) ?_
      refine z_sub [2, 3, 4, 5, 6] rfl ?_
      exact kk σ2 N2 hN hJ2
  · rcases j_setEvery hJ h0 hz (xs (i + 1)) true with ⟨σ1, σ2, a, e1, e2, e3, e4, k1, k2, hJ2⟩ | ⟨σ2, a, k, c, t1, e2, e3, hK, k2, hJ2⟩
    · have kY1 : (σ1.1 (X + 307)).1 = 14 := by rw [k1]; exact kY
      have kY2 : (σ2.1 (X + 307)).1 = 14 := by rw [k2]; exact kY
      refine z_aload_n C dL_law_1850 rfl 1 rfl ?_
      refine z_aload_n C dL_law_1851 rfl 0 rfl ?_
      refine z_iload C dL_law_1852 4 rfl ?_
      refine z_iconst C (zi 1) dL_law_1854 (by decide) ?_
      refine z_iadd C dL_law_1855 ?_
      refine z_sld C hLS (i + 1) (z_ix i 1) (by omega) dL_law_1856 ?_
      refine z_aload_n C dL_law_1857 rfl 0 rfl ?_
      refine z_iload C dL_law_1858 4 rfl ?_
      refine z_iconst C (zi 2) dL_law_1860 (by decide) ?_
      refine z_iadd C dL_law_1861 ?_
      refine z_sld C hLS (i + 2) (z_ix i 2) (by omega) dL_law_1862 ?_
      refine z_if_eq C 1870 dL_law_1863 (by decide) (fun q => absurd q hb2) (fun _ => ?_)
      refine z_iconst C (zi 1) dL_law_1866 (by decide) ?_
      refine z_goto C 1871 dL_law_1867 (by decide) ?_
      refine z_aload_n C dL_law_1871 rfl 3 rfl ?_
      refine z_callH (As := [.ref X, .int (xs (i + 1)), .int (zi 1), .ref (X + 322)]) (F0 := 2048) (L0 := 84000) C (mL_setEvery l D Ca B En C.2.2.2.2.2.2.2.1 σ N X (xs (i + 1)) (zi 1) (X + 322) (σ1, zi 0) e1) hRm0 kw_1192 kw_0 kw_1190 kw_1191 hyL_setEvery (Nat.le_of_ble_eq_true rfl) (Nat.le_of_ble_eq_true rfl) rfl rfl (Nat.le_of_ble_eq_true rfl) dL_law_1872 hRm.2.2.1 hRm.2.2.2 (fun N2 hN => ?_)
      refine z_istore (lv2 := [(5, .int (zi 0)), (0, .ref b), (1, .ref X), (2, .ref (X + 307)), (3, .ref (X + 322)), (4, .int (zi (i : Int)))]) C dL_law_1875 (by decide) rfl ?_
      refine z_aload_n C dL_law_1877 rfl 3 rfl ?_
      refine z_aload_n C dL_law_1878 rfl 1 rfl ?_
      refine z_iload C dL_law_1879 5 rfl ?_
      refine z_iconst C (zi 1) dL_law_1881 (by decide) ?_
      refine z_iadd C dL_law_1882 ?_
      refine z_sld C hLS (i + 1) (z_ix i 1) (by omega) dL_law_1883 ?_
      refine z_aload_n C dL_law_1884 rfl 1 rfl ?_
      refine z_iload C dL_law_1885 5 rfl ?_
      refine z_iconst C (zi 2) dL_law_1887 (by decide) ?_
      refine z_iadd C dL_law_1888 ?_
      refine z_sld C hLS (i + 2) (z_ix i 2) (by omega) dL_law_1889 ?_
      refine z_if_eq C 1897 dL_law_1890 (by decide) (fun q => absurd q hb2) (fun _ => ?_)
      refine z_iconst C (zi 1) dL_law_1893 (by decide) ?_
      refine z_goto C 1898 dL_law_1894 (by decide) ?_
      refine z_callVi (As := [.int (xs (i + 1)), .int (zi 1)]) (F0 := 2048) (L0 := 84000) C (mX10_setEvery l D Ca B En C.2.2.2.2.2.2.2.1 σ1 N2 (X + 307) (xs (i + 1)) (zi 1) (σ2, a) e2) hRm kY1 rfl kw_1640 kw_14 kw_1637 kw_1638 kw_1639 hyX10_setEvery (Nat.le_of_ble_eq_true rfl) (Nat.le_of_ble_eq_true rfl) rfl rfl (Nat.le_of_ble_eq_true rfl) dL_law_1898 ?_
      refine z_istore (lv2 := [(6, .int a), (5, .int (zi 0)), (0, .ref b), (1, .ref X), (2, .ref (X + 307)), (3, .ref (X + 322)), (4, .int (zi (i : Int)))]) C dL_law_1901 (by decide) rfl ?_
      refine z_aload_n C dL_law_1903 rfl 4 rfl ?_
      refine z_callVi (As := []) (F0 := 2048) (L0 := 84000) C (mX10_thrown l D Ca B En C.2.2.2.2.2.2.2.1 σ2 N2 (X + 307)  (σ2, (zi 0)) e3) hRm kY2 rfl kw_1365 kw_14 kw_1362 kw_1363 kw_1364 hyX10_thrown (Nat.le_of_ble_eq_true rfl) (Nat.le_of_ble_eq_true rfl) rfl rfl (Nat.le_of_ble_eq_true rfl) dL_law_1904 ?_
      refine z_iload C dL_law_1907 1 rfl ?_
      refine z_icmp_eq C 1914 dL_law_1909 (by decide) (fun _ => ?_) (fun q => absurd rfl q)
      refine z_iload C dL_law_1914 1 rfl ?_
      refine z_if_ne C 1931 dL_law_1916 (by decide) (fun q => absurd rfl q) (fun _ => ?_)
      refine z_aload_n C dL_law_1919 rfl 5 rfl ?_
      refine z_iconst C (zi 0) dL_law_1920 (by decide) ?_
      refine z_aJ C e4 dL_law_1921 ?_
      refine z_iload C dL_law_1922 0 rfl ?_
      refine z_i2l C dL_law_1924 ?_
      refine z_lcmp C dL_law_1925 ?_
      refine z_if_eq C 1931 dL_law_1926 (by decide) (fun _ => ?_) (fun q => absurd (lgc _) q)
      refine z_goto C 2295 dL_law_1931 (by decide) ?_
      refine z_sub [2, 3, 4, 5, 6] rfl ?_
      exact kk σ2 N2 hN hJ2
    · have kY2 : (σ2.1 (X + 307)).1 = 14 := by rw [k2]; exact kY
      obtain ⟨rfl, rfl⟩ := hK
      refine z_aload_n C dL_law_1850 rfl 1 rfl ?_
      refine z_aload_n C dL_law_1851 rfl 0 rfl ?_
      refine z_iload C dL_law_1852 4 rfl ?_
      refine z_iconst C (zi 1) dL_law_1854 (by decide) ?_
      refine z_iadd C dL_law_1855 ?_
      refine z_sld C hLS (i + 1) (z_ix i 1) (by omega) dL_law_1856 ?_
      refine z_aload_n C dL_law_1857 rfl 0 rfl ?_
      refine z_iload C dL_law_1858 4 rfl ?_
      refine z_iconst C (zi 2) dL_law_1860 (by decide) ?_
      refine z_iadd C dL_law_1861 ?_
      refine z_sld C hLS (i + 2) (z_ix i 2) (by omega) dL_law_1862 ?_
      refine z_if_eq C 1870 dL_law_1863 (by decide) (fun q => absurd q hb2) (fun _ => ?_)
      refine z_iconst C (zi 1) dL_law_1866 (by decide) ?_
      refine z_goto C 1871 dL_law_1867 (by decide) ?_
      refine z_aload_n C dL_law_1871 rfl 3 rfl ?_
      refine z_callH (As := [.ref X, .int (xs (i + 1)), .int (zi 1), .ref (X + 322)]) (F0 := 2048) (L0 := 84000) C (mxL_setEvery_2 l D Ca B En C.2.2.2.2.2.2.2.1 hT hT2 hl0 σ N X (xs (i + 1)) (zi 1) (X + 322) kX t1) hRm0 kw_1192 kw_0 kw_1190 kw_1191 hyL_setEvery (Nat.le_of_ble_eq_true rfl) (Nat.le_of_ble_eq_true rfl) rfl rfl (Nat.le_of_ble_eq_true rfl) dL_law_1872 hRm.2.2.1 hRm.2.2.2 (fun N2 hN => ?_)
      refine z_istore (lv2 := [(5, .int (zi 1)), (0, .ref b), (1, .ref X), (2, .ref (X + 307)), (3, .ref (X + 322)), (4, .int (zi (i : Int)))]) C dL_law_1875 (by decide) rfl ?_
      refine z_aload_n C dL_law_1877 rfl 3 rfl ?_
      refine z_aload_n C dL_law_1878 rfl 1 rfl ?_
      refine z_iload C dL_law_1879 5 rfl ?_
      refine z_iconst C (zi 1) dL_law_1881 (by decide) ?_
      refine z_iadd C dL_law_1882 ?_
      refine z_sld C hLS (i + 1) (z_ix i 1) (by omega) dL_law_1883 ?_
      refine z_aload_n C dL_law_1884 rfl 1 rfl ?_
      refine z_iload C dL_law_1885 5 rfl ?_
      refine z_iconst C (zi 2) dL_law_1887 (by decide) ?_
      refine z_iadd C dL_law_1888 ?_
      refine z_sld C hLS (i + 2) (z_ix i 2) (by omega) dL_law_1889 ?_
      refine z_if_eq C 1897 dL_law_1890 (by decide) (fun q => absurd q hb2) (fun _ => ?_)
      refine z_iconst C (zi 1) dL_law_1893 (by decide) ?_
      refine z_goto C 1898 dL_law_1894 (by decide) ?_
      refine z_callVi (As := [.int (xs (i + 1)), .int (zi 1)]) (F0 := 2048) (L0 := 84000) C (mX10_setEvery l D Ca B En C.2.2.2.2.2.2.2.1 σ N2 (X + 307) (xs (i + 1)) (zi 1) (σ2, a) e2) hRm kY rfl kw_1640 kw_14 kw_1637 kw_1638 kw_1639 hyX10_setEvery (Nat.le_of_ble_eq_true rfl) (Nat.le_of_ble_eq_true rfl) rfl rfl (Nat.le_of_ble_eq_true rfl) dL_law_1898 ?_
      refine z_istore (lv2 := [(6, .int a), (5, .int (zi 1)), (0, .ref b), (1, .ref X), (2, .ref (X + 307)), (3, .ref (X + 322)), (4, .int (zi (i : Int)))]) C dL_law_1901 (by decide) rfl ?_
      refine z_aload_n C dL_law_1903 rfl 4 rfl ?_
      refine z_callVi (As := []) (F0 := 2048) (L0 := 84000) C (mX10_thrown l D Ca B En C.2.2.2.2.2.2.2.1 σ2 N2 (X + 307)  (σ2, (zi 1)) e3) hRm kY2 rfl kw_1365 kw_14 kw_1362 kw_1363 kw_1364 hyX10_thrown (Nat.le_of_ble_eq_true rfl) (Nat.le_of_ble_eq_true rfl) rfl rfl (Nat.le_of_ble_eq_true rfl) dL_law_1904 ?_
      refine z_iload C dL_law_1907 1 rfl ?_
      refine z_icmp_eq C 1914 dL_law_1909 (by decide) (fun _ => ?_) (fun q => absurd rfl q)
      refine z_iload C dL_law_1914 1 rfl ?_
      refine z_if_ne C 1931 dL_law_1916 (by decide) (fun _ => ?_) (fun q => absurd q (by decide))
      refine z_goto C 2295 dL_law_1931 (by decide) ?_
      refine z_sub [2, 3, 4, 5, 6] rfl ?_
      exact kk σ2 N2 hN hJ2
