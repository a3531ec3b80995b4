/-! The law's cases 33, 34 -/
theorem dL_law_1934 : decode cL_law 1934 = .ok (.aload_n 1, 1) := by decide +kernel
theorem dL_law_1935 : decode cL_law 1935 = .ok (.aload_n 3, 1) := by decide +kernel
theorem dL_law_1936 : decode cL_law 1936 = .ok (.invokestatic 232, 3) := by decide +kernel
theorem dL_law_1939 : decode cL_law 1939 = .ok (.istore 5, 2) := by decide +kernel
theorem dL_law_1941 : decode cL_law 1941 = .ok (.aload_n 2, 1) := by decide +kernel
theorem dL_law_1942 : decode cL_law 1942 = .ok (.invokevirtual 235, 3) := by decide +kernel
theorem dL_law_1945 : decode cL_law 1945 = .ok (.istore 6, 2) := by decide +kernel
theorem dL_law_1947 : decode cL_law 1947 = .ok (.aload_n 2, 1) := by decide +kernel
theorem dL_law_1948 : decode cL_law 1948 = .ok (.invokevirtual 142, 3) := by decide +kernel
theorem dL_law_1951 : decode cL_law 1951 = .ok (.iload 5, 2) := by decide +kernel
theorem dL_law_1953 : decode cL_law 1953 = .ok (.if_icmp .eq 5, 3) := by decide +kernel
theorem dL_law_1956 : decode cL_law 1956 = .ok (.iconst 0, 1) := by decide +kernel
theorem dL_law_1957 : decode cL_law 1957 = .ok (.ireturn, 1) := by decide +kernel
theorem dL_law_1958 : decode cL_law 1958 = .ok (.iload 5, 2) := by decide +kernel
theorem dL_law_1960 : decode cL_law 1960 = .ok (.ifCond .ne 15, 3) := by decide +kernel
theorem dL_law_1963 : decode cL_law 1963 = .ok (.aload_n 3, 1) := by decide +kernel
theorem dL_law_1964 : decode cL_law 1964 = .ok (.iconst 0, 1) := by decide +kernel
theorem dL_law_1965 : decode cL_law 1965 = .ok (.laload, 1) := by decide +kernel
theorem dL_law_1966 : decode cL_law 1966 = .ok (.iload 6, 2) := by decide +kernel
theorem dL_law_1968 : decode cL_law 1968 = .ok (.i2l, 1) := by decide +kernel
theorem dL_law_1969 : decode cL_law 1969 = .ok (.lcmp, 1) := by decide +kernel
theorem dL_law_1970 : decode cL_law 1970 = .ok (.ifCond .eq 5, 3) := by decide +kernel
theorem dL_law_1973 : decode cL_law 1973 = .ok (.iconst 0, 1) := by decide +kernel
theorem dL_law_1974 : decode cL_law 1974 = .ok (.ireturn, 1) := by decide +kernel
theorem dL_law_1975 : decode cL_law 1975 = .ok (.goto 320, 3) := by decide +kernel
set_option maxRecDepth 100000 in
set_option maxHeartbeats 4000000 in
theorem law_33 {p : Program} {l : Launch} {e : Env} {R : Room} {s : State} {m : MethodId} {args : Array Value} {below : List Frame} {meth : Method} {c : Code} {cells slots : Nat} {Q : State → Prop} {D : va_G} {Ca : Nat → ClassId} {B : Nat} {En : State → Prop} {N b L X i : Nat} {xs : Nat → Int32} {z : Int} (C : zC p s m args meth c cL_law RL 9 D Ca B En) (hT : ∀ U, En U → zThr B U) (hT2 : ∀ U, En U → va_Nc (zEx 4) (zEx 1) U ∧ va_Nc (zEx 2) (zEx 1) U) (hl0 : l.stackTraces = false) (ev : zEv) (hZ : ∀ U : State, En U → zEnv ev B U) (hLS : zLS s B b L xs) (hi : i + 6 ≤ L) (hRm : zRm R 2048 84000 (cells + 1) (slots + 6)) (σ : zS) (hJ : J X z σ) (h0 : 0 ≤ z) (hz : z < 700000000)
    (kk : ∀ (σ2 : zS) (N2 : Nat), N ≤ N2 → J X (z + 501) σ2 → zW p l e R s m args below meth c (cells + 1) (slots + 6) Q D Ca B 9 σ2 N2 2295 (lawLv b X i) []) : zW p l e R s m args below meth c cells slots Q D Ca B 9 σ N 1934 (lawLv b X i) [] := by
  have hRm0 : zRm R 2048 84000 cells slots := ⟨hRm.1, hRm.2.1, Nat.le_of_succ_le hRm.2.2.1, Nat.le_trans (Nat.le_add_right slots 6) hRm.2.2.2⟩
  have kX := (J_k hJ).1
  have kY := (J_k hJ).2.1
  rcases j_undo hJ h0 hz  with ⟨σ1, σ2, a, e1, e2, e3, e4, k1, k2, hJ2⟩ | ⟨σ2, a, k, c, t1, e2, e3, hK, k2, hJ2⟩
  · have kY1 : (σ1.1 (X + 307)).1 = 14 := by rw [k1]; exact kY
    have kY2 : (σ2.1 (X + 307)).1 = 14 := by rw [k2]; exact kY
    refine z_aload_n C dL_law_1934 rfl 1 rfl ?_
    refine z_aload_n C dL_law_1935 rfl 3 rfl ?_
    refine z_callH (As := [.ref X, .ref (X + 322)]) (F0 := 2048) (L0 := 84000) C (mL_undo l D Ca B En C.2.2.2.2.2.2.2.1 σ N X (X + 322) (σ1, zi 0) e1) hRm0 kw_1199 kw_0 kw_1197 kw_1198 hyL_undo (Nat.le_of_ble_eq_true rfl) (Nat.le_of_ble_eq_true rfl) rfl rfl (Nat.le_of_ble_eq_true rfl) dL_law_1936 hRm.2.2.1 hRm.2.2.2 (fun N2 hN => ?_)
    refine z_istore (lv2 := [(5, .int (zi 0)), (0, .ref b), (1, .ref X), (2, .ref (X + 307)), (3, .ref (X + 322)), (4, .int (zi (i : Int)))]) C dL_law_1939 (by decide) rfl ?_
    refine z_aload_n C dL_law_1941 rfl 3 rfl ?_
    refine z_callVi (As := []) (F0 := 2048) (L0 := 84000) C (mX10_undo l D Ca B En C.2.2.2.2.2.2.2.1 σ1 N2 (X + 307)  (σ2, a) e2) hRm kY1 rfl kw_1369 kw_14 kw_1366 kw_1367 kw_1368 hyX10_undo (Nat.le_of_ble_eq_true rfl) (Nat.le_of_ble_eq_true rfl) rfl rfl (Nat.le_of_ble_eq_true rfl) dL_law_1942 ?_
    refine z_istore (lv2 := [(6, .int a), (5, .int (zi 0)), (0, .ref b), (1, .ref X), (2, .ref (X + 307)), (3, .ref (X + 322)), (4, .int (zi (i : Int)))]) C dL_law_1945 (by decide) rfl ?_
    refine z_aload_n C dL_law_1947 rfl 4 rfl ?_
    refine z_callVi (As := []) (F0 := 2048) (L0 := 84000) C (mX10_thrown l D Ca B En C.2.2.2.2.2.2.2.1 σ2 N2 (X + 307)  (σ2, (zi 0)) e3) hRm kY2 rfl kw_1365 kw_14 kw_1362 kw_1363 kw_1364 hyX10_thrown (Nat.le_of_ble_eq_true rfl) (Nat.le_of_ble_eq_true rfl) rfl rfl (Nat.le_of_ble_eq_true rfl) dL_law_1948 ?_
    refine z_iload C dL_law_1951 1 rfl ?_
    refine z_icmp_eq C 1958 dL_law_1953 (by decide) (fun _ => ?_) (fun q => absurd rfl q)
    refine z_iload C dL_law_1958 1 rfl ?_
    refine z_if_ne C 1975 dL_law_1960 (by decide) (fun q => absurd rfl q) (fun _ => ?_)
    refine z_aload_n C dL_law_1963 rfl 5 rfl ?_
    refine z_iconst C (zi 0) dL_law_1964 (by decide) ?_
    refine z_aJ C e4 dL_law_1965 ?_
    refine z_iload C dL_law_1966 0 rfl ?_
    refine z_i2l C dL_law_1968 ?_
    refine z_lcmp C dL_law_1969 ?_
    refine z_if_eq C 1975 dL_law_1970 (by decide) (fun _ => ?_) (fun q => absurd (lgc _) q)
    refine z_goto C 2295 dL_law_1975 (by decide) ?_
    refine z_sub [2, 3, 4, 5, 6] rfl ?_
    exact kk σ2 N2 hN hJ2
  · have kY2 : (σ2.1 (X + 307)).1 = 14 := by rw [k2]; exact kY
    obtain ⟨rfl, rfl⟩ := hK
    refine z_aload_n C dL_law_1934 rfl 1 rfl ?_
    refine z_aload_n C dL_law_1935 rfl 3 rfl ?_
    refine z_callH (As := [.ref X, .ref (X + 322)]) (F0 := 2048) (L0 := 84000) C (mxL_undo_3 l D Ca B En C.2.2.2.2.2.2.2.1 hT hT2 hl0 σ N X (X + 322) kX t1) hRm0 kw_1199 kw_0 kw_1197 kw_1198 hyL_undo (Nat.le_of_ble_eq_true rfl) (Nat.le_of_ble_eq_true rfl) rfl rfl (Nat.le_of_ble_eq_true rfl) dL_law_1936 hRm.2.2.1 hRm.2.2.2 (fun N2 hN => ?_)
    refine z_istore (lv2 := [(5, .int (zi 1)), (0, .ref b), (1, .ref X), (2, .ref (X + 307)), (3, .ref (X + 322)), (4, .int (zi (i : Int)))]) C dL_law_1939 (by decide) rfl ?_
    refine z_aload_n C dL_law_1941 rfl 3 rfl ?_
    refine z_callVi (As := []) (F0 := 2048) (L0 := 84000) C (mX10_undo l D Ca B En C.2.2.2.2.2.2.2.1 σ N2 (X + 307)  (σ2, a) e2) hRm kY rfl kw_1369 kw_14 kw_1366 kw_1367 kw_1368 hyX10_undo (Nat.le_of_ble_eq_true rfl) (Nat.le_of_ble_eq_true rfl) rfl rfl (Nat.le_of_ble_eq_true rfl) dL_law_1942 ?_
    refine z_istore (lv2 := [(6, .int a), (5, .int (zi 1)), (0, .ref b), (1, .ref X), (2, .ref (X + 307)), (3, .ref (X + 322)), (4, .int (zi (i : Int)))]) C dL_law_1945 (by decide) rfl ?_
    refine z_aload_n C dL_law_1947 rfl 4 rfl ?_
    refine z_callVi (As := []) (F0 := 2048) (L0 := 84000) C (mX10_thrown l D Ca B En C.2.2.2.2.2.2.2.1 σ2 N2 (X + 307)  (σ2, (zi 1)) e3) hRm kY2 rfl kw_1365 kw_14 kw_1362 kw_1363 kw_1364 hyX10_thrown (Nat.le_of_ble_eq_true rfl) (Nat.le_of_ble_eq_true rfl) rfl rfl (Nat.le_of_ble_eq_true rfl) dL_law_1948 ?_
    refine z_iload C dL_law_1951 1 rfl ?_
    refine z_icmp_eq C 1958 dL_law_1953 (by decide) (fun _ => ?_) (fun q => absurd rfl q)
    refine z_iload C dL_law_1958 1 rfl ?_
    refine z_if_ne C 1975 dL_law_1960 (by decide) (fun _ => ?_) (fun q => absurd q (by decide))
    refine z_goto C 2295 dL_law_1975 (by decide) ?_
    refine z_sub [2, 3, 4, 5, 6] rfl ?_
    exact kk σ2 N2 hN hJ2
theorem dL_law_1978 : decode cL_law 1978 = .ok (.aload_n 1, 1) := by decide +kernel
theorem dL_law_1979 : decode cL_law 1979 = .ok (.aload_n 0, 1) := by decide +kernel
theorem dL_law_1980 : decode cL_law 1980 = .ok (.iload 4, 2) := by decide +kernel
theorem dL_law_1982 : decode cL_law 1982 = .ok (.iconst 1, 1) := by decide +kernel
theorem dL_law_1983 : decode cL_law 1983 = .ok (.iadd, 1) := by decide +kernel
theorem dL_law_1984 : decode cL_law 1984 = .ok (.iaload, 1) := by decide +kernel
theorem dL_law_1985 : decode cL_law 1985 = .ok (.aload_n 3, 1) := by decide +kernel
theorem dL_law_1986 : decode cL_law 1986 = .ok (.invokestatic 236, 3) := by decide +kernel
theorem dL_law_1989 : decode cL_law 1989 = .ok (.istore 5, 2) := by decide +kernel
theorem dL_law_1991 : decode cL_law 1991 = .ok (.aload_n 2, 1) := by decide +kernel
theorem dL_law_1992 : decode cL_law 1992 = .ok (.aload_n 0, 1) := by decide +kernel
theorem dL_law_1993 : decode cL_law 1993 = .ok (.iload 4, 2) := by decide +kernel
theorem dL_law_1995 : decode cL_law 1995 = .ok (.iconst 1, 1) := by decide +kernel
theorem dL_law_1996 : decode cL_law 1996 = .ok (.iadd, 1) := by decide +kernel
theorem dL_law_1997 : decode cL_law 1997 = .ok (.iaload, 1) := by decide +kernel
theorem dL_law_1998 : decode cL_law 1998 = .ok (.invokevirtual 238, 3) := by decide +kernel
theorem dL_law_2001 : decode cL_law 2001 = .ok (.istore 6, 2) := by decide +kernel
theorem dL_law_2003 : decode cL_law 2003 = .ok (.aload_n 2, 1) := by decide +kernel
theorem dL_law_2004 : decode cL_law 2004 = .ok (.invokevirtual 142, 3) := by decide +kernel
theorem dL_law_2007 : decode cL_law 2007 = .ok (.iload 5, 2) := by decide +kernel
theorem dL_law_2009 : decode cL_law 2009 = .ok (.if_icmp .eq 5, 3) := by decide +kernel
theorem dL_law_2012 : decode cL_law 2012 = .ok (.iconst 0, 1) := by decide +kernel
theorem dL_law_2013 : decode cL_law 2013 = .ok (.ireturn, 1) := by decide +kernel
theorem dL_law_2014 : decode cL_law 2014 = .ok (.iload 5, 2) := by decide +kernel
theorem dL_law_2016 : decode cL_law 2016 = .ok (.ifCond .ne 15, 3) := by decide +kernel
theorem dL_law_2019 : decode cL_law 2019 = .ok (.aload_n 3, 1) := by decide +kernel
theorem dL_law_2020 : decode cL_law 2020 = .ok (.iconst 0, 1) := by decide +kernel
theorem dL_law_2021 : decode cL_law 2021 = .ok (.laload, 1) := by decide +kernel
theorem dL_law_2022 : decode cL_law 2022 = .ok (.iload 6, 2) := by decide +kernel
theorem dL_law_2024 : decode cL_law 2024 = .ok (.i2l, 1) := by decide +kernel
theorem dL_law_2025 : decode cL_law 2025 = .ok (.lcmp, 1) := by decide +kernel
theorem dL_law_2026 : decode cL_law 2026 = .ok (.ifCond .eq 5, 3) := by decide +kernel
theorem dL_law_2029 : decode cL_law 2029 = .ok (.iconst 0, 1) := by decide +kernel
theorem dL_law_2030 : decode cL_law 2030 = .ok (.ireturn, 1) := by decide +kernel
theorem dL_law_2031 : decode cL_law 2031 = .ok (.goto 264, 3) := by decide +kernel
set_option maxRecDepth 100000 in
set_option maxHeartbeats 4000000 in
theorem law_34 {p : Program} {l : Launch} {e : Env} {R : Room} {s : State} {m : MethodId} {args : Array Value} {below : List Frame} {meth : Method} {c : Code} {cells slots : Nat} {Q : State → Prop} {D : va_G} {Ca : Nat → ClassId} {B : Nat} {En : State → Prop} {N b L X i : Nat} {xs : Nat → Int32} {z : Int} (C : zC p s m args meth c cL_law RL 9 D Ca B En) (hT : ∀ U, En U → zThr B U) (hT2 : ∀ U, En U → va_Nc (zEx 4) (zEx 1) U ∧ va_Nc (zEx 2) (zEx 1) U) (hl0 : l.stackTraces = false) (ev : zEv) (hZ : ∀ U : State, En U → zEnv ev B U) (hLS : zLS s B b L xs) (hi : i + 6 ≤ L) (hRm : zRm R 2048 84000 (cells + 1) (slots + 6)) (σ : zS) (hJ : J X z σ) (h0 : 0 ≤ z) (hz : z < 700000000)
    (kk : ∀ (σ2 : zS) (N2 : Nat), N ≤ N2 → J X (z + 501) σ2 → zW p l e R s m args below meth c (cells + 1) (slots + 6) Q D Ca B 9 σ2 N2 2295 (lawLv b X i) []) : zW p l e R s m args below meth c cells slots Q D Ca B 9 σ N 1978 (lawLv b X i) [] := by
  have hRm0 : zRm R 2048 84000 cells slots := ⟨hRm.1, hRm.2.1, Nat.le_of_succ_le hRm.2.2.1, Nat.le_trans (Nat.le_add_right slots 6) hRm.2.2.2⟩
  have kX := (J_k hJ).1
  have kY := (J_k hJ).2.1
  rcases j_completesIn hJ h0 hz (xs (i + 1)) with ⟨σ1, σ2, a, e1, e2, e3, e4, k1, k2, hJ2⟩ | ⟨σ2, a, k, c, t1, e2, e3, hK, k2, hJ2⟩
  · have kY1 : (σ1.1 (X + 307)).1 = 14 := by rw [k1]; exact kY
    have kY2 : (σ2.1 (X + 307)).1 = 14 := by rw [k2]; exact kY
    refine z_aload_n C dL_law_1978 rfl 1 rfl ?_
    refine z_aload_n C dL_law_1979 rfl 0 rfl ?_
    refine z_iload C dL_law_1980 4 rfl ?_
    refine z_iconst C (zi 1) dL_law_1982 (by decide) ?_
    refine z_iadd C dL_law_1983 ?_
    refine z_sld C hLS (i + 1) (z_ix i 1) (by omega) dL_law_1984 ?_
    refine z_aload_n C dL_law_1985 rfl 3 rfl ?_
    refine z_callH (As := [.ref X, .int (xs (i + 1)), .ref (X + 322)]) (F0 := 2048) (L0 := 84000) C (mL_completesIn l D Ca B En C.2.2.2.2.2.2.2.1 σ N X (xs (i + 1)) (X + 322) (σ1, zi 0) e1) hRm0 kw_1210 kw_0 kw_1208 kw_1209 hyL_completesIn (Nat.le_of_ble_eq_true rfl) (Nat.le_of_ble_eq_true rfl) rfl rfl (Nat.le_of_ble_eq_true rfl) dL_law_1986 hRm.2.2.1 hRm.2.2.2 (fun N2 hN => ?_)
    refine z_istore (lv2 := [(5, .int (zi 0)), (0, .ref b), (1, .ref X), (2, .ref (X + 307)), (3, .ref (X + 322)), (4, .int (zi (i : Int)))]) C dL_law_1989 (by decide) rfl ?_
    refine z_aload_n C dL_law_1991 rfl 3 rfl ?_
    refine z_aload_n C dL_law_1992 rfl 1 rfl ?_
    refine z_iload C dL_law_1993 5 rfl ?_
    refine z_iconst C (zi 1) dL_law_1995 (by decide) ?_
    refine z_iadd C dL_law_1996 ?_
    refine z_sld C hLS (i + 1) (z_ix i 1) (by omega) dL_law_1997 ?_
    refine z_callVi (As := [.int (xs (i + 1))]) (F0 := 2048) (L0 := 84000) C (mX10_completesIn l D Ca B En C.2.2.2.2.2.2.2.1 σ1 N2 (X + 307) (xs (i + 1)) (σ2, a) e2) hRm kY1 rfl kw_1645 kw_14 kw_1642 kw_1643 kw_1644 hyX10_completesIn (Nat.le_of_ble_eq_true rfl) (Nat.le_of_ble_eq_true rfl) rfl rfl (Nat.le_of_ble_eq_true rfl) dL_law_1998 ?_
    refine z_istore (lv2 := [(6, .int a), (5, .int (zi 0)), (0, .ref b), (1, .ref X), (2, .ref (X + 307)), (3, .ref (X + 322)), (4, .int (zi (i : Int)))]) C dL_law_2001 (by decide) rfl ?_
    refine z_aload_n C dL_law_2003 rfl 4 rfl ?_
    refine z_callVi (As := []) (F0 := 2048) (L0 := 84000) C (mX10_thrown l D Ca B En C.2.2.2.2.2.2.2.1 σ2 N2 (X + 307)  (σ2, (zi 0)) e3) hRm kY2 rfl kw_1365 kw_14 kw_1362 kw_1363 kw_1364 hyX10_thrown (Nat.le_of_ble_eq_true rfl) (Nat.le_of_ble_eq_true rfl) rfl rfl (Nat.le_of_ble_eq_true rfl) dL_law_2004 ?_
    refine z_iload C dL_law_2007 1 rfl ?_
    refine z_icmp_eq C 2014 dL_law_2009 (by decide) (fun _ => ?_) (fun q => absurd rfl q)
    refine z_iload C dL_law_2014 1 rfl ?_
    refine z_if_ne C 2031 dL_law_2016 (by decide) (fun q => absurd rfl q) (fun _ => ?_)
    refine z_aload_n C dL_law_2019 rfl 5 rfl ?_
    refine z_iconst C (zi 0) dL_law_2020 (by decide) ?_
    refine z_aJ C e4 dL_law_2021 ?_
    refine z_iload C dL_law_2022 0 rfl ?_
    refine z_i2l C dL_law_2024 ?_
    refine z_lcmp C dL_law_2025 ?_
    refine z_if_eq C 2031 dL_law_2026 (by decide) (fun _ => ?_) (fun q => absurd (lgc _) q)
    refine z_goto C 2295 dL_law_2031 (by decide) ?_
    refine z_sub [2, 3, 4, 5, 6] rfl ?_
    exact kk σ2 N2 hN hJ2
  · have kY2 : (σ2.1 (X + 307)).1 = 14 := by rw [k2]; exact kY
    obtain ⟨rfl, rfl⟩ := hK
    refine z_aload_n C dL_law_1978 rfl 1 rfl ?_
    refine z_aload_n C dL_law_1979 rfl 0 rfl ?_
    refine z_iload C dL_law_1980 4 rfl ?_
    refine z_iconst C (zi 1) dL_law_1982 (by decide) ?_
    refine z_iadd C dL_law_1983 ?_
    refine z_sld C hLS (i + 1) (z_ix i 1) (by omega) dL_law_1984 ?_
    refine z_aload_n C dL_law_1985 rfl 3 rfl ?_
    refine z_callH (As := [.ref X, .int (xs (i + 1)), .ref (X + 322)]) (F0 := 2048) (L0 := 84000) C (mxL_completesIn_2 l D Ca B En C.2.2.2.2.2.2.2.1 hT hT2 hl0 σ N X (xs (i + 1)) (X + 322) kX t1) hRm0 kw_1210 kw_0 kw_1208 kw_1209 hyL_completesIn (Nat.le_of_ble_eq_true rfl) (Nat.le_of_ble_eq_true rfl) rfl rfl (Nat.le_of_ble_eq_true rfl) dL_law_1986 hRm.2.2.1 hRm.2.2.2 (fun N2 hN => ?_)
    refine z_istore (lv2 := [(5, .int (zi 1)), (0, .ref b), (1, .ref X), (2, .ref (X + 307)), (3, .ref (X + 322)), (4, .int (zi (i : Int)))]) C dL_law_1989 (by decide) rfl ?_
    refine z_aload_n C dL_law_1991 rfl 3 rfl ?_
    refine z_aload_n C dL_law_1992 rfl 1 rfl ?_
    refine z_iload C dL_law_1993 5 rfl ?_
    refine z_iconst C (zi 1) dL_law_1995 (by decide) ?_
    refine z_iadd C dL_law_1996 ?_
    refine z_sld C hLS (i + 1) (z_ix i 1) (by omega) dL_law_1997 ?_
    refine z_callVi (As := [.int (xs (i + 1))]) (F0 := 2048) (L0 := 84000) C (mX10_completesIn l D Ca B En C.2.2.2.2.2.2.2.1 σ N2 (X + 307) (xs (i + 1)) (σ2, a) e2) hRm kY rfl kw_1645 kw_14 kw_1642 kw_1643 kw_1644 hyX10_completesIn (Nat.le_of_ble_eq_true rfl) (Nat.le_of_ble_eq_true rfl) rfl rfl (Nat.le_of_ble_eq_true rfl) dL_law_1998 ?_
    refine z_istore (lv2 := [(6, .int a), (5, .int (zi 1)), (0, .ref b), (1, .ref X), (2, .ref (X + 307)), (3, .ref (X + 322)), (4, .int (zi (i : Int)))]) C dL_law_2001 (by decide) rfl ?_
    refine z_aload_n C dL_law_2003 rfl 4 rfl ?_
    refine z_callVi (As := []) (F0 := 2048) (L0 := 84000) C (mX10_thrown l D Ca B En C.2.2.2.2.2.2.2.1 σ2 N2 (X + 307)  (σ2, (zi 1)) e3) hRm kY2 rfl kw_1365 kw_14 kw_1362 kw_1363 kw_1364 hyX10_thrown (Nat.le_of_ble_eq_true rfl) (Nat.le_of_ble_eq_true rfl) rfl rfl (Nat.le_of_ble_eq_true rfl) dL_law_2004 ?_
    refine z_iload C dL_law_2007 1 rfl ?_
    refine z_icmp_eq C 2014 dL_law_2009 (by decide) (fun _ => ?_) (fun q => absurd rfl q)
    refine z_iload C dL_law_2014 1 rfl ?_
    refine z_if_ne C 2031 dL_law_2016 (by decide) (fun _ => ?_) (fun q => absurd q (by decide))
    refine z_goto C 2295 dL_law_2031 (by decide) ?_
    refine z_sub [2, 3, 4, 5, 6] rfl ?_
    exact kk σ2 N2 hN hJ2
