/-! The law's cases 38, 39 -/
theorem dL_law_2101 : decode cL_law 2101 = .ok (.aload_n 1, 1) := by decide +kernel
theorem dL_law_2102 : decode cL_law 2102 = .ok (.aload_n 0, 1) := by decide +kernel
theorem dL_law_2103 : decode cL_law 2103 = .ok (.iload 4, 2) := by decide +kernel
theorem dL_law_2105 : decode cL_law 2105 = .ok (.iconst 1, 1) := by decide +kernel
theorem dL_law_2106 : decode cL_law 2106 = .ok (.iadd, 1) := by decide +kernel
theorem dL_law_2107 : decode cL_law 2107 = .ok (.iaload, 1) := by decide +kernel
theorem dL_law_2108 : decode cL_law 2108 = .ok (.aload_n 3, 1) := by decide +kernel
theorem dL_law_2109 : decode cL_law 2109 = .ok (.invokestatic 251, 3) := by decide +kernel
theorem dL_law_2112 : decode cL_law 2112 = .ok (.istore 5, 2) := by decide +kernel
theorem dL_law_2114 : decode cL_law 2114 = .ok (.aload_n 2, 1) := by decide +kernel
theorem dL_law_2115 : decode cL_law 2115 = .ok (.aload_n 0, 1) := by decide +kernel
theorem dL_law_2116 : decode cL_law 2116 = .ok (.iload 4, 2) := by decide +kernel
theorem dL_law_2118 : decode cL_law 2118 = .ok (.iconst 1, 1) := by decide +kernel
theorem dL_law_2119 : decode cL_law 2119 = .ok (.iadd, 1) := by decide +kernel
theorem dL_law_2120 : decode cL_law 2120 = .ok (.iaload, 1) := by decide +kernel
theorem dL_law_2121 : decode cL_law 2121 = .ok (.invokevirtual 253, 3) := by decide +kernel
theorem dL_law_2124 : decode cL_law 2124 = .ok (.istore 6, 2) := by decide +kernel
theorem dL_law_2126 : decode cL_law 2126 = .ok (.aload_n 2, 1) := by decide +kernel
theorem dL_law_2127 : decode cL_law 2127 = .ok (.invokevirtual 142, 3) := by decide +kernel
theorem dL_law_2130 : decode cL_law 2130 = .ok (.iload 5, 2) := by decide +kernel
theorem dL_law_2132 : decode cL_law 2132 = .ok (.if_icmp .eq 5, 3) := by decide +kernel
theorem dL_law_2135 : decode cL_law 2135 = .ok (.iconst 0, 1) := by decide +kernel
theorem dL_law_2136 : decode cL_law 2136 = .ok (.ireturn, 1) := by decide +kernel
theorem dL_law_2137 : decode cL_law 2137 = .ok (.iload 5, 2) := by decide +kernel
theorem dL_law_2139 : decode cL_law 2139 = .ok (.ifCond .ne 15, 3) := by decide +kernel
theorem dL_law_2142 : decode cL_law 2142 = .ok (.aload_n 3, 1) := by decide +kernel
theorem dL_law_2143 : decode cL_law 2143 = .ok (.iconst 0, 1) := by decide +kernel
theorem dL_law_2144 : decode cL_law 2144 = .ok (.laload, 1) := by decide +kernel
theorem dL_law_2145 : decode cL_law 2145 = .ok (.iload 6, 2) := by decide +kernel
theorem dL_law_2147 : decode cL_law 2147 = .ok (.i2l, 1) := by decide +kernel
theorem dL_law_2148 : decode cL_law 2148 = .ok (.lcmp, 1) := by decide +kernel
theorem dL_law_2149 : decode cL_law 2149 = .ok (.ifCond .eq 5, 3) := by decide +kernel
theorem dL_law_2152 : decode cL_law 2152 = .ok (.iconst 0, 1) := by decide +kernel
theorem dL_law_2153 : decode cL_law 2153 = .ok (.ireturn, 1) := by decide +kernel
theorem dL_law_2154 : decode cL_law 2154 = .ok (.goto 141, 3) := by decide +kernel
set_option maxRecDepth 100000 in
set_option maxHeartbeats 4000000 in
theorem law_38 {p : Program} {l : Launch} {e : Env} {R : Room} {s : State} {m : MethodId} {args : Array Value} {below : List Frame} {meth : Method} {c : Code} {cells slots : Nat} {Q : State → Prop} {D : va_G} {Ca : Nat → ClassId} {B : Nat} {En : State → Prop} {N b L X i : Nat} {xs : Nat → Int32} {z : Int} (C : zC p s m args meth c cL_law RL 9 D Ca B En) (hT : ∀ U, En U → zThr B U) (hT2 : ∀ U, En U → va_Nc (zEx 4) (zEx 1) U ∧ va_Nc (zEx 2) (zEx 1) U) (hl0 : l.stackTraces = false) (ev : zEv) (hZ : ∀ U : State, En U → zEnv ev B U) (hLS : zLS s B b L xs) (hi : i + 6 ≤ L) (hRm : zRm R 2048 84000 (cells + 1) (slots + 6)) (σ : zS) (hJ : J X z σ) (h0 : 0 ≤ z) (hz : z < 700000000)
    (kk : ∀ (σ2 : zS) (N2 : Nat), N ≤ N2 → J X (z + 501) σ2 → zW p l e R s m args below meth c (cells + 1) (slots + 6) Q D Ca B 9 σ2 N2 2295 (lawLv b X i) []) : zW p l e R s m args below meth c cells slots Q D Ca B 9 σ N 2101 (lawLv b X i) [] := by
  have hRm0 : zRm R 2048 84000 cells slots := ⟨hRm.1, hRm.2.1, Nat.le_of_succ_le hRm.2.2.1, Nat.le_trans (Nat.le_add_right slots 6) hRm.2.2.2⟩
  have kX := (J_k hJ).1
  have kY := (J_k hJ).2.1
  rcases j_bestInstances hJ h0 hz (xs (i + 1)) with ⟨σ1, σ2, a, e1, e2, e3, e4, k1, k2, hJ2⟩ | ⟨σ2, a, k, c, t1, e2, e3, hK, k2, hJ2⟩
  · have kY1 : (σ1.1 (X + 307)).1 = 14 := by rw [k1]; exact kY
    have kY2 : (σ2.1 (X + 307)).1 = 14 := by rw [k2]; exact kY
    refine z_aload_n C dL_law_2101 rfl 1 rfl ?_
    refine z_aload_n C dL_law_2102 rfl 0 rfl ?_
    refine z_iload C dL_law_2103 4 rfl ?_
    refine z_iconst C (zi 1) dL_law_2105 (by decide) ?_
    refine z_iadd C dL_law_2106 ?_
    refine z_sld C hLS (i + 1) (z_ix i 1) (by omega) dL_law_2107 ?_
    refine z_aload_n C dL_law_2108 rfl 3 rfl ?_
    refine z_callH (As := [.ref X, .int (xs (i + 1)), .ref (X + 322)]) (F0 := 2048) (L0 := 84000) C (mL_bestInstances l D Ca B En C.2.2.2.2.2.2.2.1 σ N X (xs (i + 1)) (X + 322) (σ1, zi 0) e1) hRm0 kw_1217 kw_0 kw_1215 kw_1216 hyL_bestInstances (Nat.le_of_ble_eq_true rfl) (Nat.le_of_ble_eq_true rfl) rfl rfl (Nat.le_of_ble_eq_true rfl) dL_law_2109 hRm.2.2.1 hRm.2.2.2 (fun N2 hN => ?_)
    refine z_istore (lv2 := [(5, .int (zi 0)), (0, .ref b), (1, .ref X), (2, .ref (X + 307)), (3, .ref (X + 322)), (4, .int (zi (i : Int)))]) C dL_law_2112 (by decide) rfl ?_
    refine z_aload_n C dL_law_2114 rfl 3 rfl ?_
    refine z_aload_n C dL_law_2115 rfl 1 rfl ?_
    refine z_iload C dL_law_2116 5 rfl ?_
    refine z_iconst C (zi 1) dL_law_2118 (by decide) ?_
    refine z_iadd C dL_law_2119 ?_
    refine z_sld C hLS (i + 1) (z_ix i 1) (by omega) dL_law_2120 ?_
    refine z_callVi (As := [.int (xs (i + 1))]) (F0 := 2048) (L0 := 84000) C (mX10_bestInstances l D Ca B En C.2.2.2.2.2.2.2.1 σ1 N2 (X + 307) (xs (i + 1)) (σ2, a) e2) hRm kY1 rfl kw_1685 kw_14 kw_1682 kw_1683 kw_1684 hyX10_bestInstances (Nat.le_of_ble_eq_true rfl) (Nat.le_of_ble_eq_true rfl) rfl rfl (Nat.le_of_ble_eq_true rfl) dL_law_2121 ?_
    refine z_istore (lv2 := [(6, .int a), (5, .int (zi 0)), (0, .ref b), (1, .ref X), (2, .ref (X + 307)), (3, .ref (X + 322)), (4, .int (zi (i : Int)))]) C dL_law_2124 (by decide) rfl ?_
    refine z_aload_n C dL_law_2126 rfl 4 rfl ?_
    refine z_callVi (As := []) (F0 := 2048) (L0 := 84000) C (mX10_thrown l D Ca B En C.2.2.2.2.2.2.2.1 σ2 N2 (X + 307)  (σ2, (zi 0)) e3) hRm kY2 rfl kw_1365 kw_14 kw_1362 kw_1363 kw_1364 hyX10_thrown (Nat.le_of_ble_eq_true rfl) (Nat.le_of_ble_eq_true rfl) rfl rfl (Nat.le_of_ble_eq_true rfl) dL_law_2127 ?_
    refine z_iload C dL_law_2130 1 rfl ?_
    refine z_icmp_eq C 2137 dL_law_2132 (by decide) (fun _ => ?_) (fun q => absurd rfl q)
    refine z_iload C dL_law_2137 1 rfl ?_
    refine z_if_ne C 2154 dL_law_2139 (by decide) (fun q => absurd rfl q) (fun _ => ?_)
    refine z_aload_n C dL_law_2142 rfl 5 rfl ?_
    refine z_iconst C (zi 0) dL_law_2143 (by decide) ?_
    refine z_aJ C e4 dL_law_2144 ?_
    refine z_iload C dL_law_2145 0 rfl ?_
    refine z_i2l C dL_law_2147 ?_
    refine z_lcmp C dL_law_2148 ?_
    refine z_if_eq C 2154 dL_law_2149 (by decide) (fun _ => ?_) (fun q => absurd (lgc _) q)
    refine z_goto C 2295 dL_law_2154 (by decide) ?_
    refine z_sub [2, 3, 4, 5, 6] rfl ?_
    exact kk σ2 N2 hN hJ2
  · have kY2 : (σ2.1 (X + 307)).1 = 14 := by rw [k2]; exact kY
    obtain ⟨rfl, rfl⟩ := hK
    refine z_aload_n C dL_law_2101 rfl 1 rfl ?_
    refine z_aload_n C dL_law_2102 rfl 0 rfl ?_
    refine z_iload C dL_law_2103 4 rfl ?_
    refine z_iconst C (zi 1) dL_law_2105 (by decide) ?_
    refine z_iadd C dL_law_2106 ?_
    refine z_sld C hLS (i + 1) (z_ix i 1) (by omega) dL_law_2107 ?_
    refine z_aload_n C dL_law_2108 rfl 3 rfl ?_
    refine z_callH (As := [.ref X, .int (xs (i + 1)), .ref (X + 322)]) (F0 := 2048) (L0 := 84000) C (mxL_bestInstances_2 l D Ca B En C.2.2.2.2.2.2.2.1 hT hT2 hl0 σ N X (xs (i + 1)) (X + 322) kX t1) hRm0 kw_1217 kw_0 kw_1215 kw_1216 hyL_bestInstances (Nat.le_of_ble_eq_true rfl) (Nat.le_of_ble_eq_true rfl) rfl rfl (Nat.le_of_ble_eq_true rfl) dL_law_2109 hRm.2.2.1 hRm.2.2.2 (fun N2 hN => ?_)
    refine z_istore (lv2 := [(5, .int (zi 1)), (0, .ref b), (1, .ref X), (2, .ref (X + 307)), (3, .ref (X + 322)), (4, .int (zi (i : Int)))]) C dL_law_2112 (by decide) rfl ?_
    refine z_aload_n C dL_law_2114 rfl 3 rfl ?_
    refine z_aload_n C dL_law_2115 rfl 1 rfl ?_
    refine z_iload C dL_law_2116 5 rfl ?_
    refine z_iconst C (zi 1) dL_law_2118 (by decide) ?_
    refine z_iadd C dL_law_2119 ?_
    refine z_sld C hLS (i + 1) (z_ix i 1) (by omega) dL_law_2120 ?_
    refine z_callVi (As := [.int (xs (i + 1))]) (F0 := 2048) (L0 := 84000) C (mX10_bestInstances l D Ca B En C.2.2.2.2.2.2.2.1 σ N2 (X + 307) (xs (i + 1)) (σ2, a) e2) hRm kY rfl kw_1685 kw_14 kw_1682 kw_1683 kw_1684 hyX10_bestInstances (Nat.le_of_ble_eq_true rfl) (Nat.le_of_ble_eq_true rfl) rfl rfl (Nat.le_of_ble_eq_true rfl) dL_law_2121 ?_
    refine z_istore (lv2 := [(6, .int a), (5, .int (zi 1)), (0, .ref b), (1, .ref X), (2, .ref (X + 307)), (3, .ref (X + 322)), (4, .int (zi (i : Int)))]) C dL_law_2124 (by decide) rfl ?_
    refine z_aload_n C dL_law_2126 rfl 4 rfl ?_
    refine z_callVi (As := []) (F0 := 2048) (L0 := 84000) C (mX10_thrown l D Ca B En C.2.2.2.2.2.2.2.1 σ2 N2 (X + 307)  (σ2, (zi 1)) e3) hRm kY2 rfl kw_1365 kw_14 kw_1362 kw_1363 kw_1364 hyX10_thrown (Nat.le_of_ble_eq_true rfl) (Nat.le_of_ble_eq_true rfl) rfl rfl (Nat.le_of_ble_eq_true rfl) dL_law_2127 ?_
    refine z_iload C dL_law_2130 1 rfl ?_
    refine z_icmp_eq C 2137 dL_law_2132 (by decide) (fun _ => ?_) (fun q => absurd rfl q)
    refine z_iload C dL_law_2137 1 rfl ?_
    refine z_if_ne C 2154 dL_law_2139 (by decide) (fun _ => ?_) (fun q => absurd q (by decide))
    refine z_goto C 2295 dL_law_2154 (by decide) ?_
    refine z_sub [2, 3, 4, 5, 6] rfl ?_
    exact kk σ2 N2 hN hJ2
theorem dL_law_2157 : decode cL_law 2157 = .ok (.aload_n 1, 1) := by decide +kernel
theorem dL_law_2158 : decode cL_law 2158 = .ok (.aload_n 0, 1) := by decide +kernel
theorem dL_law_2159 : decode cL_law 2159 = .ok (.iload 4, 2) := by decide +kernel
theorem dL_law_2161 : decode cL_law 2161 = .ok (.iconst 1, 1) := by decide +kernel
theorem dL_law_2162 : decode cL_law 2162 = .ok (.iadd, 1) := by decide +kernel
theorem dL_law_2163 : decode cL_law 2163 = .ok (.iaload, 1) := by decide +kernel
theorem dL_law_2164 : decode cL_law 2164 = .ok (.aload_n 3, 1) := by decide +kernel
theorem dL_law_2165 : decode cL_law 2165 = .ok (.invokestatic 254, 3) := by decide +kernel
theorem dL_law_2168 : decode cL_law 2168 = .ok (.istore 5, 2) := by decide +kernel
theorem dL_law_2170 : decode cL_law 2170 = .ok (.aload_n 2, 1) := by decide +kernel
theorem dL_law_2171 : decode cL_law 2171 = .ok (.aload_n 0, 1) := by decide +kernel
theorem dL_law_2172 : decode cL_law 2172 = .ok (.iload 4, 2) := by decide +kernel
theorem dL_law_2174 : decode cL_law 2174 = .ok (.iconst 1, 1) := by decide +kernel
theorem dL_law_2175 : decode cL_law 2175 = .ok (.iadd, 1) := by decide +kernel
theorem dL_law_2176 : decode cL_law 2176 = .ok (.iaload, 1) := by decide +kernel
theorem dL_law_2177 : decode cL_law 2177 = .ok (.invokevirtual 256, 3) := by decide +kernel
theorem dL_law_2180 : decode cL_law 2180 = .ok (.istore 6, 2) := by decide +kernel
theorem dL_law_2182 : decode cL_law 2182 = .ok (.aload_n 2, 1) := by decide +kernel
theorem dL_law_2183 : decode cL_law 2183 = .ok (.invokevirtual 142, 3) := by decide +kernel
theorem dL_law_2186 : decode cL_law 2186 = .ok (.iload 5, 2) := by decide +kernel
theorem dL_law_2188 : decode cL_law 2188 = .ok (.if_icmp .eq 5, 3) := by decide +kernel
theorem dL_law_2191 : decode cL_law 2191 = .ok (.iconst 0, 1) := by decide +kernel
theorem dL_law_2192 : decode cL_law 2192 = .ok (.ireturn, 1) := by decide +kernel
theorem dL_law_2193 : decode cL_law 2193 = .ok (.iload 5, 2) := by decide +kernel
theorem dL_law_2195 : decode cL_law 2195 = .ok (.ifCond .ne 15, 3) := by decide +kernel
theorem dL_law_2198 : decode cL_law 2198 = .ok (.aload_n 3, 1) := by decide +kernel
theorem dL_law_2199 : decode cL_law 2199 = .ok (.iconst 0, 1) := by decide +kernel
theorem dL_law_2200 : decode cL_law 2200 = .ok (.laload, 1) := by decide +kernel
theorem dL_law_2201 : decode cL_law 2201 = .ok (.iload 6, 2) := by decide +kernel
theorem dL_law_2203 : decode cL_law 2203 = .ok (.i2l, 1) := by decide +kernel
theorem dL_law_2204 : decode cL_law 2204 = .ok (.lcmp, 1) := by decide +kernel
theorem dL_law_2205 : decode cL_law 2205 = .ok (.ifCond .eq 5, 3) := by decide +kernel
theorem dL_law_2208 : decode cL_law 2208 = .ok (.iconst 0, 1) := by decide +kernel
theorem dL_law_2209 : decode cL_law 2209 = .ok (.ireturn, 1) := by decide +kernel
theorem dL_law_2210 : decode cL_law 2210 = .ok (.goto 85, 3) := by decide +kernel
set_option maxRecDepth 100000 in
set_option maxHeartbeats 4000000 in
theorem law_39 {p : Program} {l : Launch} {e : Env} {R : Room} {s : State} {m : MethodId} {args : Array Value} {below : List Frame} {meth : Method} {c : Code} {cells slots : Nat} {Q : State → Prop} {D : va_G} {Ca : Nat → ClassId} {B : Nat} {En : State → Prop} {N b L X i : Nat} {xs : Nat → Int32} {z : Int} (C : zC p s m args meth c cL_law RL 9 D Ca B En) (hT : ∀ U, En U → zThr B U) (hT2 : ∀ U, En U → va_Nc (zEx 4) (zEx 1) U ∧ va_Nc (zEx 2) (zEx 1) U) (hl0 : l.stackTraces = false) (ev : zEv) (hZ : ∀ U : State, En U → zEnv ev B U) (hLS : zLS s B b L xs) (hi : i + 6 ≤ L) (hRm : zRm R 2048 84000 (cells + 1) (slots + 6)) (σ : zS) (hJ : J X z σ) (h0 : 0 ≤ z) (hz : z < 700000000)
    (kk : ∀ (σ2 : zS) (N2 : Nat), N ≤ N2 → J X (z + 501) σ2 → zW p l e R s m args below meth c (cells + 1) (slots + 6) Q D Ca B 9 σ2 N2 2295 (lawLv b X i) []) : zW p l e R s m args below meth c cells slots Q D Ca B 9 σ N 2157 (lawLv b X i) [] := by
  have hRm0 : zRm R 2048 84000 cells slots := ⟨hRm.1, hRm.2.1, Nat.le_of_succ_le hRm.2.2.1, Nat.le_trans (Nat.le_add_right slots 6) hRm.2.2.2⟩
  have kX := (J_k hJ).1
  have kY := (J_k hJ).2.1
  rcases j_printSink hJ h0 hz (xs (i + 1)) with ⟨σ1, σ2, a, e1, e2, e3, e4, k1, k2, hJ2⟩ | ⟨σ2, a, k, c, t1, e2, e3, hK, k2, hJ2⟩
  · have kY1 : (σ1.1 (X + 307)).1 = 14 := by rw [k1]; exact kY
    have kY2 : (σ2.1 (X + 307)).1 = 14 := by rw [k2]; exact kY
    refine z_aload_n C dL_law_2157 rfl 1 rfl ?_
    refine z_aload_n C dL_law_2158 rfl 0 rfl ?_
    refine z_iload C dL_law_2159 4 rfl ?_
    refine z_iconst C (zi 1) dL_law_2161 (by decide) ?_
    refine z_iadd C dL_law_2162 ?_
    refine z_sld C hLS (i + 1) (z_ix i 1) (by omega) dL_law_2163 ?_
    refine z_aload_n C dL_law_2164 rfl 3 rfl ?_
    refine z_callH (As := [.ref X, .int (xs (i + 1)), .ref (X + 322)]) (F0 := 2048) (L0 := 84000) C (mL_printSink l D Ca B En C.2.2.2.2.2.2.2.1 σ N X (xs (i + 1)) (X + 322) (σ1, zi 0) e1) hRm0 kw_1224 kw_0 kw_1222 kw_1223 hyL_printSink (Nat.le_of_ble_eq_true rfl) (Nat.le_of_ble_eq_true rfl) rfl rfl (Nat.le_of_ble_eq_true rfl) dL_law_2165 hRm.2.2.1 hRm.2.2.2 (fun N2 hN => ?_)
    refine z_istore (lv2 := [(5, .int (zi 0)), (0, .ref b), (1, .ref X), (2, .ref (X + 307)), (3, .ref (X + 322)), (4, .int (zi (i : Int)))]) C dL_law_2168 (by decide) rfl ?_
    refine z_aload_n C dL_law_2170 rfl 3 rfl ?_
    refine z_aload_n C dL_law_2171 rfl 1 rfl ?_
    refine z_iload C dL_law_2172 5 rfl ?_
    refine z_iconst C (zi 1) dL_law_2174 (by decide) ?_
    refine z_iadd C dL_law_2175 ?_
    refine z_sld C hLS (i + 1) (z_ix i 1) (by omega) dL_law_2176 ?_
    refine z_callVi (As := [.int (xs (i + 1))]) (F0 := 2048) (L0 := 84000) C (mX10_printSink l D Ca B En C.2.2.2.2.2.2.2.1 σ1 N2 (X + 307) (xs (i + 1)) (σ2, a) e2) hRm kY1 rfl kw_1912 kw_14 kw_1909 kw_1910 kw_1911 hyX10_printSink (Nat.le_of_ble_eq_true rfl) (Nat.le_of_ble_eq_true rfl) rfl rfl (Nat.le_of_ble_eq_true rfl) dL_law_2177 ?_
    refine z_istore (lv2 := [(6, .int a), (5, .int (zi 0)), (0, .ref b), (1, .ref X), (2, .ref (X + 307)), (3, .ref (X + 322)), (4, .int (zi (i : Int)))]) C dL_law_2180 (by decide) rfl ?_
    refine z_aload_n C dL_law_2182 rfl 4 rfl ?_
    refine z_callVi (As := []) (F0 := 2048) (L0 := 84000) C (mX10_thrown l D Ca B En C.2.2.2.2.2.2.2.1 σ2 N2 (X + 307)  (σ2, (zi 0)) e3) hRm kY2 rfl kw_1365 kw_14 kw_1362 kw_1363 kw_1364 hyX10_thrown (Nat.le_of_ble_eq_true rfl) (Nat.le_of_ble_eq_true rfl) rfl rfl (Nat.le_of_ble_eq_true rfl) dL_law_2183 ?_
    refine z_iload C dL_law_2186 1 rfl ?_
    refine z_icmp_eq C 2193 dL_law_2188 (by decide) (fun _ => ?_) (fun q => absurd rfl q)
    refine z_iload C dL_law_2193 1 rfl ?_
    refine z_if_ne C 2210 dL_law_2195 (by decide) (fun q => absurd rfl q) (fun _ => ?_)
    refine z_aload_n C dL_law_2198 rfl 5 rfl ?_
    refine z_iconst C (zi 0) dL_law_2199 (by decide) ?_
    refine z_aJ C e4 dL_law_2200 ?_
    refine z_iload C dL_law_2201 0 rfl ?_
    refine z_i2l C dL_law_2203 ?_
    refine z_lcmp C dL_law_2204 ?_
    refine z_if_eq C 2210 dL_law_2205 (by decide) (fun _ => ?_) (fun q => absurd (lgc _) q)
    refine z_goto C 2295 dL_law_2210 (by decide) ?_
    refine z_sub [2, 3, 4, 5, 6] rfl ?_
    exact kk σ2 N2 hN hJ2
  · have kY2 : (σ2.1 (X + 307)).1 = 14 := by rw [k2]; exact kY
    obtain ⟨rfl, rfl⟩ := hK
    refine z_aload_n C dL_law_2157 rfl 1 rfl ?_
    refine z_aload_n C dL_law_2158 rfl 0 rfl ?_
    refine z_iload C dL_law_2159 4 rfl ?_
    refine z_iconst C (zi 1) dL_law_2161 (by decide) ?_
    refine z_iadd C dL_law_2162 ?_
    refine z_sld C hLS (i + 1) (z_ix i 1) (by omega) dL_law_2163 ?_
    refine z_aload_n C dL_law_2164 rfl 3 rfl ?_
    refine z_callH (As := [.ref X, .int (xs (i + 1)), .ref (X + 322)]) (F0 := 2048) (L0 := 84000) C (mxL_printSink_1 l D Ca B En C.2.2.2.2.2.2.2.1 hT hT2 hl0 σ N X (xs (i + 1)) (X + 322) kX t1) hRm0 kw_1224 kw_0 kw_1222 kw_1223 hyL_printSink (Nat.le_of_ble_eq_true rfl) (Nat.le_of_ble_eq_true rfl) rfl rfl (Nat.le_of_ble_eq_true rfl) dL_law_2165 hRm.2.2.1 hRm.2.2.2 (fun N2 hN => ?_)
    refine z_istore (lv2 := [(5, .int (zi 1)), (0, .ref b), (1, .ref X), (2, .ref (X + 307)), (3, .ref (X + 322)), (4, .int (zi (i : Int)))]) C dL_law_2168 (by decide) rfl ?_
    refine z_aload_n C dL_law_2170 rfl 3 rfl ?_
    refine z_aload_n C dL_law_2171 rfl 1 rfl ?_
    refine z_iload C dL_law_2172 5 rfl ?_
    refine z_iconst C (zi 1) dL_law_2174 (by decide) ?_
    refine z_iadd C dL_law_2175 ?_
    refine z_sld C hLS (i + 1) (z_ix i 1) (by omega) dL_law_2176 ?_
    refine z_callVi (As := [.int (xs (i + 1))]) (F0 := 2048) (L0 := 84000) C (mX10_printSink l D Ca B En C.2.2.2.2.2.2.2.1 σ N2 (X + 307) (xs (i + 1)) (σ2, a) e2) hRm kY rfl kw_1912 kw_14 kw_1909 kw_1910 kw_1911 hyX10_printSink (Nat.le_of_ble_eq_true rfl) (Nat.le_of_ble_eq_true rfl) rfl rfl (Nat.le_of_ble_eq_true rfl) dL_law_2177 ?_
    refine z_istore (lv2 := [(6, .int a), (5, .int (zi 1)), (0, .ref b), (1, .ref X), (2, .ref (X + 307)), (3, .ref (X + 322)), (4, .int (zi (i : Int)))]) C dL_law_2180 (by decide) rfl ?_
    refine z_aload_n C dL_law_2182 rfl 4 rfl ?_
    refine z_callVi (As := []) (F0 := 2048) (L0 := 84000) C (mX10_thrown l D Ca B En C.2.2.2.2.2.2.2.1 σ2 N2 (X + 307)  (σ2, (zi 1)) e3) hRm kY2 rfl kw_1365 kw_14 kw_1362 kw_1363 kw_1364 hyX10_thrown (Nat.le_of_ble_eq_true rfl) (Nat.le_of_ble_eq_true rfl) rfl rfl (Nat.le_of_ble_eq_true rfl) dL_law_2183 ?_
    refine z_iload C dL_law_2186 1 rfl ?_
    refine z_icmp_eq C 2193 dL_law_2188 (by decide) (fun _ => ?_) (fun q => absurd rfl q)
    refine z_iload C dL_law_2193 1 rfl ?_
    refine z_if_ne C 2210 dL_law_2195 (by decide) (fun _ => ?_) (fun q => absurd q (by decide))
    refine z_goto C 2295 dL_law_2210 (by decide) ?_
    refine z_sub [2, 3, 4, 5, 6] rfl ?_
    exact kk σ2 N2 hN hJ2
