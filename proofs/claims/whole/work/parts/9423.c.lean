/-! The law's cases 40, 41, 42 -/
theorem dL_law_2213 : decode cL_law 2213 = .ok (.aload_n 1, 1) := by decide +kernel
theorem dL_law_2214 : decode cL_law 2214 = .ok (.aload_n 0, 1) := by decide +kernel
theorem dL_law_2215 : decode cL_law 2215 = .ok (.iload 4, 2) := by decide +kernel
theorem dL_law_2217 : decode cL_law 2217 = .ok (.iconst 1, 1) := by decide +kernel
theorem dL_law_2218 : decode cL_law 2218 = .ok (.iadd, 1) := by decide +kernel
theorem dL_law_2219 : decode cL_law 2219 = .ok (.iaload, 1) := by decide +kernel
theorem dL_law_2220 : decode cL_law 2220 = .ok (.invokevirtual 257, 3) := by decide +kernel
theorem dL_law_2223 : decode cL_law 2223 = .ok (.aload_n 2, 1) := by decide +kernel
theorem dL_law_2224 : decode cL_law 2224 = .ok (.aload_n 0, 1) := by decide +kernel
theorem dL_law_2225 : decode cL_law 2225 = .ok (.iload 4, 2) := by decide +kernel
theorem dL_law_2227 : decode cL_law 2227 = .ok (.iconst 1, 1) := by decide +kernel
theorem dL_law_2228 : decode cL_law 2228 = .ok (.iadd, 1) := by decide +kernel
theorem dL_law_2229 : decode cL_law 2229 = .ok (.iaload, 1) := by decide +kernel
theorem dL_law_2230 : decode cL_law 2230 = .ok (.invokevirtual 260, 3) := by decide +kernel
theorem dL_law_2233 : decode cL_law 2233 = .ok (.if_icmp .eq 62, 3) := by decide +kernel
theorem dL_law_2236 : decode cL_law 2236 = .ok (.iconst 0, 1) := by decide +kernel
theorem dL_law_2237 : decode cL_law 2237 = .ok (.ireturn, 1) := by decide +kernel
set_option maxRecDepth 100000 in
set_option maxHeartbeats 4000000 in
theorem law_40 {p : Program} {l : Launch} {e : Env} {R : Room} {s : State} {m : MethodId} {args : Array Value} {below : List Frame} {meth : Method} {c : Code} {cells slots : Nat} {Q : State → Prop} {D : va_G} {Ca : Nat → ClassId} {B : Nat} {En : State → Prop} {N b L X i : Nat} {xs : Nat → Int32} {z : Int} (C : zC p s m args meth c cL_law RL 9 D Ca B En) (hT : ∀ U, En U → zThr B U) (hT2 : ∀ U, En U → va_Nc (zEx 4) (zEx 1) U ∧ va_Nc (zEx 2) (zEx 1) U) (hl0 : l.stackTraces = false) (ev : zEv) (hZ : ∀ U : State, En U → zEnv ev B U) (hLS : zLS s B b L xs) (hi : i + 6 ≤ L) (hRm : zRm R 2048 84000 (cells + 1) (slots + 6)) (σ : zS) (hJ : J X z σ) (h0 : 0 ≤ z) (hz : z < 700000000)
    (kk : ∀ (σ2 : zS) (N2 : Nat), N ≤ N2 → J X (z + 501) σ2 → zW p l e R s m args below meth c (cells + 1) (slots + 6) Q D Ca B 9 σ2 N2 2295 (lawLv b X i) []) : zW p l e R s m args below meth c cells slots Q D Ca B 9 σ N 2213 (lawLv b X i) [] := by
  have hRm0 : zRm R 2048 84000 cells slots := ⟨hRm.1, hRm.2.1, Nat.le_of_succ_le hRm.2.2.1, Nat.le_trans (Nat.le_add_right slots 6) hRm.2.2.2⟩
  have kX := (J_k hJ).1
  have kY := (J_k hJ).2.1
  obtain ⟨σ1, σ2, a, e1, e2, k1, k2, hJ2⟩ := j_outputByte hJ h0 hz (xs (i + 1))
  have kY1 : (σ1.1 (X + 307)).1 = 14 := by rw [k1]; exact kY
  refine z_aload_n C dL_law_2213 rfl 1 rfl ?_
  refine z_aload_n C dL_law_2214 rfl 0 rfl ?_
  refine z_iload C dL_law_2215 4 rfl ?_
  refine z_iconst C (zi 1) dL_law_2217 (by decide) ?_
  refine z_iadd C dL_law_2218 ?_
  refine z_sld C hLS (i + 1) (z_ix i 1) (by omega) dL_law_2219 ?_
  refine z_callVi (As := [.int (xs (i + 1))]) (F0 := 2048) (L0 := 84000) C (mX9_outputByte l D Ca B En C.2.2.2.2.2.2.2.1 σ N X (xs (i + 1)) (σ1, a) e1) hRm0 kX rfl kw_857 kw_1 kw_854 kw_855 kw_856 hyX9_outputByte (Nat.le_of_ble_eq_true rfl) (Nat.le_of_ble_eq_true rfl) rfl rfl (Nat.le_of_ble_eq_true rfl) dL_law_2220 ?_
  refine z_aload_n C dL_law_2223 rfl 2 rfl ?_
  refine z_aload_n C dL_law_2224 rfl 0 rfl ?_
  refine z_iload C dL_law_2225 4 rfl ?_
  refine z_iconst C (zi 1) dL_law_2227 (by decide) ?_
  refine z_iadd C dL_law_2228 ?_
  refine z_sld C hLS (i + 1) (z_ix i 1) (by omega) dL_law_2229 ?_
  refine z_callVi (As := [.int (xs (i + 1))]) (F0 := 2048) (L0 := 84000) C (mX10_outputByte l D Ca B En C.2.2.2.2.2.2.2.1 σ1 N (X + 307) (xs (i + 1)) (σ2, a) e2) hRm0 kY1 rfl kw_1924 kw_14 kw_1921 kw_1922 kw_1923 hyX10_outputByte (Nat.le_of_ble_eq_true rfl) (Nat.le_of_ble_eq_true rfl) rfl rfl (Nat.le_of_ble_eq_true rfl) dL_law_2230 ?_
  refine z_icmp_eq C 2295 dL_law_2233 (by decide) (fun _ => ?_) (fun q => absurd rfl q)
  exact z_widen (by omega) (by omega) (kk σ2 N (Nat.le_refl N) hJ2)
theorem dL_law_2238 : decode cL_law 2238 = .ok (.aload_n 1, 1) := by decide +kernel
theorem dL_law_2239 : decode cL_law 2239 = .ok (.invokevirtual 261, 3) := by decide +kernel
theorem dL_law_2242 : decode cL_law 2242 = .ok (.aload_n 2, 1) := by decide +kernel
theorem dL_law_2243 : decode cL_law 2243 = .ok (.invokevirtual 264, 3) := by decide +kernel
theorem dL_law_2246 : decode cL_law 2246 = .ok (.if_icmp .eq 49, 3) := by decide +kernel
theorem dL_law_2249 : decode cL_law 2249 = .ok (.iconst 0, 1) := by decide +kernel
theorem dL_law_2250 : decode cL_law 2250 = .ok (.ireturn, 1) := by decide +kernel
set_option maxRecDepth 100000 in
set_option maxHeartbeats 4000000 in
theorem law_41 {p : Program} {l : Launch} {e : Env} {R : Room} {s : State} {m : MethodId} {args : Array Value} {below : List Frame} {meth : Method} {c : Code} {cells slots : Nat} {Q : State → Prop} {D : va_G} {Ca : Nat → ClassId} {B : Nat} {En : State → Prop} {N b L X i : Nat} {xs : Nat → Int32} {z : Int} (C : zC p s m args meth c cL_law RL 9 D Ca B En) (hT : ∀ U, En U → zThr B U) (hT2 : ∀ U, En U → va_Nc (zEx 4) (zEx 1) U ∧ va_Nc (zEx 2) (zEx 1) U) (hl0 : l.stackTraces = false) (ev : zEv) (hZ : ∀ U : State, En U → zEnv ev B U) (hLS : zLS s B b L xs) (hi : i + 6 ≤ L) (hRm : zRm R 2048 84000 (cells + 1) (slots + 6)) (σ : zS) (hJ : J X z σ) (h0 : 0 ≤ z) (hz : z < 700000000)
    (kk : ∀ (σ2 : zS) (N2 : Nat), N ≤ N2 → J X (z + 501) σ2 → zW p l e R s m args below meth c (cells + 1) (slots + 6) Q D Ca B 9 σ2 N2 2295 (lawLv b X i) []) : zW p l e R s m args below meth c cells slots Q D Ca B 9 σ N 2238 (lawLv b X i) [] := by
  have hRm0 : zRm R 2048 84000 cells slots := ⟨hRm.1, hRm.2.1, Nat.le_of_succ_le hRm.2.2.1, Nat.le_trans (Nat.le_add_right slots 6) hRm.2.2.2⟩
  have kX := (J_k hJ).1
  have kY := (J_k hJ).2.1
  obtain ⟨σ1, σ2, a, e1, e2, k1, k2, hJ2⟩ := j_saveState hJ h0 hz 
  have kY1 : (σ1.1 (X + 307)).1 = 14 := by rw [k1]; exact kY
  refine z_aload_n C dL_law_2238 rfl 1 rfl ?_
  refine z_callVi (As := []) (F0 := 2048) (L0 := 84000) C (mX9_saveState l D Ca B En C.2.2.2.2.2.2.2.1 σ N X  (σ1, a) e1) hRm0 kX rfl kw_861 kw_1 kw_858 kw_859 kw_860 hyX9_saveState (Nat.le_of_ble_eq_true rfl) (Nat.le_of_ble_eq_true rfl) rfl rfl (Nat.le_of_ble_eq_true rfl) dL_law_2239 ?_
  refine z_aload_n C dL_law_2242 rfl 2 rfl ?_
  refine z_callVi (As := []) (F0 := 2048) (L0 := 84000) C (mX10_saveState l D Ca B En C.2.2.2.2.2.2.2.1 σ1 N (X + 307)  (σ2, a) e2) hRm0 kY1 rfl kw_1377 kw_14 kw_1374 kw_1375 kw_1376 hyX10_saveState (Nat.le_of_ble_eq_true rfl) (Nat.le_of_ble_eq_true rfl) rfl rfl (Nat.le_of_ble_eq_true rfl) dL_law_2243 ?_
  refine z_icmp_eq C 2295 dL_law_2246 (by decide) (fun _ => ?_) (fun q => absurd rfl q)
  exact z_widen (by omega) (by omega) (kk σ2 N (Nat.le_refl N) hJ2)
theorem dL_law_2251 : decode cL_law 2251 = .ok (.aload_n 1, 1) := by decide +kernel
theorem dL_law_2252 : decode cL_law 2252 = .ok (.aload_n 3, 1) := by decide +kernel
theorem dL_law_2253 : decode cL_law 2253 = .ok (.invokestatic 265, 3) := by decide +kernel
theorem dL_law_2256 : decode cL_law 2256 = .ok (.istore 5, 2) := by decide +kernel
theorem dL_law_2258 : decode cL_law 2258 = .ok (.aload_n 2, 1) := by decide +kernel
theorem dL_law_2259 : decode cL_law 2259 = .ok (.invokevirtual 267, 3) := by decide +kernel
theorem dL_law_2262 : decode cL_law 2262 = .ok (.istore 6, 2) := by decide +kernel
theorem dL_law_2264 : decode cL_law 2264 = .ok (.aload_n 2, 1) := by decide +kernel
theorem dL_law_2265 : decode cL_law 2265 = .ok (.invokevirtual 142, 3) := by decide +kernel
theorem dL_law_2268 : decode cL_law 2268 = .ok (.iload 5, 2) := by decide +kernel
theorem dL_law_2270 : decode cL_law 2270 = .ok (.if_icmp .eq 5, 3) := by decide +kernel
theorem dL_law_2273 : decode cL_law 2273 = .ok (.iconst 0, 1) := by decide +kernel
theorem dL_law_2274 : decode cL_law 2274 = .ok (.ireturn, 1) := by decide +kernel
theorem dL_law_2275 : decode cL_law 2275 = .ok (.iload 5, 2) := by decide +kernel
theorem dL_law_2277 : decode cL_law 2277 = .ok (.ifCond .ne 15, 3) := by decide +kernel
theorem dL_law_2280 : decode cL_law 2280 = .ok (.aload_n 3, 1) := by decide +kernel
theorem dL_law_2281 : decode cL_law 2281 = .ok (.iconst 0, 1) := by decide +kernel
theorem dL_law_2282 : decode cL_law 2282 = .ok (.laload, 1) := by decide +kernel
theorem dL_law_2283 : decode cL_law 2283 = .ok (.iload 6, 2) := by decide +kernel
theorem dL_law_2285 : decode cL_law 2285 = .ok (.i2l, 1) := by decide +kernel
theorem dL_law_2286 : decode cL_law 2286 = .ok (.lcmp, 1) := by decide +kernel
theorem dL_law_2287 : decode cL_law 2287 = .ok (.ifCond .eq 5, 3) := by decide +kernel
theorem dL_law_2290 : decode cL_law 2290 = .ok (.iconst 0, 1) := by decide +kernel
theorem dL_law_2291 : decode cL_law 2291 = .ok (.ireturn, 1) := by decide +kernel
theorem dL_law_2292 : decode cL_law 2292 = .ok (.goto 3, 3) := by decide +kernel
set_option maxRecDepth 100000 in
set_option maxHeartbeats 4000000 in
theorem law_42 {p : Program} {l : Launch} {e : Env} {R : Room} {s : State} {m : MethodId} {args : Array Value} {below : List Frame} {meth : Method} {c : Code} {cells slots : Nat} {Q : State → Prop} {D : va_G} {Ca : Nat → ClassId} {B : Nat} {En : State → Prop} {N b L X i : Nat} {xs : Nat → Int32} {z : Int} (C : zC p s m args meth c cL_law RL 9 D Ca B En) (hT : ∀ U, En U → zThr B U) (hT2 : ∀ U, En U → va_Nc (zEx 4) (zEx 1) U ∧ va_Nc (zEx 2) (zEx 1) U) (hl0 : l.stackTraces = false) (ev : zEv) (hZ : ∀ U : State, En U → zEnv ev B U) (hLS : zLS s B b L xs) (hi : i + 6 ≤ L) (hRm : zRm R 2048 84000 (cells + 1) (slots + 6)) (σ : zS) (hJ : J X z σ) (h0 : 0 ≤ z) (hz : z < 700000000)
    (kk : ∀ (σ2 : zS) (N2 : Nat), N ≤ N2 → J X (z + 501) σ2 → zW p l e R s m args below meth c (cells + 1) (slots + 6) Q D Ca B 9 σ2 N2 2295 (lawLv b X i) []) : zW p l e R s m args below meth c cells slots Q D Ca B 9 σ N 2251 (lawLv b X i) [] := by
  have hRm0 : zRm R 2048 84000 cells slots := ⟨hRm.1, hRm.2.1, Nat.le_of_succ_le hRm.2.2.1, Nat.le_trans (Nat.le_add_right slots 6) hRm.2.2.2⟩
  have kX := (J_k hJ).1
  have kY := (J_k hJ).2.1
  rcases j_restoreState hJ h0 hz  with ⟨σ1, σ2, a, e1, e2, e3, e4, k1, k2, hJ2⟩ | ⟨σ2, a, k, c, t1, e2, e3, hK, k2, hJ2⟩
  · have kY1 : (σ1.1 (X + 307)).1 = 14 := by rw [k1]; exact kY
    have kY2 : (σ2.1 (X + 307)).1 = 14 := by rw [k2]; exact kY
    refine z_aload_n C dL_law_2251 rfl 1 rfl ?_
    refine z_aload_n C dL_law_2252 rfl 3 rfl ?_
    refine z_callH (As := [.ref X, .ref (X + 322)]) (F0 := 2048) (L0 := 84000) C (mL_restoreState l D Ca B En C.2.2.2.2.2.2.2.1 σ N X (X + 322) (σ1, zi 0) e1) hRm0 kw_1240 kw_0 kw_1238 kw_1239 hyL_restoreState (Nat.le_of_ble_eq_true rfl) (Nat.le_of_ble_eq_true rfl) rfl rfl (Nat.le_of_ble_eq_true rfl) dL_law_2253 hRm.2.2.1 hRm.2.2.2 (fun N2 hN => ?_)
    refine z_istore (lv2 := [(5, .int (zi 0)), (0, .ref b), (1, .ref X), (2, .ref (X + 307)), (3, .ref (X + 322)), (4, .int (zi (i : Int)))]) C dL_law_2256 (by decide) rfl ?_
    refine z_aload_n C dL_law_2258 rfl 3 rfl ?_
    refine z_callVi (As := []) (F0 := 2048) (L0 := 84000) C (mX10_restoreState l D Ca B En C.2.2.2.2.2.2.2.1 σ1 N2 (X + 307)  (σ2, a) e2) hRm kY1 rfl kw_1381 kw_14 kw_1378 kw_1379 kw_1380 hyX10_restoreState (Nat.le_of_ble_eq_true rfl) (Nat.le_of_ble_eq_true rfl) rfl rfl (Nat.le_of_ble_eq_true rfl) dL_law_2259 ?_
    refine z_istore (lv2 := [(6, .int a), (5, .int (zi 0)), (0, .ref b), (1, .ref X), (2, .ref (X + 307)), (3, .ref (X + 322)), (4, .int (zi (i : Int)))]) C dL_law_2262 (by decide) rfl ?_
    refine z_aload_n C dL_law_2264 rfl 4 rfl ?_
    refine z_callVi (As := []) (F0 := 2048) (L0 := 84000) C (mX10_thrown l D Ca B En C.2.2.2.2.2.2.2.1 σ2 N2 (X + 307)  (σ2, (zi 0)) e3) hRm kY2 rfl kw_1365 kw_14 kw_1362 kw_1363 kw_1364 hyX10_thrown (Nat.le_of_ble_eq_true rfl) (Nat.le_of_ble_eq_true rfl) rfl rfl (Nat.le_of_ble_eq_true rfl) dL_law_2265 ?_
    refine z_iload C dL_law_2268 1 rfl ?_
    refine z_icmp_eq C 2275 dL_law_2270 (by decide) (fun _ => ?_) (fun q => absurd rfl q)
    refine z_iload C dL_law_2275 1 rfl ?_
    refine z_if_ne C 2292 dL_law_2277 (by decide) (fun q => absurd rfl q) (fun _ => ?_)
    refine z_aload_n C dL_law_2280 rfl 5 rfl ?_
    refine z_iconst C (zi 0) dL_law_2281 (by decide) ?_
    refine z_aJ C e4 dL_law_2282 ?_
    refine z_iload C dL_law_2283 0 rfl ?_
    refine z_i2l C dL_law_2285 ?_
    refine z_lcmp C dL_law_2286 ?_
    refine z_if_eq C 2292 dL_law_2287 (by decide) (fun _ => ?_) (fun q => absurd (lgc _) q)
    refine z_goto C 2295 dL_law_2292 (by decide) ?_
    refine z_sub [2, 3, 4, 5, 6] rfl ?_
    exact kk σ2 N2 hN hJ2
  · have kY2 : (σ2.1 (X + 307)).1 = 14 := by rw [k2]; exact kY
    obtain ⟨rfl, rfl⟩ := hK
    refine z_aload_n C dL_law_2251 rfl 1 rfl ?_
    refine z_aload_n C dL_law_2252 rfl 3 rfl ?_
    refine z_callH (As := [.ref X, .ref (X + 322)]) (F0 := 2048) (L0 := 84000) C (mxL_restoreState_3 l D Ca B En C.2.2.2.2.2.2.2.1 hT hT2 hl0 σ N X (X + 322) kX t1) hRm0 kw_1240 kw_0 kw_1238 kw_1239 hyL_restoreState (Nat.le_of_ble_eq_true rfl) (Nat.le_of_ble_eq_true rfl) rfl rfl (Nat.le_of_ble_eq_true rfl) dL_law_2253 hRm.2.2.1 hRm.2.2.2 (fun N2 hN => ?_)
    refine z_istore (lv2 := [(5, .int (zi 1)), (0, .ref b), (1, .ref X), (2, .ref (X + 307)), (3, .ref (X + 322)), (4, .int (zi (i : Int)))]) C dL_law_2256 (by decide) rfl ?_
    refine z_aload_n C dL_law_2258 rfl 3 rfl ?_
    refine z_callVi (As := []) (F0 := 2048) (L0 := 84000) C (mX10_restoreState l D Ca B En C.2.2.2.2.2.2.2.1 σ N2 (X + 307)  (σ2, a) e2) hRm kY rfl kw_1381 kw_14 kw_1378 kw_1379 kw_1380 hyX10_restoreState (Nat.le_of_ble_eq_true rfl) (Nat.le_of_ble_eq_true rfl) rfl rfl (Nat.le_of_ble_eq_true rfl) dL_law_2259 ?_
    refine z_istore (lv2 := [(6, .int a), (5, .int (zi 1)), (0, .ref b), (1, .ref X), (2, .ref (X + 307)), (3, .ref (X + 322)), (4, .int (zi (i : Int)))]) C dL_law_2262 (by decide) rfl ?_
    refine z_aload_n C dL_law_2264 rfl 4 rfl ?_
    refine z_callVi (As := []) (F0 := 2048) (L0 := 84000) C (mX10_thrown l D Ca B En C.2.2.2.2.2.2.2.1 σ2 N2 (X + 307)  (σ2, (zi 1)) e3) hRm kY2 rfl kw_1365 kw_14 kw_1362 kw_1363 kw_1364 hyX10_thrown (Nat.le_of_ble_eq_true rfl) (Nat.le_of_ble_eq_true rfl) rfl rfl (Nat.le_of_ble_eq_true rfl) dL_law_2265 ?_
    refine z_iload C dL_law_2268 1 rfl ?_
    refine z_icmp_eq C 2275 dL_law_2270 (by decide) (fun _ => ?_) (fun q => absurd rfl q)
    refine z_iload C dL_law_2275 1 rfl ?_
    refine z_if_ne C 2292 dL_law_2277 (by decide) (fun _ => ?_) (fun q => absurd q (by decide))
    refine z_goto C 2295 dL_law_2292 (by decide) ?_
    refine z_sub [2, 3, 4, 5, 6] rfl ?_
    exact kk σ2 N2 hN hJ2
