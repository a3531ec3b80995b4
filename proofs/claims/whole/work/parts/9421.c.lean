/-! The law's cases 35, 36, 37 -/
theorem dL_law_2034 : decode cL_law 2034 = .ok (.aload_n 1, 1) := by decide +kernel
theorem dL_law_2035 : decode cL_law 2035 = .ok (.aload_n 0, 1) := by decide +kernel
theorem dL_law_2036 : decode cL_law 2036 = .ok (.iload 4, 2) := by decide +kernel
theorem dL_law_2038 : decode cL_law 2038 = .ok (.iconst 1, 1) := by decide +kernel
theorem dL_law_2039 : decode cL_law 2039 = .ok (.iadd, 1) := by decide +kernel
theorem dL_law_2040 : decode cL_law 2040 = .ok (.iaload, 1) := by decide +kernel
theorem dL_law_2041 : decode cL_law 2041 = .ok (.ifCond .eq 7, 3) := by decide +kernel
theorem dL_law_2044 : decode cL_law 2044 = .ok (.iconst 1, 1) := by decide +kernel
theorem dL_law_2045 : decode cL_law 2045 = .ok (.goto 4, 3) := by decide +kernel
theorem dL_law_2048 : decode cL_law 2048 = .ok (.iconst 0, 1) := by decide +kernel
theorem dL_law_2049 : decode cL_law 2049 = .ok (.invokevirtual 239, 3) := by decide +kernel
theorem dL_law_2052 : decode cL_law 2052 = .ok (.aload_n 2, 1) := by decide +kernel
theorem dL_law_2053 : decode cL_law 2053 = .ok (.aload_n 0, 1) := by decide +kernel
theorem dL_law_2054 : decode cL_law 2054 = .ok (.iload 4, 2) := by decide +kernel
theorem dL_law_2056 : decode cL_law 2056 = .ok (.iconst 1, 1) := by decide +kernel
theorem dL_law_2057 : decode cL_law 2057 = .ok (.iadd, 1) := by decide +kernel
theorem dL_law_2058 : decode cL_law 2058 = .ok (.iaload, 1) := by decide +kernel
theorem dL_law_2059 : decode cL_law 2059 = .ok (.ifCond .eq 7, 3) := by decide +kernel
theorem dL_law_2062 : decode cL_law 2062 = .ok (.iconst 1, 1) := by decide +kernel
theorem dL_law_2063 : decode cL_law 2063 = .ok (.goto 4, 3) := by decide +kernel
theorem dL_law_2066 : decode cL_law 2066 = .ok (.iconst 0, 1) := by decide +kernel
theorem dL_law_2067 : decode cL_law 2067 = .ok (.invokevirtual 242, 3) := by decide +kernel
theorem dL_law_2070 : decode cL_law 2070 = .ok (.if_icmp .eq 225, 3) := by decide +kernel
theorem dL_law_2073 : decode cL_law 2073 = .ok (.iconst 0, 1) := by decide +kernel
theorem dL_law_2074 : decode cL_law 2074 = .ok (.ireturn, 1) := by decide +kernel
set_option maxRecDepth 100000 in
set_option maxHeartbeats 4000000 in
theorem law_35 {p : Program} {l : Launch} {e : Env} {R : Room} {s : State} {m : MethodId} {args : Array Value} {below : List Frame} {meth : Method} {c : Code} {cells slots : Nat} {Q : State → Prop} {D : va_G} {Ca : Nat → ClassId} {B : Nat} {En : State → Prop} {N b L X i : Nat} {xs : Nat → Int32} {z : Int} (C : zC p s m args meth c cL_law RL 9 D Ca B En) (hT : ∀ U, En U → zThr B U) (hT2 : ∀ U, En U → va_Nc (zEx 4) (zEx 1) U ∧ va_Nc (zEx 2) (zEx 1) U) (hl0 : l.stackTraces = false) (ev : zEv) (hZ : ∀ U : State, En U → zEnv ev B U) (hLS : zLS s B b L xs) (hi : i + 6 ≤ L) (hRm : zRm R 2048 84000 (cells + 1) (slots + 6)) (σ : zS) (hJ : J X z σ) (h0 : 0 ≤ z) (hz : z < 700000000)
    (kk : ∀ (σ2 : zS) (N2 : Nat), N ≤ N2 → J X (z + 501) σ2 → zW p l e R s m args below meth c (cells + 1) (slots + 6) Q D Ca B 9 σ2 N2 2295 (lawLv b X i) []) : zW p l e R s m args below meth c cells slots Q D Ca B 9 σ N 2034 (lawLv b X i) [] := by
  have hRm0 : zRm R 2048 84000 cells slots := ⟨hRm.1, hRm.2.1, Nat.le_of_succ_le hRm.2.2.1, Nat.le_trans (Nat.le_add_right slots 6) hRm.2.2.2⟩
  have kX := (J_k hJ).1
  have kY := (J_k hJ).2.1
  by_cases hb1 : xs (i + 1) = zi 0
  · obtain ⟨σ1, σ2, a, e1, e2, k1, k2, hJ2⟩ := j_wouldTake hJ h0 hz false
    have kY1 : (σ1.1 (X + 307)).1 = 14 := by rw [k1]; exact kY
    refine z_aload_n C dL_law_2034 rfl 1 rfl ?_
    refine z_aload_n C dL_law_2035 rfl 0 rfl ?_
    refine z_iload C dL_law_2036 4 rfl ?_
    refine z_iconst C (zi 1) dL_law_2038 (by decide) ?_
    refine z_iadd C dL_law_2039 ?_
    refine z_sld C hLS (i + 1) (z_ix i 1) (by omega) dL_law_2040 ?_
    refine z_if_eq C 2048 dL_law_2041 (by decide) (fun _ => ?_) (fun q => absurd hb1 q)
    refine z_iconst C (zi 0) dL_law_2048 (by decide) ?_
    refine z_callVi (As := [.int (zi 0)]) (F0 := 2048) (L0 := 84000) C (mX9_wouldTake l D Ca B En C.2.2.2.2.2.2.2.1 σ N X (zi 0) (σ1, a) e1) hRm0 kX rfl kw_716 kw_1 kw_713 kw_714 kw_715 hyX9_wouldTake (Nat.le_of_ble_eq_true rfl) (Nat.le_of_ble_eq_true rfl) rfl rfl (Nat.le_of_ble_eq_true rfl) dL_law_2049 ?_
    refine z_aload_n C dL_law_2052 rfl 2 rfl ?_
    refine z_aload_n C dL_law_2053 rfl 0 rfl ?_
    refine z_iload C dL_law_2054 4 rfl ?_
    refine z_iconst C (zi 1) dL_law_2056 (by decide) ?_
    refine z_iadd C dL_law_2057 ?_
    refine z_sld C hLS (i + 1) (z_ix i 1) (by omega) dL_law_2058 ?_
    refine z_if_eq C 2066 dL_law_2059 (by decide) (fun _ => ?_) (fun q => absurd hb1 q)
    refine z_iconst C (zi 0) dL_law_2066 (by decide) ?_
    refine z_callVi (As := [.int (zi 0)]) (F0 := 2048) (L0 := 84000) C (mX10_wouldTake l D Ca B En C.2.2.2.2.2.2.2.1 σ1 N (X + 307) (zi 0) (σ2, a) e2) hRm0 kY1 rfl kw_1661 kw_14 kw_1658 kw_1659 kw_1660 hyX10_wouldTake (Nat.le_of_ble_eq_true rfl) (Nat.le_of_ble_eq_true rfl) rfl rfl (Nat.le_of_ble_eq_true rfl) dL_law_2067 ?_
    refine z_icmp_eq C 2295 dL_law_2070 (by decide) (fun _ => ?_) (fun q => absurd rfl q)
    exact z_widen (by omega) (by omega) (kk σ2 N (Nat.le_refl N) hJ2)
  · obtain ⟨σ1, σ2, a, e1, e2, k1, k2, hJ2⟩ := j_wouldTake hJ h0 hz true
    have kY1 : (σ1.1 (X + 307)).1 = 14 := by rw [k1]; exact kY
    refine z_aload_n C dL_law_2034 rfl 1 rfl ?_
    refine z_aload_n C dL_law_2035 rfl 0 rfl ?_
    refine z_iload C dL_law_2036 4 rfl ?_
    refine z_iconst C (zi 1) dL_law_2038 (by decide) ?_
    refine z_iadd C dL_law_2039 ?_
    refine z_sld C hLS (i + 1) (z_ix i 1) (by omega) dL_law_2040 ?_
    refine z_if_eq C 2048 dL_law_2041 (by decide) (fun q => absurd q hb1) (fun _ => ?_)
    refine z_iconst C (zi 1) dL_law_2044 (by decide) ?_
    refine z_goto C 2049 dL_law_2045 (by decide) ?_
    refine z_callVi (As := [.int (zi 1)]) (F0 := 2048) (L0 := 84000) C (mX9_wouldTake l D Ca B En C.2.2.2.2.2.2.2.1 σ N X (zi 1) (σ1, a) e1) hRm0 kX rfl kw_716 kw_1 kw_713 kw_714 kw_715 hyX9_wouldTake (Nat.le_of_ble_eq_true rfl) (Nat.le_of_ble_eq_true rfl) rfl rfl (Nat.le_of_ble_eq_true rfl) dL_law_2049 ?_
    refine z_aload_n C dL_law_2052 rfl 2 rfl ?_
    refine z_aload_n C dL_law_2053 rfl 0 rfl ?_
    refine z_iload C dL_law_2054 4 rfl ?_
    refine z_iconst C (zi 1) dL_law_2056 (by decide) ?_
    refine z_iadd C dL_law_2057 ?_
    refine z_sld C hLS (i + 1) (z_ix i 1) (by omega) dL_law_2058 ?_
    refine z_if_eq C 2066 dL_law_2059 (by decide) (fun q => absurd q hb1) (fun _ => ?_)
    refine z_iconst C (zi 1) dL_law_2062 (by decide) ?_
    refine z_goto C 2067 dL_law_2063 (by decide) ?_
    refine z_callVi (As := [.int (zi 1)]) (F0 := 2048) (L0 := 84000) C (mX10_wouldTake l D Ca B En C.2.2.2.2.2.2.2.1 σ1 N (X + 307) (zi 1) (σ2, a) e2) hRm0 kY1 rfl kw_1661 kw_14 kw_1658 kw_1659 kw_1660 hyX10_wouldTake (Nat.le_of_ble_eq_true rfl) (Nat.le_of_ble_eq_true rfl) rfl rfl (Nat.le_of_ble_eq_true rfl) dL_law_2067 ?_
    refine z_icmp_eq C 2295 dL_law_2070 (by decide) (fun _ => ?_) (fun q => absurd rfl q)
    exact z_widen (by omega) (by omega) (kk σ2 N (Nat.le_refl N) hJ2)
theorem dL_law_2075 : decode cL_law 2075 = .ok (.aload_n 1, 1) := by decide +kernel
theorem dL_law_2076 : decode cL_law 2076 = .ok (.invokevirtual 243, 3) := by decide +kernel
theorem dL_law_2079 : decode cL_law 2079 = .ok (.aload_n 2, 1) := by decide +kernel
theorem dL_law_2080 : decode cL_law 2080 = .ok (.invokevirtual 246, 3) := by decide +kernel
theorem dL_law_2083 : decode cL_law 2083 = .ok (.if_icmp .eq 212, 3) := by decide +kernel
theorem dL_law_2086 : decode cL_law 2086 = .ok (.iconst 0, 1) := by decide +kernel
theorem dL_law_2087 : decode cL_law 2087 = .ok (.ireturn, 1) := by decide +kernel
set_option maxRecDepth 100000 in
set_option maxHeartbeats 4000000 in
theorem law_36 {p : Program} {l : Launch} {e : Env} {R : Room} {s : State} {m : MethodId} {args : Array Value} {below : List Frame} {meth : Method} {c : Code} {cells slots : Nat} {Q : State → Prop} {D : va_G} {Ca : Nat → ClassId} {B : Nat} {En : State → Prop} {N b L X i : Nat} {xs : Nat → Int32} {z : Int} (C : zC p s m args meth c cL_law RL 9 D Ca B En) (hT : ∀ U, En U → zThr B U) (hT2 : ∀ U, En U → va_Nc (zEx 4) (zEx 1) U ∧ va_Nc (zEx 2) (zEx 1) U) (hl0 : l.stackTraces = false) (ev : zEv) (hZ : ∀ U : State, En U → zEnv ev B U) (hLS : zLS s B b L xs) (hi : i + 6 ≤ L) (hRm : zRm R 2048 84000 (cells + 1) (slots + 6)) (σ : zS) (hJ : J X z σ) (h0 : 0 ≤ z) (hz : z < 700000000)
    (kk : ∀ (σ2 : zS) (N2 : Nat), N ≤ N2 → J X (z + 501) σ2 → zW p l e R s m args below meth c (cells + 1) (slots + 6) Q D Ca B 9 σ2 N2 2295 (lawLv b X i) []) : zW p l e R s m args below meth c cells slots Q D Ca B 9 σ N 2075 (lawLv b X i) [] := by
  have hRm0 : zRm R 2048 84000 cells slots := ⟨hRm.1, hRm.2.1, Nat.le_of_succ_le hRm.2.2.1, Nat.le_trans (Nat.le_add_right slots 6) hRm.2.2.2⟩
  have kX := (J_k hJ).1
  have kY := (J_k hJ).2.1
  obtain ⟨σ1, σ2, a, e1, e2, k1, k2, hJ2⟩ := j_wouldKeep hJ h0 hz 
  have kY1 : (σ1.1 (X + 307)).1 = 14 := by rw [k1]; exact kY
  refine z_aload_n C dL_law_2075 rfl 1 rfl ?_
  refine z_callVi (As := []) (F0 := 2048) (L0 := 84000) C (mX9_wouldKeep l D Ca B En C.2.2.2.2.2.2.2.1 σ N X  (σ1, a) e1) hRm0 kX rfl kw_844 kw_1 kw_841 kw_842 kw_843 hyX9_wouldKeep (Nat.le_of_ble_eq_true rfl) (Nat.le_of_ble_eq_true rfl) rfl rfl (Nat.le_of_ble_eq_true rfl) dL_law_2076 ?_
  refine z_aload_n C dL_law_2079 rfl 2 rfl ?_
  refine z_callVi (As := []) (F0 := 2048) (L0 := 84000) C (mX10_wouldKeep l D Ca B En C.2.2.2.2.2.2.2.1 σ1 N (X + 307)  (σ2, a) e2) hRm0 kY1 rfl kw_1665 kw_14 kw_1662 kw_1663 kw_1664 hyX10_wouldKeep (Nat.le_of_ble_eq_true rfl) (Nat.le_of_ble_eq_true rfl) rfl rfl (Nat.le_of_ble_eq_true rfl) dL_law_2080 ?_
  refine z_icmp_eq C 2295 dL_law_2083 (by decide) (fun _ => ?_) (fun q => absurd rfl q)
  exact z_widen (by omega) (by omega) (kk σ2 N (Nat.le_refl N) hJ2)
theorem dL_law_2088 : decode cL_law 2088 = .ok (.aload_n 1, 1) := by decide +kernel
theorem dL_law_2089 : decode cL_law 2089 = .ok (.invokevirtual 247, 3) := by decide +kernel
theorem dL_law_2092 : decode cL_law 2092 = .ok (.aload_n 2, 1) := by decide +kernel
theorem dL_law_2093 : decode cL_law 2093 = .ok (.invokevirtual 250, 3) := by decide +kernel
theorem dL_law_2096 : decode cL_law 2096 = .ok (.if_icmp .eq 199, 3) := by decide +kernel
theorem dL_law_2099 : decode cL_law 2099 = .ok (.iconst 0, 1) := by decide +kernel
theorem dL_law_2100 : decode cL_law 2100 = .ok (.ireturn, 1) := by decide +kernel
set_option maxRecDepth 100000 in
set_option maxHeartbeats 4000000 in
theorem law_37 {p : Program} {l : Launch} {e : Env} {R : Room} {s : State} {m : MethodId} {args : Array Value} {below : List Frame} {meth : Method} {c : Code} {cells slots : Nat} {Q : State → Prop} {D : va_G} {Ca : Nat → ClassId} {B : Nat} {En : State → Prop} {N b L X i : Nat} {xs : Nat → Int32} {z : Int} (C : zC p s m args meth c cL_law RL 9 D Ca B En) (hT : ∀ U, En U → zThr B U) (hT2 : ∀ U, En U → va_Nc (zEx 4) (zEx 1) U ∧ va_Nc (zEx 2) (zEx 1) U) (hl0 : l.stackTraces = false) (ev : zEv) (hZ : ∀ U : State, En U → zEnv ev B U) (hLS : zLS s B b L xs) (hi : i + 6 ≤ L) (hRm : zRm R 2048 84000 (cells + 1) (slots + 6)) (σ : zS) (hJ : J X z σ) (h0 : 0 ≤ z) (hz : z < 700000000)
    (kk : ∀ (σ2 : zS) (N2 : Nat), N ≤ N2 → J X (z + 501) σ2 → zW p l e R s m args below meth c (cells + 1) (slots + 6) Q D Ca B 9 σ2 N2 2295 (lawLv b X i) []) : zW p l e R s m args below meth c cells slots Q D Ca B 9 σ N 2088 (lawLv b X i) [] := by
  have hRm0 : zRm R 2048 84000 cells slots := ⟨hRm.1, hRm.2.1, Nat.le_of_succ_le hRm.2.2.1, Nat.le_trans (Nat.le_add_right slots 6) hRm.2.2.2⟩
  have kX := (J_k hJ).1
  have kY := (J_k hJ).2.1
  obtain ⟨σ1, σ2, a, e1, e2, k1, k2, hJ2⟩ := j_quietIn hJ h0 hz 
  have kY1 : (σ1.1 (X + 307)).1 = 14 := by rw [k1]; exact kY
  refine z_aload_n C dL_law_2088 rfl 1 rfl ?_
  refine z_callVi (As := []) (F0 := 2048) (L0 := 84000) C (mX9_quietIn l D Ca B En C.2.2.2.2.2.2.2.1 σ N X  (σ1, a) e1) hRm0 kX rfl kw_848 kw_1 kw_845 kw_846 kw_847 hyX9_quietIn (Nat.le_of_ble_eq_true rfl) (Nat.le_of_ble_eq_true rfl) rfl rfl (Nat.le_of_ble_eq_true rfl) dL_law_2089 ?_
  refine z_aload_n C dL_law_2092 rfl 2 rfl ?_
  refine z_callVi (As := []) (F0 := 2048) (L0 := 84000) C (mX10_quietIn l D Ca B En C.2.2.2.2.2.2.2.1 σ1 N (X + 307)  (σ2, a) e2) hRm0 kY1 rfl kw_1673 kw_14 kw_1670 kw_1671 kw_1672 hyX10_quietIn (Nat.le_of_ble_eq_true rfl) (Nat.le_of_ble_eq_true rfl) rfl rfl (Nat.le_of_ble_eq_true rfl) dL_law_2093 ?_
  refine z_icmp_eq C 2295 dL_law_2096 (by decide) (fun _ => ?_) (fun q => absurd rfl q)
  exact z_widen (by omega) (by omega) (kk σ2 N (Nat.le_refl N) hJ2)
