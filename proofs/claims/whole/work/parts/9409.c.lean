/-! The law's cases 15 -/
theorem dL_law_975 : decode cL_law 975 = .ok (.aload_n 1, 1) := by decide +kernel
theorem dL_law_976 : decode cL_law 976 = .ok (.aload_n 0, 1) := by decide +kernel
theorem dL_law_977 : decode cL_law 977 = .ok (.iload 4, 2) := by decide +kernel
theorem dL_law_979 : decode cL_law 979 = .ok (.iconst 1, 1) := by decide +kernel
theorem dL_law_980 : decode cL_law 980 = .ok (.iadd, 1) := by decide +kernel
theorem dL_law_981 : decode cL_law 981 = .ok (.iaload, 1) := by decide +kernel
theorem dL_law_982 : decode cL_law 982 = .ok (.aload_n 0, 1) := by decide +kernel
theorem dL_law_983 : decode cL_law 983 = .ok (.iload 4, 2) := by decide +kernel
theorem dL_law_985 : decode cL_law 985 = .ok (.iconst 2, 1) := by decide +kernel
theorem dL_law_986 : decode cL_law 986 = .ok (.iadd, 1) := by decide +kernel
theorem dL_law_987 : decode cL_law 987 = .ok (.iaload, 1) := by decide +kernel
theorem dL_law_988 : decode cL_law 988 = .ok (.aload_n 0, 1) := by decide +kernel
theorem dL_law_989 : decode cL_law 989 = .ok (.iload 4, 2) := by decide +kernel
theorem dL_law_991 : decode cL_law 991 = .ok (.iconst 3, 1) := by decide +kernel
theorem dL_law_992 : decode cL_law 992 = .ok (.iadd, 1) := by decide +kernel
theorem dL_law_993 : decode cL_law 993 = .ok (.iaload, 1) := by decide +kernel
theorem dL_law_994 : decode cL_law 994 = .ok (.ifCond .eq 7, 3) := by decide +kernel
theorem dL_law_997 : decode cL_law 997 = .ok (.iconst 1, 1) := by decide +kernel
theorem dL_law_998 : decode cL_law 998 = .ok (.goto 4, 3) := by decide +kernel
theorem dL_law_1001 : decode cL_law 1001 = .ok (.iconst 0, 1) := by decide +kernel
theorem dL_law_1002 : decode cL_law 1002 = .ok (.aload_n 3, 1) := by decide +kernel
theorem dL_law_1003 : decode cL_law 1003 = .ok (.invokestatic 169, 3) := by decide +kernel
theorem dL_law_1006 : decode cL_law 1006 = .ok (.istore 5, 2) := by decide +kernel
theorem dL_law_1008 : decode cL_law 1008 = .ok (.aload_n 2, 1) := by decide +kernel
theorem dL_law_1009 : decode cL_law 1009 = .ok (.aload_n 0, 1) := by decide +kernel
theorem dL_law_1010 : decode cL_law 1010 = .ok (.iload 4, 2) := by decide +kernel
theorem dL_law_1012 : decode cL_law 1012 = .ok (.iconst 1, 1) := by decide +kernel
theorem dL_law_1013 : decode cL_law 1013 = .ok (.iadd, 1) := by decide +kernel
theorem dL_law_1014 : decode cL_law 1014 = .ok (.iaload, 1) := by decide +kernel
theorem dL_law_1015 : decode cL_law 1015 = .ok (.aload_n 0, 1) := by decide +kernel
theorem dL_law_1016 : decode cL_law 1016 = .ok (.iload 4, 2) := by decide +kernel
theorem dL_law_1018 : decode cL_law 1018 = .ok (.iconst 2, 1) := by decide +kernel
theorem dL_law_1019 : decode cL_law 1019 = .ok (.iadd, 1) := by decide +kernel
theorem dL_law_1020 : decode cL_law 1020 = .ok (.iaload, 1) := by decide +kernel
theorem dL_law_1021 : decode cL_law 1021 = .ok (.aload_n 0, 1) := by decide +kernel
theorem dL_law_1022 : decode cL_law 1022 = .ok (.iload 4, 2) := by decide +kernel
theorem dL_law_1024 : decode cL_law 1024 = .ok (.iconst 3, 1) := by decide +kernel
theorem dL_law_1025 : decode cL_law 1025 = .ok (.iadd, 1) := by decide +kernel
theorem dL_law_1026 : decode cL_law 1026 = .ok (.iaload, 1) := by decide +kernel
theorem dL_law_1027 : decode cL_law 1027 = .ok (.ifCond .eq 7, 3) := by decide +kernel
theorem dL_law_1030 : decode cL_law 1030 = .ok (.iconst 1, 1) := by decide +kernel
theorem dL_law_1031 : decode cL_law 1031 = .ok (.goto 4, 3) := by decide +kernel
theorem dL_law_1034 : decode cL_law 1034 = .ok (.iconst 0, 1) := by decide +kernel
theorem dL_law_1035 : decode cL_law 1035 = .ok (.invokevirtual 171, 3) := by decide +kernel
theorem dL_law_1038 : decode cL_law 1038 = .ok (.istore 6, 2) := by decide +kernel
theorem dL_law_1040 : decode cL_law 1040 = .ok (.aload_n 2, 1) := by decide +kernel
theorem dL_law_1041 : decode cL_law 1041 = .ok (.invokevirtual 142, 3) := by decide +kernel
theorem dL_law_1044 : decode cL_law 1044 = .ok (.iload 5, 2) := by decide +kernel
theorem dL_law_1046 : decode cL_law 1046 = .ok (.if_icmp .eq 5, 3) := by decide +kernel
theorem dL_law_1049 : decode cL_law 1049 = .ok (.iconst 0, 1) := by decide +kernel
theorem dL_law_1050 : decode cL_law 1050 = .ok (.ireturn, 1) := by decide +kernel
theorem dL_law_1051 : decode cL_law 1051 = .ok (.iload 5, 2) := by decide +kernel
theorem dL_law_1053 : decode cL_law 1053 = .ok (.ifCond .ne 15, 3) := by decide +kernel
theorem dL_law_1056 : decode cL_law 1056 = .ok (.aload_n 3, 1) := by decide +kernel
theorem dL_law_1057 : decode cL_law 1057 = .ok (.iconst 0, 1) := by decide +kernel
theorem dL_law_1058 : decode cL_law 1058 = .ok (.laload, 1) := by decide +kernel
theorem dL_law_1059 : decode cL_law 1059 = .ok (.iload 6, 2) := by decide +kernel
theorem dL_law_1061 : decode cL_law 1061 = .ok (.i2l, 1) := by decide +kernel
theorem dL_law_1062 : decode cL_law 1062 = .ok (.lcmp, 1) := by decide +kernel
theorem dL_law_1063 : decode cL_law 1063 = .ok (.ifCond .eq 5, 3) := by decide +kernel
theorem dL_law_1066 : decode cL_law 1066 = .ok (.iconst 0, 1) := by decide +kernel
theorem dL_law_1067 : decode cL_law 1067 = .ok (.ireturn, 1) := by decide +kernel
theorem dL_law_1068 : decode cL_law 1068 = .ok (.goto 1227, 3) := by decide +kernel
set_option maxRecDepth 100000 in
set_option maxHeartbeats 4000000 in
theorem law_15 {p : Program} {l : Launch} {e : Env} {R : Room} {s : State} {m : MethodId} {args : Array Value} {below : List Frame} {meth : Method} {c : Code} {cells slots : Nat} {Q : State → Prop} {D : va_G} {Ca : Nat → ClassId} {B : Nat} {En : State → Prop} {N b L X i : Nat} {xs : Nat → Int32} {z : Int} (C : zC p s m args meth c cL_law RL 9 D Ca B En) (hT : ∀ U, En U → zThr B U) (hT2 : ∀ U, En U → va_Nc (zEx 4) (zEx 1) U ∧ va_Nc (zEx 2) (zEx 1) U) (hl0 : l.stackTraces = false) (ev : zEv) (hZ : ∀ U : State, En U → zEnv ev B U) (hLS : zLS s B b L xs) (hi : i + 6 ≤ L) (hRm : zRm R 2048 84000 (cells + 1) (slots + 6)) (σ : zS) (hJ : J X z σ) (h0 : 0 ≤ z) (hz : z < 700000000)
    (kk : ∀ (σ2 : zS) (N2 : Nat), N ≤ N2 → J X (z + 501) σ2 → zW p l e R s m args below meth c (cells + 1) (slots + 6) Q D Ca B 9 σ2 N2 2295 (lawLv b X i) []) : zW p l e R s m args below meth c cells slots Q D Ca B 9 σ N 975 (lawLv b X i) [] := by
  have hRm0 : zRm R 2048 84000 cells slots := ⟨hRm.1, hRm.2.1, Nat.le_of_succ_le hRm.2.2.1, Nat.le_trans (Nat.le_add_right slots 6) hRm.2.2.2⟩
  have kX := (J_k hJ).1
  have kY := (J_k hJ).2.1
  by_cases hb3 : xs (i + 3) = zi 0
  · rcases j_outChannel hJ h0 hz (xs (i + 1)) (xs (i + 2)) false with ⟨σ1, σ2, a, e1, e2, e3, e4, k1, k2, hJ2⟩ | ⟨σ2, a, k, c, t1, e2, e3, hK, k2, hJ2⟩
    · have kY1 : (σ1.1 (X + 307)).1 = 14 := by rw [k1]; exact kY
      have kY2 : (σ2.1 (X + 307)).1 = 14 := by rw [k2]; exact kY
      refine z_aload_n C dL_law_975 rfl 1 rfl ?_
      refine z_aload_n C dL_law_976 rfl 0 rfl ?_
      refine z_iload C dL_law_977 4 rfl ?_
      refine z_iconst C (zi 1) dL_law_979 (by decide) ?_
      refine z_iadd C dL_law_980 ?_
      refine z_sld C hLS (i + 1) (z_ix i 1) (by omega) dL_law_981 ?_
      refine z_aload_n C dL_law_982 rfl 0 rfl ?_
      refine z_iload C dL_law_983 4 rfl ?_
      refine z_iconst C (zi 2) dL_law_985 (by decide) ?_
      refine z_iadd C dL_law_986 ?_
      refine z_sld C hLS (i + 2) (z_ix i 2) (by omega) dL_law_987 ?_
      refine z_aload_n C dL_law_988 rfl 0 rfl ?_
      refine z_iload C dL_law_989 4 rfl ?_
      refine z_iconst C (zi 3) dL_law_991 (by decide) ?_
      refine z_iadd C dL_law_992 ?_
      refine z_sld C hLS (i + 3) (z_ix i 3) (by omega) dL_law_993 ?_
      refine z_if_eq C 1001 dL_law_994 (by decide) (fun _ => ?_) (fun q => absurd hb3 q)
      refine z_iconst C (zi 0) dL_law_1001 (by decide) ?_
      refine z_aload_n C dL_law_1002 rfl 3 rfl ?_
      refine z_callH (As := [.ref X, .int (xs (i + 1)), .int (xs (i + 2)), .int (zi 0), .ref (X + 322)]) (F0 := 2048) (L0 := 84000) C (mL_outChannel l D Ca B En C.2.2.2.2.2.2.2.1 σ N X (xs (i + 1)) (xs (i + 2)) (zi 0) (X + 322) (σ1, zi 0) e1) hRm0 kw_1061 kw_0 kw_1059 kw_1060 hyL_outChannel (Nat.le_of_ble_eq_true rfl) (Nat.le_of_ble_eq_true rfl) rfl rfl (Nat.le_of_ble_eq_true rfl) dL_law_1003 hRm.2.2.1 hRm.2.2.2 (fun N2 hN => ?_)
      refine z_istore (lv2 := [(5, .int (zi 0)), (0, .ref b), (1, .ref X), (2, .ref (X + 307)), (3, .ref (X + 322)), (4, .int (zi (i : Int)))]) C dL_law_1006 (by decide) rfl ?_
      refine z_aload_n C dL_law_1008 rfl 3 rfl ?_
      refine z_aload_n C dL_law_1009 rfl 1 rfl ?_
      refine z_iload C dL_law_1010 5 rfl ?_
      refine z_iconst C (zi 1) dL_law_1012 (by decide) ?_
      refine z_iadd C dL_law_1013 ?_
      refine z_sld C hLS (i + 1) (z_ix i 1) (by omega) dL_law_1014 ?_
      refine z_aload_n C dL_law_1015 rfl 1 rfl ?_
      refine z_iload C dL_law_1016 5 rfl ?_
      refine z_iconst C (zi 2) dL_law_1018 (by decide) ?_
      refine z_iadd C dL_law_1019 ?_
      refine z_sld C hLS (i + 2) (z_ix i 2) (by omega) dL_law_1020 ?_
      refine z_aload_n C dL_law_1021 rfl 1 rfl ?_
      refine z_iload C dL_law_1022 5 rfl ?_
      refine z_iconst C (zi 3) dL_law_1024 (by decide) ?_
      refine z_iadd C dL_law_1025 ?_
      refine z_sld C hLS (i + 3) (z_ix i 3) (by omega) dL_law_1026 ?_
      refine z_if_eq C 1034 dL_law_1027 (by decide) (fun _ => ?_) (fun q => absurd hb3 q)
      refine z_iconst C (zi 0) dL_law_1034 (by decide) ?_
      refine z_callVi (As := [.int (xs (i + 1)), .int (xs (i + 2)), .int (zi 0)]) (F0 := 2048) (L0 := 84000) C (mX10_outChannel l D Ca B En C.2.2.2.2.2.2.2.1 σ1 N2 (X + 307) (xs (i + 1)) (xs (i + 2)) (zi 0) (σ2, a) e2) hRm kY1 rfl kw_1766 kw_14 kw_1763 kw_1764 kw_1765 hyX10_outChannel (Nat.le_of_ble_eq_true rfl) (Nat.le_of_ble_eq_true rfl) rfl rfl (Nat.le_of_ble_eq_true rfl) dL_law_1035 ?_
      refine z_istore (lv2 := [(6, .int a), (5, .int (zi 0)), (0, .ref b), (1, .ref X), (2, .ref (X + 307)), (3, .ref (X + 322)), (4, .int (zi (i : Int)))]) C dL_law_1038 (by decide) rfl ?_
      refine z_aload_n C dL_law_1040 rfl 4 rfl ?_
      refine z_callVi (As := []) (F0 := 2048) (L0 := 84000) C (mX10_thrown l D Ca B En C.2.2.2.2.2.2.2.1 σ2 N2 (X + 307)  (σ2, (zi 0)) e3) hRm kY2 rfl kw_1365 kw_14 kw_1362 kw_1363 kw_1364 hyX10_thrown (Nat.le_of_ble_eq_true rfl) (Nat.le_of_ble_eq_true rfl) rfl rfl (Nat.le_of_ble_eq_true rfl) dL_law_1041 ?_
      refine z_iload C dL_law_1044 1 rfl ?_
      refine z_icmp_eq C 1051 dL_law_1046 (by decide) (fun _ => ?_) (fun q => absurd rfl q)
      refine z_iload C dL_law_1051 1 rfl ?_
      refine z_if_ne C 1068 dL_law_1053 (by decide) (fun q => absurd rfl q) (fun _ => ?_)
      refine z_aload_n C dL_law_1056 rfl 5 rfl ?_
      refine z_iconst C (zi 0) dL_law_1057 (by decide) ?_
      refine z_aJ C e4 dL_law_1058 ?_
      refine z_iload C dL_law_1059 0 rfl ?_
      refine z_i2l C dL_law_1061 ?_
      refine z_lcmp C dL_law_1062 ?_
      refine z_if_eq C 1068 dL_law_1063 (by decide) (fun _ => ?_) (fun q => absurd (lgc _) q)
      refine z_goto C 2295 dL_law_1068 (by decide) ?_
      refine z_sub [2, 3, 4, 5, 6] rfl ?_
      exact kk σ2 N2 hN hJ2
    · have kY2 : (σ2.1 (X + 307)).1 = 14 := by rw [k2]; exact kY
      obtain ⟨rfl, rfl⟩ := hK
      refine z_aload_n C dL_law_975 rfl 1 rfl ?_
      refine z_aload_n C dL_law_976 rfl 0 rfl ?_
      refine z_iload C dL_law_977 4 rfl ?_
      refine z_iconst C (zi 1) dL_law_979 (by decide) ?_
      refine z_iadd C dL_law_980 ?_
      refine z_sld C hLS (i + 1) (z_ix i 1) (by omega) dL_law_981 ?_
      refine z_aload_n C dL_law_982 rfl 0 rfl ?_
      refine z_iload C dL_law_983 4 rfl ?_
      refine z_iconst C (zi 2) dL_law_985 (by decide) ?_
      refine z_iadd C dL_law_986 ?_
      refine z_sld C hLS (i + 2) (z_ix i 2) (by omega) dL_law_987 ?_
      refine z_aload_n C dL_law_988 rfl 0 rfl ?_
      refine z_iload C dL_law_989 4 rfl ?_
      refine z_iconst C (zi 3) dL_law_991 (by decide) ?_
      refine z_iadd C dL_law_992 ?_
      refine z_sld C hLS (i + 3) (z_ix i 3) (by omega) dL_law_993 ?_
      refine z_if_eq C 1001 dL_law_994 (by decide) (fun _ => ?_) (fun q => absurd hb3 q)
      refine z_iconst C (zi 0) dL_law_1001 (by decide) ?_
      refine z_aload_n C dL_law_1002 rfl 3 rfl ?_
      refine z_callH (As := [.ref X, .int (xs (i + 1)), .int (xs (i + 2)), .int (zi 0), .ref (X + 322)]) (F0 := 2048) (L0 := 84000) C (mxL_outChannel_1 l D Ca B En C.2.2.2.2.2.2.2.1 hT hT2 hl0 σ N X (xs (i + 1)) (xs (i + 2)) (zi 0) (X + 322) kX t1) hRm0 kw_1061 kw_0 kw_1059 kw_1060 hyL_outChannel (Nat.le_of_ble_eq_true rfl) (Nat.le_of_ble_eq_true rfl) rfl rfl (Nat.le_of_ble_eq_true rfl) dL_law_1003 hRm.2.2.1 hRm.2.2.2 (fun N2 hN => ?_)
      refine z_istore (lv2 := [(5, .int (zi 1)), (0, .ref b), (1, .ref X), (2, .ref (X + 307)), (3, .ref (X + 322)), (4, .int (zi (i : Int)))]) C dL_law_1006 (by decide) rfl ?_
      refine z_aload_n C dL_law_1008 rfl 3 rfl ?_
      refine z_aload_n C dL_law_1009 rfl 1 rfl ?_
      refine z_iload C dL_law_1010 5 rfl ?_
      refine z_iconst C (zi 1) dL_law_1012 (by decide) ?_
      refine z_iadd C dL_law_1013 ?_
      refine z_sld C hLS (i + 1) (z_ix i 1) (by omega) dL_law_1014 ?_
      refine z_aload_n C dL_law_1015 rfl 1 rfl ?_
      refine z_iload C dL_law_1016 5 rfl ?_
      refine z_iconst C (zi 2) dL_law_1018 (by decide) ?_
      refine z_iadd C dL_law_1019 ?_
      refine z_sld C hLS (i + 2) (z_ix i 2) (by omega) dL_law_1020 ?_
      refine z_aload_n C dL_law_1021 rfl 1 rfl ?_
      refine z_iload C dL_law_1022 5 rfl ?_
      refine z_iconst C (zi 3) dL_law_1024 (by decide) ?_
      refine z_iadd C dL_law_1025 ?_
      refine z_sld C hLS (i + 3) (z_ix i 3) (by omega) dL_law_1026 ?_
      refine z_if_eq C 1034 dL_law_1027 (by decide) (fun _ => ?_) (fun q => absurd hb3 q)
      refine z_iconst C (zi 0) dL_law_1034 (by decide) ?_
      refine z_callVi (As := [.int (xs (i + 1)), .int (xs (i + 2)), .int (zi 0)]) (F0 := 2048) (L0 := 84000) C (mX10_outChannel l D Ca B En C.2.2.2.2.2.2.2.1 σ N2 (X + 307) (xs (i + 1)) (xs (i + 2)) (zi 0) (σ2, a) e2) hRm kY rfl kw_1766 kw_14 kw_1763 kw_1764 kw_1765 hyX10_outChannel (Nat.le_of_ble_eq_true rfl) (Nat.le_of_ble_eq_true rfl) rfl rfl (Nat.le_of_ble_eq_true rfl) dL_law_1035 ?_
      refine z_istore (lv2 := [(6, .int a), (5, .int (zi 1)), (0, .ref b), (1, .ref X), (2, .ref (X + 307)), (3, .ref (X + 322)), (4, .int (zi (i : Int)))]) C dL_law_1038 (by decide) rfl ?_
      refine z_aload_n C dL_law_1040 rfl 4 rfl ?_
      refine z_callVi (As := []) (F0 := 2048) (L0 := 84000) C (mX10_thrown l D Ca B En C.2.2.2.2.2.2.2.1 σ2 N2 (X + 307)  (σ2, (zi 1)) e3) hRm kY2 rfl kw_1365 kw_14 kw_1362 kw_1363 kw_1364 hyX10_thrown (Nat.le_of_ble_eq_true rfl) (Nat.le_of_ble_eq_true rfl) rfl rfl (Nat.le_of_ble_eq_true rfl) dL_law_1041 ?_
      refine z_iload C dL_law_1044 1 rfl ?_
      refine z_icmp_eq C 1051 dL_law_1046 (by decide) (fun _ => ?_) (fun q => absurd rfl q)
      refine z_iload C dL_law_1051 1 rfl ?_
      refine z_if_ne C 1068 dL_law_1053 (by decide) (fun _ => ?_) (fun q => absurd q (by decide))
      refine z_goto C 2295 dL_law_1068 (by decide) ?_
      refine z_sub [2, 3, 4, 5, 6] rfl ?_
      exact kk σ2 N2 hN hJ2
  · rcases j_outChannel hJ h0 hz (xs (i + 1)) (xs (i + 2)) true with ⟨σ1, σ2, a, e1, e2, e3, e4, k1, k2, hJ2⟩ | ⟨σ2, a, k, c, t1, e2, e3, hK, k2, hJ2⟩
    · have kY1 : (σ1.1 (X + 307)).1 = 14 := by rw [k1]; exact kY
      have kY2 : (σ2.1 (X + 307)).1 = 14 := by rw [k2]; exact kY
      refine z_aload_n C dL_law_975 rfl 1 rfl ?_
      refine z_aload_n C dL_law_976 rfl 0 rfl ?_
      refine z_iload C dL_law_977 4 rfl ?_
      refine z_iconst C (zi 1) dL_law_979 (by decide) ?_
      refine z_iadd C dL_law_980 ?_
      refine z_sld C hLS (i + 1) (z_ix i 1) (by omega) dL_law_981 ?_
      refine z_aload_n C dL_law_982 rfl 0 rfl ?_
      refine z_iload C dL_law_983 4 rfl ?_
      refine z_iconst C (zi 2) dL_law_985 (by decide) ?_
      refine z_iadd C dL_law_986 ?_
      refine z_sld C hLS (i + 2) (z_ix i 2) (by omega) dL_law_987 ?_
      refine z_aload_n C dL_law_988 rfl 0 rfl ?_
      refine z_iload C dL_law_989 4 rfl ?_
      refine z_iconst C (zi 3) dL_law_991 (by decide) ?_
      refine z_iadd C dL_law_992 ?_
      refine z_sld C hLS (i + 3) (z_ix i 3) (by omega) dL_law_993 ?_
      refine z_if_eq C 1001 dL_law_994 (by decide) (fun q => absurd q hb3) (fun _ => ?_)
      refine z_iconst C (zi 1) dL_law_997 (by decide) ?_
      refine z_goto C 1002 dL_law_998 (by decide) ?_
      refine z_aload_n C dL_law_1002 rfl 3 rfl ?_
      refine z_callH (As := [.ref X, .int (xs (i + 1)), .int (xs (i + 2)), .int (zi 1), .ref (X + 322)]) (F0 := 2048) (L0 := 84000) C (mL_outChannel l D Ca B En C.2.2.2.2.2.2.2.1 σ N X (xs (i + 1)) (xs (i + 2)) (zi 1) (X + 322) (σ1, zi 0) e1) hRm0 kw_1061 kw_0 kw_1059 kw_1060 hyL_outChannel (Nat.le_of_ble_eq_true rfl) (Nat.le_of_ble_eq_true rfl) rfl rfl (Nat.le_of_ble_eq_true rfl) dL_law_1003 hRm.2.2.1 hRm.2.2.2 (fun N2 hN => ?_)
      refine z_istore (lv2 := [(5, .int (zi 0)), (0, .ref b), (1, .ref X), (2, .ref (X + 307)), (3, .ref (X + 322)), (4, .int (zi (i : Int)))]) C dL_law_1006 (by decide) rfl ?_
      refine z_aload_n C dL_law_1008 rfl 3 rfl ?_
      refine z_aload_n C dL_law_1009 rfl 1 rfl ?_
      refine z_iload C dL_law_1010 5 rfl ?_
      refine z_iconst C (zi 1) dL_law_1012 (by decide) ?_
      refine z_iadd C dL_law_1013 ?_
      refine z_sld C hLS (i + 1) (z_ix i 1) (by omega) dL_law_1014 ?_
      refine z_aload_n C dL_law_1015 rfl 1 rfl ?_
      refine z_iload C dL_law_1016 5 rfl ?_
      refine z_iconst C (zi 2) dL_law_1018 (by decide) ?_
      refine z_iadd C dL_law_1019 ?_
      refine z_sld C hLS (i + 2) (z_ix i 2) (by omega) dL_law_1020 ?_
      refine z_aload_n C dL_law_1021 rfl 1 rfl ?_
      refine z_iload C dL_law_1022 5 rfl ?_
      refine z_iconst C (zi 3) dL_law_1024 (by decide) ?_
      refine z_iadd C dL_law_1025 ?_
      refine z_sld C hLS (i + 3) (z_ix i 3) (by omega) dL_law_1026 ?_
      refine z_if_eq C 1034 dL_law_1027 (by decide) (fun q => absurd q hb3) (fun _ => ?_)
      refine z_iconst C (zi 1) dL_law_1030 (by decide) ?_
      refine z_goto C 1035 dL_law_1031 (by decide) ?_
      refine z_callVi (As := [.int (xs (i + 1)), .int (xs (i + 2)), .int (zi 1)]) (F0 := 2048) (L0 := 84000) C (mX10_outChannel l D Ca B En C.2.2.2.2.2.2.2.1 σ1 N2 (X + 307) (xs (i + 1)) (xs (i + 2)) (zi 1) (σ2, a) e2) hRm kY1 rfl kw_1766 kw_14 kw_1763 kw_1764 kw_1765 hyX10_outChannel (Nat.le_of_ble_eq_true rfl) (Nat.le_of_ble_eq_true rfl) rfl rfl (Nat.le_of_ble_eq_true rfl) dL_law_1035 ?_
      refine z_istore (lv2 := [(6, .int a), (5, .int (zi 0)), (0, .ref b), (1, .ref X), (2, .ref (X + 307)), (3, .ref (X + 322)), (4, .int (zi (i : Int)))]) C dL_law_1038 (by decide) rfl ?_
      refine z_aload_n C dL_law_1040 rfl 4 rfl ?_
      refine z_callVi (As := []) (F0 := 2048) (L0 := 84000) C (mX10_thrown l D Ca B En C.2.2.2.2.2.2.2.1 σ2 N2 (X + 307)  (σ2, (zi 0)) e3) hRm kY2 rfl kw_1365 kw_14 kw_1362 kw_1363 kw_1364 hyX10_thrown (Nat.le_of_ble_eq_true rfl) (Nat.le_of_ble_eq_true rfl) rfl rfl (Nat.le_of_ble_eq_true rfl) dL_law_1041 ?_
      refine z_iload C dL_law_1044 1 rfl ?_
      refine z_icmp_eq C 1051 dL_law_1046 (by decide) (fun _ => ?_) (fun q => absurd rfl q)
      refine z_iload C dL_law_1051 1 rfl ?_
      refine z_if_ne C 1068 dL_law_1053 (by decide) (fun q => absurd rfl q) (fun _ => ?_)
      refine z_aload_n C dL_law_1056 rfl 5 rfl ?_
      refine z_iconst C (zi 0) dL_law_1057 (by decide) ?_
      refine z_aJ C e4 dL_law_1058 ?_
      refine z_iload C dL_law_1059 0 rfl ?_
      refine z_i2l C dL_law_1061 ?_
      refine z_lcmp C dL_law_1062 ?_
      refine z_if_eq C 1068 dL_law_1063 (by decide) (fun _ => ?_) (fun q => absurd (lgc _) q)
      refine z_goto C 2295 dL_law_1068 (by decide) ?_
      refine z_sub [2, 3, 4, 5, 6] rfl ?_
      exact kk σ2 N2 hN hJ2
    · have kY2 : (σ2.1 (X + 307)).1 = 14 := by rw [k2]; exact kY
      obtain ⟨rfl, rfl⟩ := hK
      refine z_aload_n C dL_law_975 rfl 1 rfl ?_
      refine z_aload_n C dL_law_976 rfl 0 rfl ?_
      refine z_iload C dL_law_977 4 rfl ?_
      refine z_iconst C (zi 1) dL_law_979 (by decide) ?_
      refine z_iadd C dL_law_980 ?_
      refine z_sld C hLS (i + 1) (z_ix i 1) (by omega) dL_law_981 ?_
      refine z_aload_n C dL_law_982 rfl 0 rfl ?_
      refine z_iload C dL_law_983 4 rfl ?_
      refine z_iconst C (zi 2) dL_law_985 (by decide) ?_
      refine z_iadd C dL_law_986 ?_
      refine z_sld C hLS (i + 2) (z_ix i 2) (by omega) dL_law_987 ?_
      refine z_aload_n C dL_law_988 rfl 0 rfl ?_
      refine z_iload C dL_law_989 4 rfl ?_
      refine z_iconst C (zi 3) dL_law_991 (by decide) ?_
      refine z_iadd C dL_law_992 ?_
      refine z_sld C hLS (i + 3) (z_ix i 3) (by omega) dL_law_993 ?_
      refine z_if_eq C 1001 dL_law_994 (by decide) (fun q => absurd q hb3) (fun _ => ?_)
      refine z_iconst C (zi 1) dL_law_997 (by decide) ?_
      refine z_goto C 1002 dL_law_998 (by decide) ?_
      refine z_aload_n C dL_law_1002 rfl 3 rfl ?_
      refine z_callH (As := [.ref X, .int (xs (i + 1)), .int (xs (i + 2)), .int (zi 1), .ref (X + 322)]) (F0 := 2048) (L0 := 84000) C (mxL_outChannel_1 l D Ca B En C.2.2.2.2.2.2.2.1 hT hT2 hl0 σ N X (xs (i + 1)) (xs (i + 2)) (zi 1) (X + 322) kX t1) hRm0 kw_1061 kw_0 kw_1059 kw_1060 hyL_outChannel (Nat.le_of_ble_eq_true rfl) (Nat.le_of_ble_eq_true rfl) rfl rfl (Nat.le_of_ble_eq_true rfl) dL_law_1003 hRm.2.2.1 hRm.2.2.2 (fun N2 hN => ?_)
      refine z_istore (lv2 := [(5, .int (zi 1)), (0, .ref b), (1, .ref X), (2, .ref (X + 307)), (3, .ref (X + 322)), (4, .int (zi (i : Int)))]) C dL_law_1006 (by decide) rfl ?_
      refine z_aload_n C dL_law_1008 rfl 3 rfl ?_
      refine z_aload_n C dL_law_1009 rfl 1 rfl ?_
      refine z_iload C dL_law_1010 5 rfl ?_
      refine z_iconst C (zi 1) dL_law_1012 (by decide) ?_
      refine z_iadd C dL_law_1013 ?_
      refine z_sld C hLS (i + 1) (z_ix i 1) (by omega) dL_law_1014 ?_
      refine z_aload_n C dL_law_1015 rfl 1 rfl ?_
      refine z_iload C dL_law_1016 5 rfl ?_
      refine z_iconst C (zi 2) dL_law_1018 (by decide) ?_
      refine z_iadd C dL_law_1019 ?_
      refine z_sld C hLS (i + 2) (z_ix i 2) (by omega) dL_law_1020 ?_
      refine z_aload_n C dL_law_1021 rfl 1 rfl ?_
      refine z_iload C dL_law_1022 5 rfl ?_
      refine z_iconst C (zi 3) dL_law_1024 (by decide) ?_
      refine z_iadd C dL_law_1025 ?_
      refine z_sld C hLS (i + 3) (z_ix i 3) (by omega) dL_law_1026 ?_
      refine z_if_eq C 1034 dL_law_1027 (by decide) (fun q => absurd q hb3) (fun _ => ?_)
      refine z_iconst C (zi 1) dL_law_1030 (by decide) ?_
      refine z_goto C 1035 dL_law_1031 (by decide) ?_
      refine z_callVi (As := [.int (xs (i + 1)), .int (xs (i + 2)), .int (zi 1)]) (F0 := 2048) (L0 := 84000) C (mX10_outChannel l D Ca B En C.2.2.2.2.2.2.2.1 σ N2 (X + 307) (xs (i + 1)) (xs (i + 2)) (zi 1) (σ2, a) e2) hRm kY rfl kw_1766 kw_14 kw_1763 kw_1764 kw_1765 hyX10_outChannel (Nat.le_of_ble_eq_true rfl) (Nat.le_of_ble_eq_true rfl) rfl rfl (Nat.le_of_ble_eq_true rfl) dL_law_1035 ?_
      refine z_istore (lv2 := [(6, .int a), (5, .int (zi 1)), (0, .ref b), (1, .ref X), (2, .ref (X + 307)), (3, .ref (X + 322)), (4, .int (zi (i : Int)))]) C dL_law_1038 (by decide) rfl ?_
      refine z_aload_n C dL_law_1040 rfl 4 rfl ?_
      refine z_callVi (As := []) (F0 := 2048) (L0 := 84000) C (mX10_thrown l D Ca B En C.2.2.2.2.2.2.2.1 σ2 N2 (X + 307)  (σ2, (zi 1)) e3) hRm kY2 rfl kw_1365 kw_14 kw_1362 kw_1363 kw_1364 hyX10_thrown (Nat.le_of_ble_eq_true rfl) (Nat.le_of_ble_eq_true rfl) rfl rfl (Nat.le_of_ble_eq_true rfl) dL_law_1041 ?_
      refine z_iload C dL_law_1044 1 rfl ?_
      refine z_icmp_eq C 1051 dL_law_1046 (by decide) (fun _ => ?_) (fun q => absurd rfl q)
      refine z_iload C dL_law_1051 1 rfl ?_
      refine z_if_ne C 1068 dL_law_1053 (by decide) (fun _ => ?_) (fun q => absurd q (by decide))
      refine z_goto C 2295 dL_law_1068 (by decide) ?_
      refine z_sub [2, 3, 4, 5, 6] rfl ?_
      exact kk σ2 N2 hN hJ2
