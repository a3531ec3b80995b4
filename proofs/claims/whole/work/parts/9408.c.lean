/-! The law's cases 14 -/
theorem dL_law_879 : decode cL_law 879 = .ok (.aload_n 1, 1) := by decide +kernel
theorem dL_law_880 : decode cL_law 880 = .ok (.aload_n 0, 1) := by decide +kernel
theorem dL_law_881 : decode cL_law 881 = .ok (.iload 4, 2) := by decide +kernel
theorem dL_law_883 : decode cL_law 883 = .ok (.iconst 1, 1) := by decide +kernel
theorem dL_law_884 : decode cL_law 884 = .ok (.iadd, 1) := by decide +kernel
theorem dL_law_885 : decode cL_law 885 = .ok (.iaload, 1) := by decide +kernel
theorem dL_law_886 : decode cL_law 886 = .ok (.aload_n 0, 1) := by decide +kernel
theorem dL_law_887 : decode cL_law 887 = .ok (.iload 4, 2) := by decide +kernel
theorem dL_law_889 : decode cL_law 889 = .ok (.iconst 2, 1) := by decide +kernel
theorem dL_law_890 : decode cL_law 890 = .ok (.iadd, 1) := by decide +kernel
theorem dL_law_891 : decode cL_law 891 = .ok (.iaload, 1) := by decide +kernel
theorem dL_law_892 : decode cL_law 892 = .ok (.aload_n 0, 1) := by decide +kernel
theorem dL_law_893 : decode cL_law 893 = .ok (.iload 4, 2) := by decide +kernel
theorem dL_law_895 : decode cL_law 895 = .ok (.iconst 3, 1) := by decide +kernel
theorem dL_law_896 : decode cL_law 896 = .ok (.iadd, 1) := by decide +kernel
theorem dL_law_897 : decode cL_law 897 = .ok (.iaload, 1) := by decide +kernel
theorem dL_law_898 : decode cL_law 898 = .ok (.ifCond .eq 7, 3) := by decide +kernel
theorem dL_law_901 : decode cL_law 901 = .ok (.iconst 1, 1) := by decide +kernel
theorem dL_law_902 : decode cL_law 902 = .ok (.goto 4, 3) := by decide +kernel
theorem dL_law_905 : decode cL_law 905 = .ok (.iconst 0, 1) := by decide +kernel
theorem dL_law_906 : decode cL_law 906 = .ok (.aload_n 3, 1) := by decide +kernel
theorem dL_law_907 : decode cL_law 907 = .ok (.invokestatic 165, 3) := by decide +kernel
theorem dL_law_910 : decode cL_law 910 = .ok (.istore 5, 2) := by decide +kernel
theorem dL_law_912 : decode cL_law 912 = .ok (.aload_n 2, 1) := by decide +kernel
theorem dL_law_913 : decode cL_law 913 = .ok (.aload_n 0, 1) := by decide +kernel
theorem dL_law_914 : decode cL_law 914 = .ok (.iload 4, 2) := by decide +kernel
theorem dL_law_916 : decode cL_law 916 = .ok (.iconst 1, 1) := by decide +kernel
theorem dL_law_917 : decode cL_law 917 = .ok (.iadd, 1) := by decide +kernel
theorem dL_law_918 : decode cL_law 918 = .ok (.iaload, 1) := by decide +kernel
theorem dL_law_919 : decode cL_law 919 = .ok (.aload_n 0, 1) := by decide +kernel
theorem dL_law_920 : decode cL_law 920 = .ok (.iload 4, 2) := by decide +kernel
theorem dL_law_922 : decode cL_law 922 = .ok (.iconst 2, 1) := by decide +kernel
theorem dL_law_923 : decode cL_law 923 = .ok (.iadd, 1) := by decide +kernel
theorem dL_law_924 : decode cL_law 924 = .ok (.iaload, 1) := by decide +kernel
theorem dL_law_925 : decode cL_law 925 = .ok (.aload_n 0, 1) := by decide +kernel
theorem dL_law_926 : decode cL_law 926 = .ok (.iload 4, 2) := by decide +kernel
theorem dL_law_928 : decode cL_law 928 = .ok (.iconst 3, 1) := by decide +kernel
theorem dL_law_929 : decode cL_law 929 = .ok (.iadd, 1) := by decide +kernel
theorem dL_law_930 : decode cL_law 930 = .ok (.iaload, 1) := by decide +kernel
theorem dL_law_931 : decode cL_law 931 = .ok (.ifCond .eq 7, 3) := by decide +kernel
theorem dL_law_934 : decode cL_law 934 = .ok (.iconst 1, 1) := by decide +kernel
theorem dL_law_935 : decode cL_law 935 = .ok (.goto 4, 3) := by decide +kernel
theorem dL_law_938 : decode cL_law 938 = .ok (.iconst 0, 1) := by decide +kernel
theorem dL_law_939 : decode cL_law 939 = .ok (.invokevirtual 168, 3) := by decide +kernel
theorem dL_law_942 : decode cL_law 942 = .ok (.istore 6, 2) := by decide +kernel
theorem dL_law_944 : decode cL_law 944 = .ok (.aload_n 2, 1) := by decide +kernel
theorem dL_law_945 : decode cL_law 945 = .ok (.invokevirtual 142, 3) := by decide +kernel
theorem dL_law_948 : decode cL_law 948 = .ok (.iload 5, 2) := by decide +kernel
theorem dL_law_950 : decode cL_law 950 = .ok (.if_icmp .eq 5, 3) := by decide +kernel
theorem dL_law_953 : decode cL_law 953 = .ok (.iconst 0, 1) := by decide +kernel
theorem dL_law_954 : decode cL_law 954 = .ok (.ireturn, 1) := by decide +kernel
theorem dL_law_955 : decode cL_law 955 = .ok (.iload 5, 2) := by decide +kernel
theorem dL_law_957 : decode cL_law 957 = .ok (.ifCond .ne 15, 3) := by decide +kernel
theorem dL_law_960 : decode cL_law 960 = .ok (.aload_n 3, 1) := by decide +kernel
theorem dL_law_961 : decode cL_law 961 = .ok (.iconst 0, 1) := by decide +kernel
theorem dL_law_962 : decode cL_law 962 = .ok (.laload, 1) := by decide +kernel
theorem dL_law_963 : decode cL_law 963 = .ok (.iload 6, 2) := by decide +kernel
theorem dL_law_965 : decode cL_law 965 = .ok (.i2l, 1) := by decide +kernel
theorem dL_law_966 : decode cL_law 966 = .ok (.lcmp, 1) := by decide +kernel
theorem dL_law_967 : decode cL_law 967 = .ok (.ifCond .eq 5, 3) := by decide +kernel
theorem dL_law_970 : decode cL_law 970 = .ok (.iconst 0, 1) := by decide +kernel
theorem dL_law_971 : decode cL_law 971 = .ok (.ireturn, 1) := by decide +kernel
theorem dL_law_972 : decode cL_law 972 = .ok (.goto 1323, 3) := by decide +kernel
set_option maxRecDepth 100000 in
set_option maxHeartbeats 4000000 in
theorem law_14 {p : Program} {l : Launch} {e : Env} {R : Room} {s : State} {m : MethodId} {args : Array Value} {below : List Frame} {meth : Method} {c : Code} {cells slots : Nat} {Q : State → Prop} {D : va_G} {Ca : Nat → ClassId} {B : Nat} {En : State → Prop} {N b L X i : Nat} {xs : Nat → Int32} {z : Int} (C : zC p s m args meth c cL_law RL 9 D Ca B En) (hT : ∀ U, En U → zThr B U) (hT2 : ∀ U, En U → va_Nc (zEx 4) (zEx 1) U ∧ va_Nc (zEx 2) (zEx 1) U) (hl0 : l.stackTraces = false) (ev : zEv) (hZ : ∀ U : State, En U → zEnv ev B U) (hLS : zLS s B b L xs) (hi : i + 6 ≤ L) (hRm : zRm R 2048 84000 (cells + 1) (slots + 6)) (σ : zS) (hJ : J X z σ) (h0 : 0 ≤ z) (hz : z < 700000000)
    (kk : ∀ (σ2 : zS) (N2 : Nat), N ≤ N2 → J X (z + 501) σ2 → zW p l e R s m args below meth c (cells + 1) (slots + 6) Q D Ca B 9 σ2 N2 2295 (lawLv b X i) []) : zW p l e R s m args below meth c cells slots Q D Ca B 9 σ N 879 (lawLv b X i) [] := by
  have hRm0 : zRm R 2048 84000 cells slots := ⟨hRm.1, hRm.2.1, Nat.le_of_succ_le hRm.2.2.1, Nat.le_trans (Nat.le_add_right slots 6) hRm.2.2.2⟩
  have kX := (J_k hJ).1
  have kY := (J_k hJ).2.1
  by_cases hb3 : xs (i + 3) = zi 0
  · rcases j_inChannel hJ h0 hz (xs (i + 1)) (xs (i + 2)) false with ⟨σ1, σ2, a, e1, e2, e3, e4, k1, k2, hJ2⟩ | ⟨σ2, a, k, c, t1, e2, e3, hK, k2, hJ2⟩
    · have kY1 : (σ1.1 (X + 307)).1 = 14 := by rw [k1]; exact kY
      have kY2 : (σ2.1 (X + 307)).1 = 14 := by rw [k2]; exact kY
      refine z_aload_n C dL_law_879 rfl 1 rfl ?_
      refine z_aload_n C dL_law_880 rfl 0 rfl ?_
      refine z_iload C dL_law_881 4 rfl ?_
      refine z_iconst C (zi 1) dL_law_883 (by decide) ?_
      refine z_iadd C dL_law_884 ?_
      refine z_sld C hLS (i + 1) (z_ix i 1) (by omega) dL_law_885 ?_
      refine z_aload_n C dL_law_886 rfl 0 rfl ?_
      refine z_iload C dL_law_887 4 rfl ?_
      refine z_iconst C (zi 2) dL_law_889 (by decide) ?_
      refine z_iadd C dL_law_890 ?_
      refine z_sld C hLS (i + 2) (z_ix i 2) (by omega) dL_law_891 ?_
      refine z_aload_n C dL_law_892 rfl 0 rfl ?_
      refine z_iload C dL_law_893 4 rfl ?_
      refine z_iconst C (zi 3) dL_law_895 (by decide) ?_
      refine z_iadd C dL_law_896 ?_
      refine z_sld C hLS (i + 3) (z_ix i 3) (by omega) dL_law_897 ?_
      refine z_if_eq C 905 dL_law_898 (by decide) (fun _ => ?_) (fun q => absurd hb3 q)
      refine z_iconst C (zi 0) dL_law_905 (by decide) ?_
      refine z_aload_n C dL_law_906 rfl 3 rfl ?_
      refine z_callH (As := [.ref X, .int (xs (i + 1)), .int (xs (i + 2)), .int (zi 0), .ref (X + 322)]) (F0 := 2048) (L0 := 84000) C (mL_inChannel l D Ca B En C.2.2.2.2.2.2.2.1 σ N X (xs (i + 1)) (xs (i + 2)) (zi 0) (X + 322) (σ1, zi 0) e1) hRm0 kw_1050 kw_0 kw_1048 kw_1049 hyL_inChannel (Nat.le_of_ble_eq_true rfl) (Nat.le_of_ble_eq_true rfl) rfl rfl (Nat.le_of_ble_eq_true rfl) dL_law_907 hRm.2.2.1 hRm.2.2.2 (fun N2 hN => ?_)
      refine z_istore (lv2 := [(5, .int (zi 0)), (0, .ref b), (1, .ref X), (2, .ref (X + 307)), (3, .ref (X + 322)), (4, .int (zi (i : Int)))]) C dL_law_910 (by decide) rfl ?_
      refine z_aload_n C dL_law_912 rfl 3 rfl ?_
      refine z_aload_n C dL_law_913 rfl 1 rfl ?_
      refine z_iload C dL_law_914 5 rfl ?_
      refine z_iconst C (zi 1) dL_law_916 (by decide) ?_
      refine z_iadd C dL_law_917 ?_
      refine z_sld C hLS (i + 1) (z_ix i 1) (by omega) dL_law_918 ?_
      refine z_aload_n C dL_law_919 rfl 1 rfl ?_
      refine z_iload C dL_law_920 5 rfl ?_
      refine z_iconst C (zi 2) dL_law_922 (by decide) ?_
      refine z_iadd C dL_law_923 ?_
      refine z_sld C hLS (i + 2) (z_ix i 2) (by omega) dL_law_924 ?_
      refine z_aload_n C dL_law_925 rfl 1 rfl ?_
      refine z_iload C dL_law_926 5 rfl ?_
      refine z_iconst C (zi 3) dL_law_928 (by decide) ?_
      refine z_iadd C dL_law_929 ?_
      refine z_sld C hLS (i + 3) (z_ix i 3) (by omega) dL_law_930 ?_
      refine z_if_eq C 938 dL_law_931 (by decide) (fun _ => ?_) (fun q => absurd hb3 q)
      refine z_iconst C (zi 0) dL_law_938 (by decide) ?_
      refine z_callVi (As := [.int (xs (i + 1)), .int (xs (i + 2)), .int (zi 0)]) (F0 := 2048) (L0 := 84000) C (mX10_inChannel l D Ca B En C.2.2.2.2.2.2.2.1 σ1 N2 (X + 307) (xs (i + 1)) (xs (i + 2)) (zi 0) (σ2, a) e2) hRm kY1 rfl kw_1762 kw_14 kw_1759 kw_1760 kw_1761 hyX10_inChannel (Nat.le_of_ble_eq_true rfl) (Nat.le_of_ble_eq_true rfl) rfl rfl (Nat.le_of_ble_eq_true rfl) dL_law_939 ?_
      refine z_istore (lv2 := [(6, .int a), (5, .int (zi 0)), (0, .ref b), (1, .ref X), (2, .ref (X + 307)), (3, .ref (X + 322)), (4, .int (zi (i : Int)))]) C dL_law_942 (by decide) rfl ?_
      refine z_aload_n C dL_law_944 rfl 4 rfl ?_
      refine z_callVi (As := []) (F0 := 2048) (L0 := 84000) C (mX10_thrown l D Ca B En C.2.2.2.2.2.2.2.1 σ2 N2 (X + 307)  (σ2, (zi 0)) e3) hRm kY2 rfl kw_1365 kw_14 kw_1362 kw_1363 kw_1364 hyX10_thrown (Nat.le_of_ble_eq_true rfl) (Nat.le_of_ble_eq_true rfl) rfl rfl (Nat.le_of_ble_eq_true rfl) dL_law_945 ?_
      refine z_iload C dL_law_948 1 rfl ?_
      refine z_icmp_eq C 955 dL_law_950 (by decide) (fun _ => ?_) (fun q => absurd rfl q)
      refine z_iload C dL_law_955 1 rfl ?_
      refine z_if_ne C 972 dL_law_957 (by decide) (fun q => absurd rfl q) (fun _ => ?_)
      refine z_aload_n C dL_law_960 rfl 5 rfl ?_
      refine z_iconst C (zi 0) dL_law_961 (by decide) ?_
      refine z_aJ C e4 dL_law_962 ?_
      refine z_iload C dL_law_963 0 rfl ?_
      refine z_i2l C dL_law_965 ?_
      refine z_lcmp C dL_law_966 ?_
      refine z_if_eq C 972 dL_law_967 (by decide) (fun _ => ?_) (fun q => absurd (lgc _) q)
      refine z_goto C 2295 dL_law_972 (by decide) ?_
      refine z_sub [2, 3, 4, 5, 6] rfl ?_
      exact kk σ2 N2 hN hJ2
    · have kY2 : (σ2.1 (X + 307)).1 = 14 := by rw [k2]; exact kY
      obtain ⟨rfl, rfl⟩ := hK
      refine z_aload_n C dL_law_879 rfl 1 rfl ?_
      refine z_aload_n C dL_law_880 rfl 0 rfl ?_
      refine z_iload C dL_law_881 4 rfl ?_
      refine z_iconst C (zi 1) dL_law_883 (by decide) ?_
      refine z_iadd C dL_law_884 ?_
      refine z_sld C hLS (i + 1) (z_ix i 1) (by omega) dL_law_885 ?_
      refine z_aload_n C dL_law_886 rfl 0 rfl ?_
      refine z_iload C dL_law_887 4 rfl ?_
      refine z_iconst C (zi 2) dL_law_889 (by decide) ?_
      refine z_iadd C dL_law_890 ?_
      refine z_sld C hLS (i + 2) (z_ix i 2) (by omega) dL_law_891 ?_
      refine z_aload_n C dL_law_892 rfl 0 rfl ?_
      refine z_iload C dL_law_893 4 rfl ?_
      refine z_iconst C (zi 3) dL_law_895 (by decide) ?_
      refine z_iadd C dL_law_896 ?_
      refine z_sld C hLS (i + 3) (z_ix i 3) (by omega) dL_law_897 ?_
      refine z_if_eq C 905 dL_law_898 (by decide) (fun _ => ?_) (fun q => absurd hb3 q)
      refine z_iconst C (zi 0) dL_law_905 (by decide) ?_
      refine z_aload_n C dL_law_906 rfl 3 rfl ?_
      refine z_callH (As := [.ref X, .int (xs (i + 1)), .int (xs (i + 2)), .int (zi 0), .ref (X + 322)]) (F0 := 2048) (L0 := 84000) C (mxL_inChannel_1 l D Ca B En C.2.2.2.2.2.2.2.1 hT hT2 hl0 σ N X (xs (i + 1)) (xs (i + 2)) (zi 0) (X + 322) kX t1) hRm0 kw_1050 kw_0 kw_1048 kw_1049 hyL_inChannel (Nat.le_of_ble_eq_true rfl) (Nat.le_of_ble_eq_true rfl) rfl rfl (Nat.le_of_ble_eq_true rfl) dL_law_907 hRm.2.2.1 hRm.2.2.2 (fun N2 hN => ?_)
      refine z_istore (lv2 := [(5, .int (zi 1)), (0, .ref b), (1, .ref X), (2, .ref (X + 307)), (3, .ref (X + 322)), (4, .int (zi (i : Int)))]) C dL_law_910 (by decide) rfl ?_
      refine z_aload_n C dL_law_912 rfl 3 rfl ?_
      refine z_aload_n C dL_law_913 rfl 1 rfl ?_
      refine z_iload C dL_law_914 5 rfl ?_
      refine z_iconst C (zi 1) dL_law_916 (by decide) ?_
      refine z_iadd C dL_law_917 ?_
      refine z_sld C hLS (i + 1) (z_ix i 1) (by omega) dL_law_918 ?_
      refine z_aload_n C dL_law_919 rfl 1 rfl ?_
      refine z_iload C dL_law_920 5 rfl ?_
      refine z_iconst C (zi 2) dL_law_922 (by decide) ?_
      refine z_iadd C dL_law_923 ?_
      refine z_sld C hLS (i + 2) (z_ix i 2) (by omega) dL_law_924 ?_
      refine z_aload_n C dL_law_925 rfl 1 rfl ?_
      refine z_iload C dL_law_926 5 rfl ?_
      refine z_iconst C (zi 3) dL_law_928 (by decide) ?_
      refine z_iadd C dL_law_929 ?_
      refine z_sld C hLS (i + 3) (z_ix i 3) (by omega) dL_law_930 ?_
      refine z_if_eq C 938 dL_law_931 (by decide) (fun _ => ?_) (fun q => absurd hb3 q)
      refine z_iconst C (zi 0) dL_law_938 (by decide) ?_
      refine z_callVi (As := [.int (xs (i + 1)), .int (xs (i + 2)), .int (zi 0)]) (F0 := 2048) (L0 := 84000) C (mX10_inChannel l D Ca B En C.2.2.2.2.2.2.2.1 σ N2 (X + 307) (xs (i + 1)) (xs (i + 2)) (zi 0) (σ2, a) e2) hRm kY rfl kw_1762 kw_14 kw_1759 kw_1760 kw_1761 hyX10_inChannel (Nat.le_of_ble_eq_true rfl) (Nat.le_of_ble_eq_true rfl) rfl rfl (Nat.le_of_ble_eq_true rfl) dL_law_939 ?_
      refine z_istore (lv2 := [(6, .int a), (5, .int (zi 1)), (0, .ref b), (1, .ref X), (2, .ref (X + 307)), (3, .ref (X + 322)), (4, .int (zi (i : Int)))]) C dL_law_942 (by decide) rfl ?_
      refine z_aload_n C dL_law_944 rfl 4 rfl ?_
      refine z_callVi (As := []) (F0 := 2048) (L0 := 84000) C (mX10_thrown l D Ca B En C.2.2.2.2.2.2.2.1 σ2 N2 (X + 307)  (σ2, (zi 1)) e3) hRm kY2 rfl kw_1365 kw_14 kw_1362 kw_1363 kw_1364 hyX10_thrown (Nat.le_of_ble_eq_true rfl) (Nat.le_of_ble_eq_true rfl) rfl rfl (Nat.le_of_ble_eq_true rfl) dL_law_945 ?_
      refine z_iload C dL_law_948 1 rfl ?_
      refine z_icmp_eq C 955 dL_law_950 (by decide) (fun _ => ?_) (fun q => absurd rfl q)
      refine z_iload C dL_law_955 1 rfl ?_
      refine z_if_ne C 972 dL_law_957 (by decide) (fun _ => ?_) (fun q => absurd q (by decide))
      refine z_goto C 2295 dL_law_972 (by decide) ?_
      refine z_sub [2, 3, 4, 5, 6] rfl ?_
      exact kk σ2 N2 hN hJ2
  · rcases j_inChannel hJ h0 hz (xs (i + 1)) (xs (i + 2)) true with ⟨σ1, σ2, a, e1, e2, e3, e4, k1, k2, hJ2⟩ | ⟨σ2, a, k, c, t1, e2, e3, hK, k2, hJ2⟩
    · have kY1 : (σ1.1 (X + 307)).1 = 14 := by rw [k1]; exact kY
      have kY2 : (σ2.1 (X + 307)).1 = 14 := by rw [k2]; exact kY
      refine z_aload_n C dL_law_879 rfl 1 rfl ?_
      refine z_aload_n C dL_law_880 rfl 0 rfl ?_
      refine z_iload C dL_law_881 4 rfl ?_
      refine z_iconst C (zi 1) dL_law_883 (by decide) ?_
      refine z_iadd C dL_law_884 ?_
      refine z_sld C hLS (i + 1) (z_ix i 1) (by omega) dL_law_885 ?_
      refine z_aload_n C dL_law_886 rfl 0 rfl ?_
      refine z_iload C dL_law_887 4 rfl ?_
      refine z_iconst C (zi 2) dL_law_889 (by decide) ?_
      refine z_iadd C dL_law_890 ?_
      refine z_sld C hLS (i + 2) (z_ix i 2) (by omega) dL_law_891 ?_
      refine z_aload_n C dL_law_892 rfl 0 rfl ?_
      refine z_iload C dL_law_893 4 rfl ?_
      refine z_iconst C (zi 3) dL_law_895 (by decide) ?_
      refine z_iadd C dL_law_896 ?_
      refine z_sld C hLS (i + 3) (z_ix i 3) (by omega) dL_law_897 ?_
      refine z_if_eq C 905 dL_law_898 (by decide) (fun q => absurd q hb3) (fun _ => ?_)
      refine z_iconst C (zi 1) dL_law_901 (by decide) ?_
      refine z_goto C 906 dL_law_902 (by decide) ?_
      refine z_aload_n C dL_law_906 rfl 3 rfl ?_
      refine z_callH (As := [.ref X, .int (xs (i + 1)), .int (xs (i + 2)), .int (zi 1), .ref (X + 322)]) (F0 := 2048) (L0 := 84000) C (mL_inChannel l D Ca B En C.2.2.2.2.2.2.2.1 σ N X (xs (i + 1)) (xs (i + 2)) (zi 1) (X + 322) (σ1, zi 0) e1) hRm0 kw_1050 kw_0 kw_1048 kw_1049 hyL_inChannel (Nat.le_of_ble_eq_true rfl) (Nat.le_of_ble_eq_true rfl) rfl rfl (Nat.le_of_ble_eq_true rfl) dL_law_907 hRm.2.2.1 hRm.2.2.2 (fun N2 hN => ?_)
      refine z_istore (lv2 := [(5, .int (zi 0)), (0, .ref b), (1, .ref X), (2, .ref (X + 307)), (3, .ref (X + 322)), (4, .int (zi (i : Int)))]) C dL_law_910 (by decide) rfl ?_
      refine z_aload_n C dL_law_912 rfl 3 rfl ?_
      refine z_aload_n C dL_law_913 rfl 1 rfl ?_
      refine z_iload C dL_law_914 5 rfl ?_
      refine z_iconst C (zi 1) dL_law_916 (by decide) ?_
      refine z_iadd C dL_law_917 ?_
      refine z_sld C hLS (i + 1) (z_ix i 1) (by omega) dL_law_918 ?_
      refine z_aload_n C dL_law_919 rfl 1 rfl ?_
      refine z_iload C dL_law_920 5 rfl ?_
      refine z_iconst C (zi 2) dL_law_922 (by decide) ?_
      refine z_iadd C dL_law_923 ?_
      refine z_sld C hLS (i + 2) (z_ix i 2) (by omega) dL_law_924 ?_
      refine z_aload_n C dL_law_925 rfl 1 rfl ?_
      refine z_iload C dL_law_926 5 rfl ?_
      refine z_iconst C (zi 3) dL_law_928 (by decide) ?_
      refine z_iadd C dL_law_929 ?_
      refine z_sld C hLS (i + 3) (z_ix i 3) (by omega) dL_law_930 ?_
      refine z_if_eq C 938 dL_law_931 (by decide) (fun q => absurd q hb3) (fun _ => ?_)
      refine z_iconst C (zi 1) dL_law_934 (by decide) ?_
      refine z_goto C 939 dL_law_935 (by decide) ?_
      refine z_callVi (As := [.int (xs (i + 1)), .int (xs (i + 2)), .int (zi 1)]) (F0 := 2048) (L0 := 84000) C (mX10_inChannel l D Ca B En C.2.2.2.2.2.2.2.1 σ1 N2 (X + 307) (xs (i + 1)) (xs (i + 2)) (zi 1) (σ2, a) e2) hRm kY1 rfl kw_1762 kw_14 kw_1759 kw_1760 kw_1761 hyX10_inChannel (Nat.le_of_ble_eq_true rfl) (Nat.le_of_ble_eq_true rfl) rfl rfl (Nat.le_of_ble_eq_true rfl) dL_law_939 ?_
      refine z_istore (lv2 := [(6, .int a), (5, .int (zi 0)), (0, .ref b), (1, .ref X), (2, .ref (X + 307)), (3, .ref (X + 322)), (4, .int (zi (i : Int)))]) C dL_law_942 (by decide) rfl ?_
      refine z_aload_n C dL_law_944 rfl 4 rfl ?_
      refine z_callVi (As := []) (F0 := 2048) (L0 := 84000) C (mX10_thrown l D Ca B En C.2.2.2.2.2.2.2.1 σ2 N2 (X + 307)  (σ2, (zi 0)) e3) hRm kY2 rfl kw_1365 kw_14 kw_1362 kw_1363 kw_1364 hyX10_thrown (Nat.le_of_ble_eq_true rfl) (Nat.le_of_ble_eq_true rfl) rfl rfl (Nat.le_of_ble_eq_true rfl) dL_law_945 ?_
      refine z_iload C dL_law_948 1 rfl ?_
      refine z_icmp_eq C 955 dL_law_950 (by decide) (fun _ => ?_) (fun q => absurd rfl q)
      refine z_iload C dL_law_955 1 rfl ?_
      refine z_if_ne C 972 dL_law_957 (by decide) (fun q => absurd rfl q) (fun _ => ?_)
      refine z_aload_n C dL_law_960 rfl 5 rfl ?_
      refine z_iconst C (zi 0) dL_law_961 (by decide) ?_
      refine z_aJ C e4 dL_law_962 ?_
      refine z_iload C dL_law_963 0 rfl ?_
      refine z_i2l C dL_law_965 ?_
      refine z_lcmp C dL_law_966 ?_
      refine z_if_eq C 972 dL_law_967 (by decide) (fun _ => ?_) (fun q => absurd (lgc _) q)
      refine z_goto C 2295 dL_law_972 (by decide) ?_
      refine z_sub [2, 3, 4, 5, 6] rfl ?_
      exact kk σ2 N2 hN hJ2
    · have kY2 : (σ2.1 (X + 307)).1 = 14 := by rw [k2]; exact kY
      obtain ⟨rfl, rfl⟩ := hK
      refine z_aload_n C dL_law_879 rfl 1 rfl ?_
      refine z_aload_n C dL_law_880 rfl 0 rfl ?_
      refine z_iload C dL_law_881 4 rfl ?_
      refine z_iconst C (zi 1) dL_law_883 (by decide) ?_
      refine z_iadd C dL_law_884 ?_
      refine z_sld C hLS (i + 1) (z_ix i 1) (by omega) dL_law_885 ?_
      refine z_aload_n C dL_law_886 rfl 0 rfl ?_
      refine z_iload C dL_law_887 4 rfl ?_
      refine z_iconst C (zi 2) dL_law_889 (by decide) ?_
      refine z_iadd C dL_law_890 ?_
      refine z_sld C hLS (i + 2) (z_ix i 2) (by omega) dL_law_891 ?_
      refine z_aload_n C dL_law_892 rfl 0 rfl ?_
      refine z_iload C dL_law_893 4 rfl ?_
      refine z_iconst C (zi 3) dL_law_895 (by decide) ?_
      refine z_iadd C dL_law_896 ?_
      refine z_sld C hLS (i + 3) (z_ix i 3) (by omega) dL_law_897 ?_
      refine z_if_eq C 905 dL_law_898 (by decide) (fun q => absurd q hb3) (fun _ => ?_)
      refine z_iconst C (zi 1) dL_law_901 (by decide) ?_
      refine z_goto C 906 dL_law_902 (by decide) ?_
      refine z_aload_n C dL_law_906 rfl 3 rfl ?_
      refine z_callH (As := [.ref X, .int (xs (i + 1)), .int (xs (i + 2)), .int (zi 1), .ref (X + 322)]) (F0 := 2048) (L0 := 84000) C (mxL_inChannel_1 l D Ca B En C.2.2.2.2.2.2.2.1 hT hT2 hl0 σ N X (xs (i + 1)) (xs (i + 2)) (zi 1) (X + 322) kX t1) hRm0 kw_1050 kw_0 kw_1048 kw_1049 hyL_inChannel (Nat.le_of_ble_eq_true rfl) (Nat.le_of_ble_eq_true rfl) rfl rfl (Nat.le_of_ble_eq_true rfl) dL_law_907 hRm.2.2.1 hRm.2.2.2 (fun N2 hN => ?_)
      refine z_istore (lv2 := [(5, .int (zi 1)), (0, .ref b), (1, .ref X), (2, .ref (X + 307)), (3, .ref (X + 322)), (4, .int (zi (i : Int)))]) C dL_law_910 (by decide) rfl ?_
      refine z_aload_n C dL_law_912 rfl 3 rfl ?_
      refine z_aload_n C dL_law_913 rfl 1 rfl ?_
      refine z_iload C dL_law_914 5 rfl ?_
      refine z_iconst C (zi 1) dL_law_916 (by decide) ?_
      refine z_iadd C dL_law_917 ?_
      refine z_sld C hLS (i + 1) (z_ix i 1) (by omega) dL_law_918 ?_
      refine z_aload_n C dL_law_919 rfl 1 rfl ?_
      refine z_iload C dL_law_920 5 rfl ?_
      refine z_iconst C (zi 2) dL_law_922 (by decide) ?_
      refine z_iadd C dL_law_923 ?_
      refine z_sld C hLS (i + 2) (z_ix i 2) (by omega) dL_law_924 ?_
      refine z_aload_n C dL_law_925 rfl 1 rfl ?_
      refine z_iload C dL_law_926 5 rfl ?_
      refine z_iconst C (zi 3) dL_law_928 (by decide) ?_
      refine z_iadd C dL_law_929 ?_
      refine z_sld C hLS (i + 3) (z_ix i 3) (by omega) dL_law_930 ?_
      refine z_if_eq C 938 dL_law_931 (by decide) (fun q => absurd q hb3) (fun _ => ?_)
      refine z_iconst C (zi 1) dL_law_934 (by decide) ?_
      refine z_goto C 939 dL_law_935 (by decide) ?_
      refine z_callVi (As := [.int (xs (i + 1)), .int (xs (i + 2)), .int (zi 1)]) (F0 := 2048) (L0 := 84000) C (mX10_inChannel l D Ca B En C.2.2.2.2.2.2.2.1 σ N2 (X + 307) (xs (i + 1)) (xs (i + 2)) (zi 1) (σ2, a) e2) hRm kY rfl kw_1762 kw_14 kw_1759 kw_1760 kw_1761 hyX10_inChannel (Nat.le_of_ble_eq_true rfl) (Nat.le_of_ble_eq_true rfl) rfl rfl (Nat.le_of_ble_eq_true rfl) dL_law_939 ?_
      refine z_istore (lv2 := [(6, .int a), (5, .int (zi 1)), (0, .ref b), (1, .ref X), (2, .ref (X + 307)), (3, .ref (X + 322)), (4, .int (zi (i : Int)))]) C dL_law_942 (by decide) rfl ?_
      refine z_aload_n C dL_law_944 rfl 4 rfl ?_
      refine z_callVi (As := []) (F0 := 2048) (L0 := 84000) C (mX10_thrown l D Ca B En C.2.2.2.2.2.2.2.1 σ2 N2 (X + 307)  (σ2, (zi 1)) e3) hRm kY2 rfl kw_1365 kw_14 kw_1362 kw_1363 kw_1364 hyX10_thrown (Nat.le_of_ble_eq_true rfl) (Nat.le_of_ble_eq_true rfl) rfl rfl (Nat.le_of_ble_eq_true rfl) dL_law_945 ?_
      refine z_iload C dL_law_948 1 rfl ?_
      refine z_icmp_eq C 955 dL_law_950 (by decide) (fun _ => ?_) (fun q => absurd rfl q)
      refine z_iload C dL_law_955 1 rfl ?_
      refine z_if_ne C 972 dL_law_957 (by decide) (fun _ => ?_) (fun q => absurd q (by decide))
      refine z_goto C 2295 dL_law_972 (by decide) ?_
      refine z_sub [2, 3, 4, 5, 6] rfl ?_
      exact kk σ2 N2 hN hJ2
