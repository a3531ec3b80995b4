/-! The law's cases 13 -/
theorem dL_law_799 : decode cL_law 799 = .ok (.aload_n 1, 1) := by decide +kernel
theorem dL_law_800 : decode cL_law 800 = .ok (.aload_n 0, 1) := by decide +kernel
theorem dL_law_801 : decode cL_law 801 = .ok (.iload 4, 2) := by decide +kernel
theorem dL_law_803 : decode cL_law 803 = .ok (.iconst 1, 1) := by decide +kernel
theorem dL_law_804 : decode cL_law 804 = .ok (.iadd, 1) := by decide +kernel
theorem dL_law_805 : decode cL_law 805 = .ok (.iaload, 1) := by decide +kernel
theorem dL_law_806 : decode cL_law 806 = .ok (.aload_n 0, 1) := by decide +kernel
theorem dL_law_807 : decode cL_law 807 = .ok (.iload 4, 2) := by decide +kernel
theorem dL_law_809 : decode cL_law 809 = .ok (.iconst 2, 1) := by decide +kernel
theorem dL_law_810 : decode cL_law 810 = .ok (.iadd, 1) := by decide +kernel
theorem dL_law_811 : decode cL_law 811 = .ok (.iaload, 1) := by decide +kernel
theorem dL_law_812 : decode cL_law 812 = .ok (.aload_n 0, 1) := by decide +kernel
theorem dL_law_813 : decode cL_law 813 = .ok (.iload 4, 2) := by decide +kernel
theorem dL_law_815 : decode cL_law 815 = .ok (.iconst 3, 1) := by decide +kernel
theorem dL_law_816 : decode cL_law 816 = .ok (.iadd, 1) := by decide +kernel
theorem dL_law_817 : decode cL_law 817 = .ok (.iaload, 1) := by decide +kernel
theorem dL_law_818 : decode cL_law 818 = .ok (.aload_n 3, 1) := by decide +kernel
theorem dL_law_819 : decode cL_law 819 = .ok (.invokestatic 162, 3) := by decide +kernel
theorem dL_law_822 : decode cL_law 822 = .ok (.istore 5, 2) := by decide +kernel
theorem dL_law_824 : decode cL_law 824 = .ok (.aload_n 2, 1) := by decide +kernel
theorem dL_law_825 : decode cL_law 825 = .ok (.aload_n 0, 1) := by decide +kernel
theorem dL_law_826 : decode cL_law 826 = .ok (.iload 4, 2) := by decide +kernel
theorem dL_law_828 : decode cL_law 828 = .ok (.iconst 1, 1) := by decide +kernel
theorem dL_law_829 : decode cL_law 829 = .ok (.iadd, 1) := by decide +kernel
theorem dL_law_830 : decode cL_law 830 = .ok (.iaload, 1) := by decide +kernel
theorem dL_law_831 : decode cL_law 831 = .ok (.aload_n 0, 1) := by decide +kernel
theorem dL_law_832 : decode cL_law 832 = .ok (.iload 4, 2) := by decide +kernel
theorem dL_law_834 : decode cL_law 834 = .ok (.iconst 2, 1) := by decide +kernel
theorem dL_law_835 : decode cL_law 835 = .ok (.iadd, 1) := by decide +kernel
theorem dL_law_836 : decode cL_law 836 = .ok (.iaload, 1) := by decide +kernel
theorem dL_law_837 : decode cL_law 837 = .ok (.aload_n 0, 1) := by decide +kernel
theorem dL_law_838 : decode cL_law 838 = .ok (.iload 4, 2) := by decide +kernel
theorem dL_law_840 : decode cL_law 840 = .ok (.iconst 3, 1) := by decide +kernel
theorem dL_law_841 : decode cL_law 841 = .ok (.iadd, 1) := by decide +kernel
theorem dL_law_842 : decode cL_law 842 = .ok (.iaload, 1) := by decide +kernel
theorem dL_law_843 : decode cL_law 843 = .ok (.invokevirtual 164, 3) := by decide +kernel
theorem dL_law_846 : decode cL_law 846 = .ok (.istore 6, 2) := by decide +kernel
theorem dL_law_848 : decode cL_law 848 = .ok (.aload_n 2, 1) := by decide +kernel
theorem dL_law_849 : decode cL_law 849 = .ok (.invokevirtual 142, 3) := by decide +kernel
theorem dL_law_852 : decode cL_law 852 = .ok (.iload 5, 2) := by decide +kernel
theorem dL_law_854 : decode cL_law 854 = .ok (.if_icmp .eq 5, 3) := by decide +kernel
theorem dL_law_857 : decode cL_law 857 = .ok (.iconst 0, 1) := by decide +kernel
theorem dL_law_858 : decode cL_law 858 = .ok (.ireturn, 1) := by decide +kernel
theorem dL_law_859 : decode cL_law 859 = .ok (.iload 5, 2) := by decide +kernel
theorem dL_law_861 : decode cL_law 861 = .ok (.ifCond .ne 15, 3) := by decide +kernel
theorem dL_law_864 : decode cL_law 864 = .ok (.aload_n 3, 1) := by decide +kernel
theorem dL_law_865 : decode cL_law 865 = .ok (.iconst 0, 1) := by decide +kernel
theorem dL_law_866 : decode cL_law 866 = .ok (.laload, 1) := by decide +kernel
theorem dL_law_867 : decode cL_law 867 = .ok (.iload 6, 2) := by decide +kernel
theorem dL_law_869 : decode cL_law 869 = .ok (.i2l, 1) := by decide +kernel
theorem dL_law_870 : decode cL_law 870 = .ok (.lcmp, 1) := by decide +kernel
theorem dL_law_871 : decode cL_law 871 = .ok (.ifCond .eq 5, 3) := by decide +kernel
theorem dL_law_874 : decode cL_law 874 = .ok (.iconst 0, 1) := by decide +kernel
theorem dL_law_875 : decode cL_law 875 = .ok (.ireturn, 1) := by decide +kernel
theorem dL_law_876 : decode cL_law 876 = .ok (.goto 1419, 3) := by decide +kernel
set_option maxRecDepth 100000 in
set_option maxHeartbeats 4000000 in
theorem law_13 {p : Program} {l : Launch} {e : Env} {R : Room} {s : State} {m : MethodId} {args : Array Value} {below : List Frame} {meth : Method} {c : Code} {cells slots : Nat} {Q : State → Prop} {D : va_G} {Ca : Nat → ClassId} {B : Nat} {En : State → Prop} {N b L X i : Nat} {xs : Nat → Int32} {z : Int} (C : zC p s m args meth c cL_law RL 9 D Ca B En) (hT : ∀ U, En U → zThr B U) (hT2 : ∀ U, En U → va_Nc (zEx 4) (zEx 1) U ∧ va_Nc (zEx 2) (zEx 1) U) (hl0 : l.stackTraces = false) (ev : zEv) (hZ : ∀ U : State, En U → zEnv ev B U) (hLS : zLS s B b L xs) (hi : i + 6 ≤ L) (hRm : zRm R 2048 84000 (cells + 1) (slots + 6)) (σ : zS) (hJ : J X z σ) (h0 : 0 ≤ z) (hz : z < 700000000)
    (kk : ∀ (σ2 : zS) (N2 : Nat), N ≤ N2 → J X (z + 501) σ2 → zW p l e R s m args below meth c (cells + 1) (slots + 6) Q D Ca B 9 σ2 N2 2295 (lawLv b X i) []) : zW p l e R s m args below meth c cells slots Q D Ca B 9 σ N 799 (lawLv b X i) [] := by
  have hRm0 : zRm R 2048 84000 cells slots := ⟨hRm.1, hRm.2.1, Nat.le_of_succ_le hRm.2.2.1, Nat.le_trans (Nat.le_add_right slots 6) hRm.2.2.2⟩
  have kX := (J_k hJ).1
  have kY := (J_k hJ).2.1
  rcases j_shown hJ h0 hz (xs (i + 1)) (xs (i + 2)) (xs (i + 3)) with ⟨σ1, σ2, a, e1, e2, e3, e4, k1, k2, hJ2⟩ | ⟨σ2, a, k, c, t1, e2, e3, hK, k2, hJ2⟩
  · have kY1 : (σ1.1 (X + 307)).1 = 14 := by rw [k1]; exact kY
    have kY2 : (σ2.1 (X + 307)).1 = 14 := by rw [k2]; exact kY
    refine z_aload_n C dL_law_799 rfl 1 rfl ?_
    refine z_aload_n C dL_law_800 rfl 0 rfl ?_
    refine z_iload C dL_law_801 4 rfl ?_
    refine z_iconst C (zi 1) dL_law_803 (by decide) ?_
    refine z_iadd C dL_law_804 ?_
    refine z_sld C hLS (i + 1) (z_ix i 1) (by omega) dL_law_805 ?_
    refine z_aload_n C dL_law_806 rfl 0 rfl ?_
    refine z_iload C dL_law_807 4 rfl ?_
    refine z_iconst C (zi 2) dL_law_809 (by decide) ?_
    refine z_iadd C dL_law_810 ?_
    refine z_sld C hLS (i + 2) (z_ix i 2) (by omega) dL_law_811 ?_
    refine z_aload_n C dL_law_812 rfl 0 rfl ?_
    refine z_iload C dL_law_813 4 rfl ?_
    refine z_iconst C (zi 3) dL_law_815 (by decide) ?_
    refine z_iadd C dL_law_816 ?_
    refine z_sld C hLS (i + 3) (z_ix i 3) (by omega) dL_law_817 ?_
    refine z_aload_n C dL_law_818 rfl 3 rfl ?_
    refine z_callH (As := [.ref X, .int (xs (i + 1)), .int (xs (i + 2)), .int (xs (i + 3)), .ref (X + 322)]) (F0 := 2048) (L0 := 84000) C (mL_shown l D Ca B En C.2.2.2.2.2.2.2.1 σ N X (xs (i + 1)) (xs (i + 2)) (xs (i + 3)) (X + 322) (σ1, zi 0) e1) hRm0 kw_1017 kw_0 kw_1015 kw_1016 hyL_shown (Nat.le_of_ble_eq_true rfl) (Nat.le_of_ble_eq_true rfl) rfl rfl (Nat.le_of_ble_eq_true rfl) dL_law_819 hRm.2.2.1 hRm.2.2.2 (fun N2 hN => ?_)
    refine z_istore (lv2 := [(5, .int (zi 0)), (0, .ref b), (1, .ref X), (2, .ref (X + 307)), (3, .ref (X + 322)), (4, .int (zi (i : Int)))]) C dL_law_822 (by decide) rfl ?_
    refine z_aload_n C dL_law_824 rfl 3 rfl ?_
    refine z_aload_n C dL_law_825 rfl 1 rfl ?_
    refine z_iload C dL_law_826 5 rfl ?_
    refine z_iconst C (zi 1) dL_law_828 (by decide) ?_
    refine z_iadd C dL_law_829 ?_
    refine z_sld C hLS (i + 1) (z_ix i 1) (by omega) dL_law_830 ?_
    refine z_aload_n C dL_law_831 rfl 1 rfl ?_
    refine z_iload C dL_law_832 5 rfl ?_
    refine z_iconst C (zi 2) dL_law_834 (by decide) ?_
    refine z_iadd C dL_law_835 ?_
    refine z_sld C hLS (i + 2) (z_ix i 2) (by omega) dL_law_836 ?_
    refine z_aload_n C dL_law_837 rfl 1 rfl ?_
    refine z_iload C dL_law_838 5 rfl ?_
    refine z_iconst C (zi 3) dL_law_840 (by decide) ?_
    refine z_iadd C dL_law_841 ?_
    refine z_sld C hLS (i + 3) (z_ix i 3) (by omega) dL_law_842 ?_
    refine z_callVi (As := [.int (xs (i + 1)), .int (xs (i + 2)), .int (xs (i + 3))]) (F0 := 2048) (L0 := 84000) C (mX10_shown l D Ca B En C.2.2.2.2.2.2.2.1 σ1 N2 (X + 307) (xs (i + 1)) (xs (i + 2)) (xs (i + 3)) (σ2, a) e2) hRm kY1 rfl kw_1758 kw_14 kw_1755 kw_1756 kw_1757 hyX10_shown (Nat.le_of_ble_eq_true rfl) (Nat.le_of_ble_eq_true rfl) rfl rfl (Nat.le_of_ble_eq_true rfl) dL_law_843 ?_
    refine z_istore (lv2 := [(6, .int a), (5, .int (zi 0)), (0, .ref b), (1, .ref X), (2, .ref (X + 307)), (3, .ref (X + 322)), (4, .int (zi (i : Int)))]) C dL_law_846 (by decide) rfl ?_
    refine z_aload_n C dL_law_848 rfl 4 rfl ?_
    refine z_callVi (As := []) (F0 := 2048) (L0 := 84000) C (mX10_thrown l D Ca B En C.2.2.2.2.2.2.2.1 σ2 N2 (X + 307)  (σ2, (zi 0)) e3) hRm kY2 rfl kw_1365 kw_14 kw_1362 kw_1363 kw_1364 hyX10_thrown (Nat.le_of_ble_eq_true rfl) (Nat.le_of_ble_eq_true rfl) rfl rfl (Nat.le_of_ble_eq_true rfl) dL_law_849 ?_
    refine z_iload C dL_law_852 1 rfl ?_
    refine z_icmp_eq C 859 dL_law_854 (by decide) (fun _ => ?_) (fun q => absurd rfl q)
    refine z_iload C dL_law_859 1 rfl ?_
    refine z_if_ne C 876 dL_law_861 (by decide) (fun q => absurd rfl q) (fun _ => ?_)
    refine z_aload_n C dL_law_864 rfl 5 rfl ?_
    refine z_iconst C (zi 0) dL_law_865 (by decide) ?_
    refine z_aJ C e4 dL_law_866 ?_
    refine z_iload C dL_law_867 0 rfl ?_
    refine z_i2l C dL_law_869 ?_
    refine z_lcmp C dL_law_870 ?_
    refine z_if_eq C 876 dL_law_871 (by decide) (fun _ => ?_) (fun q => absurd (lgc _) q)
    refine z_goto C 2295 dL_law_876 (by decide) ?_
    refine z_sub [2, 3, 4, 5, 6] rfl ?_
    exact kk σ2 N2 hN hJ2
  · have kY2 : (σ2.1 (X + 307)).1 = 14 := by rw [k2]; exact kY
    rcases hK with ⟨rfl, rfl⟩ | ⟨rfl, rfl⟩
    · refine z_aload_n C dL_law_799 rfl 1 rfl ?_
      refine z_aload_n C dL_law_800 rfl 0 rfl ?_
      refine z_iload C dL_law_801 4 rfl ?_
      refine z_iconst C (zi 1) dL_law_803 (by decide) ?_
      refine z_iadd C dL_law_804 ?_
      refine z_sld C hLS (i + 1) (z_ix i 1) (by omega) dL_law_805 ?_
      refine z_aload_n C dL_law_806 rfl 0 rfl ?_
      refine z_iload C dL_law_807 4 rfl ?_
      refine z_iconst C (zi 2) dL_law_809 (by decide) ?_
      refine z_iadd C dL_law_810 ?_
      refine z_sld C hLS (i + 2) (z_ix i 2) (by omega) dL_law_811 ?_
      refine z_aload_n C dL_law_812 rfl 0 rfl ?_
      refine z_iload C dL_law_813 4 rfl ?_
      refine z_iconst C (zi 3) dL_law_815 (by decide) ?_
      refine z_iadd C dL_law_816 ?_
      refine z_sld C hLS (i + 3) (z_ix i 3) (by omega) dL_law_817 ?_
      refine z_aload_n C dL_law_818 rfl 3 rfl ?_
      refine z_callH (As := [.ref X, .int (xs (i + 1)), .int (xs (i + 2)), .int (xs (i + 3)), .ref (X + 322)]) (F0 := 2048) (L0 := 84000) C (mxL_shown_1 l D Ca B En C.2.2.2.2.2.2.2.1 hT hT2 hl0 σ N X (xs (i + 1)) (xs (i + 2)) (xs (i + 3)) (X + 322) kX t1) hRm0 kw_1017 kw_0 kw_1015 kw_1016 hyL_shown (Nat.le_of_ble_eq_true rfl) (Nat.le_of_ble_eq_true rfl) rfl rfl (Nat.le_of_ble_eq_true rfl) dL_law_819 hRm.2.2.1 hRm.2.2.2 (fun N2 hN => ?_)
      refine z_istore (lv2 := [(5, .int (zi 1)), (0, .ref b), (1, .ref X), (2, .ref (X + 307)), (3, .ref (X + 322)), (4, .int (zi (i : Int)))]) C dL_law_822 (by decide) rfl ?_
      refine z_aload_n C dL_law_824 rfl 3 rfl ?_
      refine z_aload_n C dL_law_825 rfl 1 rfl ?_
      refine z_iload C dL_law_826 5 rfl ?_
      refine z_iconst C (zi 1) dL_law_828 (by decide) ?_
      refine z_iadd C dL_law_829 ?_
      refine z_sld C hLS (i + 1) (z_ix i 1) (by omega) dL_law_830 ?_
      refine z_aload_n C dL_law_831 rfl 1 rfl ?_
      refine z_iload C dL_law_832 5 rfl ?_
      refine z_iconst C (zi 2) dL_law_834 (by decide) ?_
      refine z_iadd C dL_law_835 ?_
      refine z_sld C hLS (i + 2) (z_ix i 2) (by omega) dL_law_836 ?_
      refine z_aload_n C dL_law_837 rfl 1 rfl ?_
      refine z_iload C dL_law_838 5 rfl ?_
      refine z_iconst C (zi 3) dL_law_840 (by decide) ?_
      refine z_iadd C dL_law_841 ?_
      refine z_sld C hLS (i + 3) (z_ix i 3) (by omega) dL_law_842 ?_
      refine z_callVi (As := [.int (xs (i + 1)), .int (xs (i + 2)), .int (xs (i + 3))]) (F0 := 2048) (L0 := 84000) C (mX10_shown l D Ca B En C.2.2.2.2.2.2.2.1 σ N2 (X + 307) (xs (i + 1)) (xs (i + 2)) (xs (i + 3)) (σ2, a) e2) hRm kY rfl kw_1758 kw_14 kw_1755 kw_1756 kw_1757 hyX10_shown (Nat.le_of_ble_eq_true rfl) (Nat.le_of_ble_eq_true rfl) rfl rfl (Nat.le_of_ble_eq_true rfl) dL_law_843 ?_
      refine z_istore (lv2 := [(6, .int a), (5, .int (zi 1)), (0, .ref b), (1, .ref X), (2, .ref (X + 307)), (3, .ref (X + 322)), (4, .int (zi (i : Int)))]) C dL_law_846 (by decide) rfl ?_
      refine z_aload_n C dL_law_848 rfl 4 rfl ?_
      refine z_callVi (As := []) (F0 := 2048) (L0 := 84000) C (mX10_thrown l D Ca B En C.2.2.2.2.2.2.2.1 σ2 N2 (X + 307)  (σ2, (zi 1)) e3) hRm kY2 rfl kw_1365 kw_14 kw_1362 kw_1363 kw_1364 hyX10_thrown (Nat.le_of_ble_eq_true rfl) (Nat.le_of_ble_eq_true rfl) rfl rfl (Nat.le_of_ble_eq_true rfl) dL_law_849 ?_
      refine z_iload C dL_law_852 1 rfl ?_
      refine z_icmp_eq C 859 dL_law_854 (by decide) (fun _ => ?_) (fun q => absurd rfl q)
      refine z_iload C dL_law_859 1 rfl ?_
      refine z_if_ne C 876 dL_law_861 (by decide) (fun _ => ?_) (fun q => absurd q (by decide))
      refine z_goto C 2295 dL_law_876 (by decide) ?_
      refine z_sub [2, 3, 4, 5, 6] rfl ?_
      exact kk σ2 N2 hN hJ2
    · refine z_aload_n C dL_law_799 rfl 1 rfl ?_
      refine z_aload_n C dL_law_800 rfl 0 rfl ?_
      refine z_iload C dL_law_801 4 rfl ?_
      refine z_iconst C (zi 1) dL_law_803 (by decide) ?_
      refine z_iadd C dL_law_804 ?_
      refine z_sld C hLS (i + 1) (z_ix i 1) (by omega) dL_law_805 ?_
      refine z_aload_n C dL_law_806 rfl 0 rfl ?_
      refine z_iload C dL_law_807 4 rfl ?_
      refine z_iconst C (zi 2) dL_law_809 (by decide) ?_
      refine z_iadd C dL_law_810 ?_
      refine z_sld C hLS (i + 2) (z_ix i 2) (by omega) dL_law_811 ?_
      refine z_aload_n C dL_law_812 rfl 0 rfl ?_
      refine z_iload C dL_law_813 4 rfl ?_
      refine z_iconst C (zi 3) dL_law_815 (by decide) ?_
      refine z_iadd C dL_law_816 ?_
      refine z_sld C hLS (i + 3) (z_ix i 3) (by omega) dL_law_817 ?_
      refine z_aload_n C dL_law_818 rfl 3 rfl ?_
      refine z_callH (As := [.ref X, .int (xs (i + 1)), .int (xs (i + 2)), .int (xs (i + 3)), .ref (X + 322)]) (F0 := 2048) (L0 := 84000) C (mxL_shown_4 l D Ca B En C.2.2.2.2.2.2.2.1 hT hT2 hl0 σ N X (xs (i + 1)) (xs (i + 2)) (xs (i + 3)) (X + 322) kX t1) hRm0 kw_1017 kw_0 kw_1015 kw_1016 hyL_shown (Nat.le_of_ble_eq_true rfl) (Nat.le_of_ble_eq_true rfl) rfl rfl (Nat.le_of_ble_eq_true rfl) dL_law_819 hRm.2.2.1 hRm.2.2.2 (fun N2 hN => ?_)
      refine z_istore (lv2 := [(5, .int (zi 2)), (0, .ref b), (1, .ref X), (2, .ref (X + 307)), (3, .ref (X + 322)), (4, .int (zi (i : Int)))]) C dL_law_822 (by decide) rfl ?_
      refine z_aload_n C dL_law_824 rfl 3 rfl ?_
      refine z_aload_n C dL_law_825 rfl 1 rfl ?_
      refine z_iload C dL_law_826 5 rfl ?_
      refine z_iconst C (zi 1) dL_law_828 (by decide) ?_
      refine z_iadd C dL_law_829 ?_
      refine z_sld C hLS (i + 1) (z_ix i 1) (by omega) dL_law_830 ?_
      refine z_aload_n C dL_law_831 rfl 1 rfl ?_
      refine z_iload C dL_law_832 5 rfl ?_
      refine z_iconst C (zi 2) dL_law_834 (by decide) ?_
      refine z_iadd C dL_law_835 ?_
      refine z_sld C hLS (i + 2) (z_ix i 2) (by omega) dL_law_836 ?_
      refine z_aload_n C dL_law_837 rfl 1 rfl ?_
      refine z_iload C dL_law_838 5 rfl ?_
      refine z_iconst C (zi 3) dL_law_840 (by decide) ?_
      refine z_iadd C dL_law_841 ?_
      refine z_sld C hLS (i + 3) (z_ix i 3) (by omega) dL_law_842 ?_
      refine z_callVi (As := [.int (xs (i + 1)), .int (xs (i + 2)), .int (xs (i + 3))]) (F0 := 2048) (L0 := 84000) C (mX10_shown l D Ca B En C.2.2.2.2.2.2.2.1 σ N2 (X + 307) (xs (i + 1)) (xs (i + 2)) (xs (i + 3)) (σ2, a) e2) hRm kY rfl kw_1758 kw_14 kw_1755 kw_1756 kw_1757 hyX10_shown (Nat.le_of_ble_eq_true rfl) (Nat.le_of_ble_eq_true rfl) rfl rfl (Nat.le_of_ble_eq_true rfl) dL_law_843 ?_
      refine z_istore (lv2 := [(6, .int a), (5, .int (zi 2)), (0, .ref b), (1, .ref X), (2, .ref (X + 307)), (3, .ref (X + 322)), (4, .int (zi (i : Int)))]) C dL_law_846 (by decide) rfl ?_
      refine z_aload_n C dL_law_848 rfl 4 rfl ?_
      refine z_callVi (As := []) (F0 := 2048) (L0 := 84000) C (mX10_thrown l D Ca B En C.2.2.2.2.2.2.2.1 σ2 N2 (X + 307)  (σ2, (zi 2)) e3) hRm kY2 rfl kw_1365 kw_14 kw_1362 kw_1363 kw_1364 hyX10_thrown (Nat.le_of_ble_eq_true rfl) (Nat.le_of_ble_eq_true rfl) rfl rfl (Nat.le_of_ble_eq_true rfl) dL_law_849 ?_
      refine z_iload C dL_law_852 1 rfl ?_
      refine z_icmp_eq C 859 dL_law_854 (by decide) (fun _ => ?_) (fun q => absurd rfl q)
      refine z_iload C dL_law_859 1 rfl ?_
      refine z_if_ne C 876 dL_law_861 (by decide) (fun _ => ?_) (fun q => absurd q (by decide))
      refine z_goto C 2295 dL_law_876 (by decide) ?_
      refine z_sub [2, 3, 4, 5, 6] rfl ?_
      exact kk σ2 N2 hN hJ2
