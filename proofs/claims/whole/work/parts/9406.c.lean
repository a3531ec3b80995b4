/-! The law's cases 12 -/
theorem dL_law_731 : decode cL_law 731 = .ok (.aload_n 1, 1) := by decide +kernel
theorem dL_law_732 : decode cL_law 732 = .ok (.aload_n 0, 1) := by decide +kernel
theorem dL_law_733 : decode cL_law 733 = .ok (.iload 4, 2) := by decide +kernel
theorem dL_law_735 : decode cL_law 735 = .ok (.iconst 1, 1) := by decide +kernel
theorem dL_law_736 : decode cL_law 736 = .ok (.iadd, 1) := by decide +kernel
theorem dL_law_737 : decode cL_law 737 = .ok (.iaload, 1) := by decide +kernel
theorem dL_law_738 : decode cL_law 738 = .ok (.aload_n 0, 1) := by decide +kernel
theorem dL_law_739 : decode cL_law 739 = .ok (.iload 4, 2) := by decide +kernel
theorem dL_law_741 : decode cL_law 741 = .ok (.iconst 2, 1) := by decide +kernel
theorem dL_law_742 : decode cL_law 742 = .ok (.iadd, 1) := by decide +kernel
theorem dL_law_743 : decode cL_law 743 = .ok (.iaload, 1) := by decide +kernel
theorem dL_law_744 : decode cL_law 744 = .ok (.aload_n 3, 1) := by decide +kernel
theorem dL_law_745 : decode cL_law 745 = .ok (.invokestatic 159, 3) := by decide +kernel
theorem dL_law_748 : decode cL_law 748 = .ok (.istore 5, 2) := by decide +kernel
theorem dL_law_750 : decode cL_law 750 = .ok (.aload_n 2, 1) := by decide +kernel
theorem dL_law_751 : decode cL_law 751 = .ok (.aload_n 0, 1) := by decide +kernel
theorem dL_law_752 : decode cL_law 752 = .ok (.iload 4, 2) := by decide +kernel
theorem dL_law_754 : decode cL_law 754 = .ok (.iconst 1, 1) := by decide +kernel
theorem dL_law_755 : decode cL_law 755 = .ok (.iadd, 1) := by decide +kernel
theorem dL_law_756 : decode cL_law 756 = .ok (.iaload, 1) := by decide +kernel
theorem dL_law_757 : decode cL_law 757 = .ok (.aload_n 0, 1) := by decide +kernel
theorem dL_law_758 : decode cL_law 758 = .ok (.iload 4, 2) := by decide +kernel
theorem dL_law_760 : decode cL_law 760 = .ok (.iconst 2, 1) := by decide +kernel
theorem dL_law_761 : decode cL_law 761 = .ok (.iadd, 1) := by decide +kernel
theorem dL_law_762 : decode cL_law 762 = .ok (.iaload, 1) := by decide +kernel
theorem dL_law_763 : decode cL_law 763 = .ok (.invokevirtual 161, 3) := by decide +kernel
theorem dL_law_766 : decode cL_law 766 = .ok (.istore 6, 2) := by decide +kernel
theorem dL_law_768 : decode cL_law 768 = .ok (.aload_n 2, 1) := by decide +kernel
theorem dL_law_769 : decode cL_law 769 = .ok (.invokevirtual 142, 3) := by decide +kernel
theorem dL_law_772 : decode cL_law 772 = .ok (.iload 5, 2) := by decide +kernel
theorem dL_law_774 : decode cL_law 774 = .ok (.if_icmp .eq 5, 3) := by decide +kernel
theorem dL_law_777 : decode cL_law 777 = .ok (.iconst 0, 1) := by decide +kernel
theorem dL_law_778 : decode cL_law 778 = .ok (.ireturn, 1) := by decide +kernel
theorem dL_law_779 : decode cL_law 779 = .ok (.iload 5, 2) := by decide +kernel
theorem dL_law_781 : decode cL_law 781 = .ok (.ifCond .ne 15, 3) := by decide +kernel
theorem dL_law_784 : decode cL_law 784 = .ok (.aload_n 3, 1) := by decide +kernel
theorem dL_law_785 : decode cL_law 785 = .ok (.iconst 0, 1) := by decide +kernel
theorem dL_law_786 : decode cL_law 786 = .ok (.laload, 1) := by decide +kernel
theorem dL_law_787 : decode cL_law 787 = .ok (.iload 6, 2) := by decide +kernel
theorem dL_law_789 : decode cL_law 789 = .ok (.i2l, 1) := by decide +kernel
theorem dL_law_790 : decode cL_law 790 = .ok (.lcmp, 1) := by decide +kernel
theorem dL_law_791 : decode cL_law 791 = .ok (.ifCond .eq 5, 3) := by decide +kernel
theorem dL_law_794 : decode cL_law 794 = .ok (.iconst 0, 1) := by decide +kernel
theorem dL_law_795 : decode cL_law 795 = .ok (.ireturn, 1) := by decide +kernel
theorem dL_law_796 : decode cL_law 796 = .ok (.goto 1499, 3) := by decide +kernel
set_option maxRecDepth 100000 in
set_option maxHeartbeats 4000000 in
theorem law_12 {p : Program} {l : Launch} {e : Env} {R : Room} {s : State} {m : MethodId} {args : Array Value} {below : List Frame} {meth : Method} {c : Code} {cells slots : Nat} {Q : State → Prop} {D : va_G} {Ca : Nat → ClassId} {B : Nat} {En : State → Prop} {N b L X i : Nat} {xs : Nat → Int32} {z : Int} (C : zC p s m args meth c cL_law RL 9 D Ca B En) (hT : ∀ U, En U → zThr B U) (hT2 : ∀ U, En U → va_Nc (zEx 4) (zEx 1) U ∧ va_Nc (zEx 2) (zEx 1) U) (hl0 : l.stackTraces = false) (ev : zEv) (hZ : ∀ U : State, En U → zEnv ev B U) (hLS : zLS s B b L xs) (hi : i + 6 ≤ L) (hRm : zRm R 2048 84000 (cells + 1) (slots + 6)) (σ : zS) (hJ : J X z σ) (h0 : 0 ≤ z) (hz : z < 700000000)
    (kk : ∀ (σ2 : zS) (N2 : Nat), N ≤ N2 → J X (z + 501) σ2 → zW p l e R s m args below meth c (cells + 1) (slots + 6) Q D Ca B 9 σ2 N2 2295 (lawLv b X i) []) : zW p l e R s m args below meth c cells slots Q D Ca B 9 σ N 731 (lawLv b X i) [] := by
  have hRm0 : zRm R 2048 84000 cells slots := ⟨hRm.1, hRm.2.1, Nat.le_of_succ_le hRm.2.2.1, Nat.le_trans (Nat.le_add_right slots 6) hRm.2.2.2⟩
  have kX := (J_k hJ).1
  have kY := (J_k hJ).2.1
  rcases j_sink hJ h0 hz (xs (i + 1)) (xs (i + 2)) with ⟨σ1, σ2, a, e1, e2, e3, e4, k1, k2, hJ2⟩ | ⟨σ2, a, k, c, t1, e2, e3, hK, k2, hJ2⟩
  · have kY1 : (σ1.1 (X + 307)).1 = 14 := by rw [k1]; exact kY
    have kY2 : (σ2.1 (X + 307)).1 = 14 := by rw [k2]; exact kY
    refine z_aload_n C dL_law_731 rfl 1 rfl ?_
    refine z_aload_n C dL_law_732 rfl 0 rfl ?_
    refine z_iload C dL_law_733 4 rfl ?_
    refine z_iconst C (zi 1) dL_law_735 (by decide) ?_
    refine z_iadd C dL_law_736 ?_
    refine z_sld C hLS (i + 1) (z_ix i 1) (by omega) dL_law_737 ?_
    refine z_aload_n C dL_law_738 rfl 0 rfl ?_
    refine z_iload C dL_law_739 4 rfl ?_
    refine z_iconst C (zi 2) dL_law_741 (by decide) ?_
    refine z_iadd C dL_law_742 ?_
    refine z_sld C hLS (i + 2) (z_ix i 2) (by omega) dL_law_743 ?_
    refine z_aload_n C dL_law_744 rfl 3 rfl ?_
    refine z_callH (As := [.ref X, .int (xs (i + 1)), .int (xs (i + 2)), .ref (X + 322)]) (F0 := 2048) (L0 := 84000) C (mL_sink l D Ca B En C.2.2.2.2.2.2.2.1 σ N X (xs (i + 1)) (xs (i + 2)) (X + 322) (σ1, zi 0) e1) hRm0 kw_1006 kw_0 kw_1004 kw_1005 hyL_sink (Nat.le_of_ble_eq_true rfl) (Nat.le_of_ble_eq_true rfl) rfl rfl (Nat.le_of_ble_eq_true rfl) dL_law_745 hRm.2.2.1 hRm.2.2.2 (fun N2 hN => ?_)
    refine z_istore (lv2 := [(5, .int (zi 0)), (0, .ref b), (1, .ref X), (2, .ref (X + 307)), (3, .ref (X + 322)), (4, .int (zi (i : Int)))]) C dL_law_748 (by decide) rfl ?_
    refine z_aload_n C dL_law_750 rfl 3 rfl ?_
    refine z_aload_n C dL_law_751 rfl 1 rfl ?_
    refine z_iload C dL_law_752 5 rfl ?_
    refine z_iconst C (zi 1) dL_law_754 (by decide) ?_
    refine z_iadd C dL_law_755 ?_
    refine z_sld C hLS (i + 1) (z_ix i 1) (by omega) dL_law_756 ?_
    refine z_aload_n C dL_law_757 rfl 1 rfl ?_
    refine z_iload C dL_law_758 5 rfl ?_
    refine z_iconst C (zi 2) dL_law_760 (by decide) ?_
    refine z_iadd C dL_law_761 ?_
    refine z_sld C hLS (i + 2) (z_ix i 2) (by omega) dL_law_762 ?_
    refine z_callVi (As := [.int (xs (i + 1)), .int (xs (i + 2))]) (F0 := 2048) (L0 := 84000) C (mX10_sink l D Ca B En C.2.2.2.2.2.2.2.1 σ1 N2 (X + 307) (xs (i + 1)) (xs (i + 2)) (σ2, a) e2) hRm kY1 rfl kw_1746 kw_14 kw_1743 kw_1744 kw_1745 hyX10_sink (Nat.le_of_ble_eq_true rfl) (Nat.le_of_ble_eq_true rfl) rfl rfl (Nat.le_of_ble_eq_true rfl) dL_law_763 ?_
    refine z_istore (lv2 := [(6, .int a), (5, .int (zi 0)), (0, .ref b), (1, .ref X), (2, .ref (X + 307)), (3, .ref (X + 322)), (4, .int (zi (i : Int)))]) C dL_law_766 (by decide) rfl ?_
    refine z_aload_n C dL_law_768 rfl 4 rfl ?_
    refine z_callVi (As := []) (F0 := 2048) (L0 := 84000) C (mX10_thrown l D Ca B En C.2.2.2.2.2.2.2.1 σ2 N2 (X + 307)  (σ2, (zi 0)) e3) hRm kY2 rfl kw_1365 kw_14 kw_1362 kw_1363 kw_1364 hyX10_thrown (Nat.le_of_ble_eq_true rfl) (Nat.le_of_ble_eq_true rfl) rfl rfl (Nat.le_of_ble_eq_true rfl) dL_law_769 ?_
    refine z_iload C dL_law_772 1 rfl ?_
    refine z_icmp_eq C 779 dL_law_774 (by decide) (fun _ => ?_) (fun q => absurd rfl q)
    refine z_iload C dL_law_779 1 rfl ?_
    refine z_if_ne C 796 dL_law_781 (by decide) (fun q => absurd rfl q) (fun _ => ?_)
    refine z_aload_n C dL_law_784 rfl 5 rfl ?_
    refine z_iconst C (zi 0) dL_law_785 (by decide) ?_
    refine z_aJ C e4 dL_law_786 ?_
    refine z_iload C dL_law_787 0 rfl ?_
    refine z_i2l C dL_law_789 ?_
    refine z_lcmp C dL_law_790 ?_
    refine z_if_eq C 796 dL_law_791 (by decide) (fun _ => ?_) (fun q => absurd (lgc _) q)
    refine z_goto C 2295 dL_law_796 (by decide) ?_
    refine z_sub [2, 3, 4, 5, 6] rfl ?_
    exact kk σ2 N2 hN hJ2
  · have kY2 : (σ2.1 (X + 307)).1 = 14 := by rw [k2]; exact kY
    obtain ⟨rfl, rfl⟩ := hK
    refine z_aload_n C dL_law_731 rfl 1 rfl ?_
    refine z_aload_n C dL_law_732 rfl 0 rfl ?_
    refine z_iload C dL_law_733 4 rfl ?_
    refine z_iconst C (zi 1) dL_law_735 (by decide) ?_
    refine z_iadd C dL_law_736 ?_
    refine z_sld C hLS (i + 1) (z_ix i 1) (by omega) dL_law_737 ?_
    refine z_aload_n C dL_law_738 rfl 0 rfl ?_
    refine z_iload C dL_law_739 4 rfl ?_
    refine z_iconst C (zi 2) dL_law_741 (by decide) ?_
    refine z_iadd C dL_law_742 ?_
    refine z_sld C hLS (i + 2) (z_ix i 2) (by omega) dL_law_743 ?_
    refine z_aload_n C dL_law_744 rfl 3 rfl ?_
    refine z_callH (As := [.ref X, .int (xs (i + 1)), .int (xs (i + 2)), .ref (X + 322)]) (F0 := 2048) (L0 := 84000) C (mxL_sink_1 l D Ca B En C.2.2.2.2.2.2.2.1 hT hT2 hl0 σ N X (xs (i + 1)) (xs (i + 2)) (X + 322) kX t1) hRm0 kw_1006 kw_0 kw_1004 kw_1005 hyL_sink (Nat.le_of_ble_eq_true rfl) (Nat.le_of_ble_eq_true rfl) rfl rfl (Nat.le_of_ble_eq_true rfl) dL_law_745 hRm.2.2.1 hRm.2.2.2 (fun N2 hN => ?_)
    refine z_istore (lv2 := [(5, .int (zi 1)), (0, .ref b), (1, .ref X), (2, .ref (X + 307)), (3, .ref (X + 322)), (4, .int (zi (i : Int)))]) C dL_law_748 (by decide) rfl ?_
    refine z_aload_n C dL_law_750 rfl 3 rfl ?_
    refine z_aload_n C dL_law_751 rfl 1 rfl ?_
    refine z_iload C dL_law_752 5 rfl ?_
    refine z_iconst C (zi 1) dL_law_754 (by decide) ?_
    refine z_iadd C dL_law_755 ?_
    refine z_sld C hLS (i + 1) (z_ix i 1) (by omega) dL_law_756 ?_
    refine z_aload_n C dL_law_757 rfl 1 rfl ?_
    refine z_iload C dL_law_758 5 rfl ?_
    refine z_iconst C (zi 2) dL_law_760 (by decide) ?_
    refine z_iadd C dL_law_761 ?_
    refine z_sld C hLS (i + 2) (z_ix i 2) (by omega) dL_law_762 ?_
    refine z_callVi (As := [.int (xs (i + 1)), .int (xs (i + 2))]) (F0 := 2048) (L0 := 84000) C (mX10_sink l D Ca B En C.2.2.2.2.2.2.2.1 σ N2 (X + 307) (xs (i + 1)) (xs (i + 2)) (σ2, a) e2) hRm kY rfl kw_1746 kw_14 kw_1743 kw_1744 kw_1745 hyX10_sink (Nat.le_of_ble_eq_true rfl) (Nat.le_of_ble_eq_true rfl) rfl rfl (Nat.le_of_ble_eq_true rfl) dL_law_763 ?_
    refine z_istore (lv2 := [(6, .int a), (5, .int (zi 1)), (0, .ref b), (1, .ref X), (2, .ref (X + 307)), (3, .ref (X + 322)), (4, .int (zi (i : Int)))]) C dL_law_766 (by decide) rfl ?_
    refine z_aload_n C dL_law_768 rfl 4 rfl ?_
    refine z_callVi (As := []) (F0 := 2048) (L0 := 84000) C (mX10_thrown l D Ca B En C.2.2.2.2.2.2.2.1 σ2 N2 (X + 307)  (σ2, (zi 1)) e3) hRm kY2 rfl kw_1365 kw_14 kw_1362 kw_1363 kw_1364 hyX10_thrown (Nat.le_of_ble_eq_true rfl) (Nat.le_of_ble_eq_true rfl) rfl rfl (Nat.le_of_ble_eq_true rfl) dL_law_769 ?_
    refine z_iload C dL_law_772 1 rfl ?_
    refine z_icmp_eq C 779 dL_law_774 (by decide) (fun _ => ?_) (fun q => absurd rfl q)
    refine z_iload C dL_law_779 1 rfl ?_
    refine z_if_ne C 796 dL_law_781 (by decide) (fun _ => ?_) (fun q => absurd q (by decide))
    refine z_goto C 2295 dL_law_796 (by decide) ?_
    refine z_sub [2, 3, 4, 5, 6] rfl ?_
    exact kk σ2 N2 hN hJ2
