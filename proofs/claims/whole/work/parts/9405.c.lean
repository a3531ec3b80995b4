/-! The law's cases 11 -/
theorem dL_law_663 : decode cL_law 663 = .ok (.aload_n 1, 1) := by decide +kernel
theorem dL_law_664 : decode cL_law 664 = .ok (.aload_n 0, 1) := by decide +kernel
theorem dL_law_665 : decode cL_law 665 = .ok (.iload 4, 2) := by decide +kernel
theorem dL_law_667 : decode cL_law 667 = .ok (.iconst 1, 1) := by decide +kernel
theorem dL_law_668 : decode cL_law 668 = .ok (.iadd, 1) := by decide +kernel
theorem dL_law_669 : decode cL_law 669 = .ok (.iaload, 1) := by decide +kernel
theorem dL_law_670 : decode cL_law 670 = .ok (.aload_n 0, 1) := by decide +kernel
theorem dL_law_671 : decode cL_law 671 = .ok (.iload 4, 2) := by decide +kernel
theorem dL_law_673 : decode cL_law 673 = .ok (.iconst 2, 1) := by decide +kernel
theorem dL_law_674 : decode cL_law 674 = .ok (.iadd, 1) := by decide +kernel
theorem dL_law_675 : decode cL_law 675 = .ok (.iaload, 1) := by decide +kernel
theorem dL_law_676 : decode cL_law 676 = .ok (.aload_n 3, 1) := by decide +kernel
theorem dL_law_677 : decode cL_law 677 = .ok (.invokestatic 156, 3) := by decide +kernel
theorem dL_law_680 : decode cL_law 680 = .ok (.istore 5, 2) := by decide +kernel
theorem dL_law_682 : decode cL_law 682 = .ok (.aload_n 2, 1) := by decide +kernel
theorem dL_law_683 : decode cL_law 683 = .ok (.aload_n 0, 1) := by decide +kernel
theorem dL_law_684 : decode cL_law 684 = .ok (.iload 4, 2) := by decide +kernel
theorem dL_law_686 : decode cL_law 686 = .ok (.iconst 1, 1) := by decide +kernel
theorem dL_law_687 : decode cL_law 687 = .ok (.iadd, 1) := by decide +kernel
theorem dL_law_688 : decode cL_law 688 = .ok (.iaload, 1) := by decide +kernel
theorem dL_law_689 : decode cL_law 689 = .ok (.aload_n 0, 1) := by decide +kernel
theorem dL_law_690 : decode cL_law 690 = .ok (.iload 4, 2) := by decide +kernel
theorem dL_law_692 : decode cL_law 692 = .ok (.iconst 2, 1) := by decide +kernel
theorem dL_law_693 : decode cL_law 693 = .ok (.iadd, 1) := by decide +kernel
theorem dL_law_694 : decode cL_law 694 = .ok (.iaload, 1) := by decide +kernel
theorem dL_law_695 : decode cL_law 695 = .ok (.invokevirtual 158, 3) := by decide +kernel
theorem dL_law_698 : decode cL_law 698 = .ok (.istore 6, 2) := by decide +kernel
theorem dL_law_700 : decode cL_law 700 = .ok (.aload_n 2, 1) := by decide +kernel
theorem dL_law_701 : decode cL_law 701 = .ok (.invokevirtual 142, 3) := by decide +kernel
theorem dL_law_704 : decode cL_law 704 = .ok (.iload 5, 2) := by decide +kernel
theorem dL_law_706 : decode cL_law 706 = .ok (.if_icmp .eq 5, 3) := by decide +kernel
theorem dL_law_709 : decode cL_law 709 = .ok (.iconst 0, 1) := by decide +kernel
theorem dL_law_710 : decode cL_law 710 = .ok (.ireturn, 1) := by decide +kernel
theorem dL_law_711 : decode cL_law 711 = .ok (.iload 5, 2) := by decide +kernel
theorem dL_law_713 : decode cL_law 713 = .ok (.ifCond .ne 15, 3) := by decide +kernel
theorem dL_law_716 : decode cL_law 716 = .ok (.aload_n 3, 1) := by decide +kernel
theorem dL_law_717 : decode cL_law 717 = .ok (.iconst 0, 1) := by decide +kernel
theorem dL_law_718 : decode cL_law 718 = .ok (.laload, 1) := by decide +kernel
theorem dL_law_719 : decode cL_law 719 = .ok (.iload 6, 2) := by decide +kernel
theorem dL_law_721 : decode cL_law 721 = .ok (.i2l, 1) := by decide +kernel
theorem dL_law_722 : decode cL_law 722 = .ok (.lcmp, 1) := by decide +kernel
theorem dL_law_723 : decode cL_law 723 = .ok (.ifCond .eq 5, 3) := by decide +kernel
theorem dL_law_726 : decode cL_law 726 = .ok (.iconst 0, 1) := by decide +kernel
theorem dL_law_727 : decode cL_law 727 = .ok (.ireturn, 1) := by decide +kernel
theorem dL_law_728 : decode cL_law 728 = .ok (.goto 1567, 3) := by decide +kernel
set_option maxRecDepth 100000 in
set_option maxHeartbeats 4000000 in
theorem law_11 {p : Program} {l : Launch} {e : Env} {R : Room} {s : State} {m : MethodId} {args : Array Value} {below : List Frame} {meth : Method} {c : Code} {cells slots : Nat} {Q : State → Prop} {D : va_G} {Ca : Nat → ClassId} {B : Nat} {En : State → Prop} {N b L X i : Nat} {xs : Nat → Int32} {z : Int} (C : zC p s m args meth c cL_law RL 9 D Ca B En) (hT : ∀ U, En U → zThr B U) (hT2 : ∀ U, En U → va_Nc (zEx 4) (zEx 1) U ∧ va_Nc (zEx 2) (zEx 1) U) (hl0 : l.stackTraces = false) (ev : zEv) (hZ : ∀ U : State, En U → zEnv ev B U) (hLS : zLS s B b L xs) (hi : i + 6 ≤ L) (hRm : zRm R 2048 84000 (cells + 1) (slots + 6)) (σ : zS) (hJ : J X z σ) (h0 : 0 ≤ z) (hz : z < 700000000)
    (kk : ∀ (σ2 : zS) (N2 : Nat), N ≤ N2 → J X (z + 501) σ2 → zW p l e R s m args below meth c (cells + 1) (slots + 6) Q D Ca B 9 σ2 N2 2295 (lawLv b X i) []) : zW p l e R s m args below meth c cells slots Q D Ca B 9 σ N 663 (lawLv b X i) [] := by
  have hRm0 : zRm R 2048 84000 cells slots := ⟨hRm.1, hRm.2.1, Nat.le_of_succ_le hRm.2.2.1, Nat.le_trans (Nat.le_add_right slots 6) hRm.2.2.2⟩
  have kX := (J_k hJ).1
  have kY := (J_k hJ).2.1
  rcases j_instance hJ h0 hz (xs (i + 1)) (xs (i + 2)) with ⟨σ1, σ2, a, e1, e2, e3, e4, k1, k2, hJ2⟩ | ⟨σ2, a, k, c, t1, e2, e3, hK, k2, hJ2⟩
  · have kY1 : (σ1.1 (X + 307)).1 = 14 := by rw [k1]; exact kY
    have kY2 : (σ2.1 (X + 307)).1 = 14 := by rw [k2]; exact kY
    refine z_aload_n C dL_law_663 rfl 1 rfl ?_
    refine z_aload_n C dL_law_664 rfl 0 rfl ?_
    refine z_iload C dL_law_665 4 rfl ?_
    refine z_iconst C (zi 1) dL_law_667 (by decide) ?_
    refine z_iadd C dL_law_668 ?_
    refine z_sld C hLS (i + 1) (z_ix i 1) (by omega) dL_law_669 ?_
    refine z_aload_n C dL_law_670 rfl 0 rfl ?_
    refine z_iload C dL_law_671 4 rfl ?_
    refine z_iconst C (zi 2) dL_law_673 (by decide) ?_
    refine z_iadd C dL_law_674 ?_
    refine z_sld C hLS (i + 2) (z_ix i 2) (by omega) dL_law_675 ?_
    refine z_aload_n C dL_law_676 rfl 3 rfl ?_
    refine z_callH (As := [.ref X, .int (xs (i + 1)), .int (xs (i + 2)), .ref (X + 322)]) (F0 := 2048) (L0 := 84000) C (mL_instance l D Ca B En C.2.2.2.2.2.2.2.1 σ N X (xs (i + 1)) (xs (i + 2)) (X + 322) (σ1, zi 0) e1) hRm0 kw_984 kw_0 kw_982 kw_983 hyL_instance (Nat.le_of_ble_eq_true rfl) (Nat.le_of_ble_eq_true rfl) rfl rfl (Nat.le_of_ble_eq_true rfl) dL_law_677 hRm.2.2.1 hRm.2.2.2 (fun N2 hN => ?_)
    refine z_istore (lv2 := [(5, .int (zi 0)), (0, .ref b), (1, .ref X), (2, .ref (X + 307)), (3, .ref (X + 322)), (4, .int (zi (i : Int)))]) C dL_law_680 (by decide) rfl ?_
    refine z_aload_n C dL_law_682 rfl 3 rfl ?_
    refine z_aload_n C dL_law_683 rfl 1 rfl ?_
    refine z_iload C dL_law_684 5 rfl ?_
    refine z_iconst C (zi 1) dL_law_686 (by decide) ?_
    refine z_iadd C dL_law_687 ?_
    refine z_sld C hLS (i + 1) (z_ix i 1) (by omega) dL_law_688 ?_
    refine z_aload_n C dL_law_689 rfl 1 rfl ?_
    refine z_iload C dL_law_690 5 rfl ?_
    refine z_iconst C (zi 2) dL_law_692 (by decide) ?_
    refine z_iadd C dL_law_693 ?_
    refine z_sld C hLS (i + 2) (z_ix i 2) (by omega) dL_law_694 ?_
    refine z_callVi (As := [.int (xs (i + 1)), .int (xs (i + 2))]) (F0 := 2048) (L0 := 84000) C (mX10_instance l D Ca B En C.2.2.2.2.2.2.2.1 σ1 N2 (X + 307) (xs (i + 1)) (xs (i + 2)) (σ2, a) e2) hRm kY1 rfl kw_1722 kw_14 kw_1719 kw_1720 kw_1721 hyX10_instance (Nat.le_of_ble_eq_true rfl) (Nat.le_of_ble_eq_true rfl) rfl rfl (Nat.le_of_ble_eq_true rfl) dL_law_695 ?_
    refine z_istore (lv2 := [(6, .int a), (5, .int (zi 0)), (0, .ref b), (1, .ref X), (2, .ref (X + 307)), (3, .ref (X + 322)), (4, .int (zi (i : Int)))]) C dL_law_698 (by decide) rfl ?_
    refine z_aload_n C dL_law_700 rfl 4 rfl ?_
    refine z_callVi (As := []) (F0 := 2048) (L0 := 84000) C (mX10_thrown l D Ca B En C.2.2.2.2.2.2.2.1 σ2 N2 (X + 307)  (σ2, (zi 0)) e3) hRm kY2 rfl kw_1365 kw_14 kw_1362 kw_1363 kw_1364 hyX10_thrown (Nat.le_of_ble_eq_true rfl) (Nat.le_of_ble_eq_true rfl) rfl rfl (Nat.le_of_ble_eq_true rfl) dL_law_701 ?_
    refine z_iload C dL_law_704 1 rfl ?_
    refine z_icmp_eq C 711 dL_law_706 (by decide) (fun _ => ?_) (fun q => absurd rfl q)
    refine z_iload C dL_law_711 1 rfl ?_
    refine z_if_ne C 728 dL_law_713 (by decide) (fun q => absurd rfl q) (fun _ => ?_)
    refine z_aload_n C dL_law_716 rfl 5 rfl ?_
    refine z_iconst C (zi 0) dL_law_717 (by decide) ?_
    refine z_aJ C e4 dL_law_718 ?_
    refine z_iload C dL_law_719 0 rfl ?_
    refine z_i2l C dL_law_721 ?_
    refine z_lcmp C dL_law_722 ?_
    refine z_if_eq C 728 dL_law_723 (by decide) (fun _ => ?_) (fun q => absurd (lgc _) q)
    refine z_goto C 2295 dL_law_728 (by decide) ?_
    refine z_sub [2, 3, 4, 5, 6] rfl ?_
    exact kk σ2 N2 hN hJ2
  · have kY2 : (σ2.1 (X + 307)).1 = 14 := by rw [k2]; exact kY
    obtain ⟨rfl, rfl⟩ := hK
    refine z_aload_n C dL_law_663 rfl 1 rfl ?_
    refine z_aload_n C dL_law_664 rfl 0 rfl ?_
    refine z_iload C dL_law_665 4 rfl ?_
    refine z_iconst C (zi 1) dL_law_667 (by decide) ?_
    refine z_iadd C dL_law_668 ?_
    refine z_sld C hLS (i + 1) (z_ix i 1) (by omega) dL_law_669 ?_
    refine z_aload_n C dL_law_670 rfl 0 rfl ?_
    refine z_iload C dL_law_671 4 rfl ?_
    refine z_iconst C (zi 2) dL_law_673 (by decide) ?_
    refine z_iadd C dL_law_674 ?_
    refine z_sld C hLS (i + 2) (z_ix i 2) (by omega) dL_law_675 ?_
    refine z_aload_n C dL_law_676 rfl 3 rfl ?_
    refine z_callH (As := [.ref X, .int (xs (i + 1)), .int (xs (i + 2)), .ref (X + 322)]) (F0 := 2048) (L0 := 84000) C (mxL_instance_1 l D Ca B En C.2.2.2.2.2.2.2.1 hT hT2 hl0 σ N X (xs (i + 1)) (xs (i + 2)) (X + 322) kX t1) hRm0 kw_984 kw_0 kw_982 kw_983 hyL_instance (Nat.le_of_ble_eq_true rfl) (Nat.le_of_ble_eq_true rfl) rfl rfl (Nat.le_of_ble_eq_true rfl) dL_law_677 hRm.2.2.1 hRm.2.2.2 (fun N2 hN => ?_)
    refine z_istore (lv2 := [(5, .int (zi 1)), (0, .ref b), (1, .ref X), (2, .ref (X + 307)), (3, .ref (X + 322)), (4, .int (zi (i : Int)))]) C dL_law_680 (by decide) rfl ?_
    refine z_aload_n C dL_law_682 rfl 3 rfl ?_
    refine z_aload_n C dL_law_683 rfl 1 rfl ?_
    refine z_iload C dL_law_684 5 rfl ?_
    refine z_iconst C (zi 1) dL_law_686 (by decide) ?_
    refine z_iadd C dL_law_687 ?_
    refine z_sld C hLS (i + 1) (z_ix i 1) (by omega) dL_law_688 ?_
    refine z_aload_n C dL_law_689 rfl 1 rfl ?_
    refine z_iload C dL_law_690 5 rfl ?_
    refine z_iconst C (zi 2) dL_law_692 (by decide) ?_
    refine z_iadd C dL_law_693 ?_
    refine z_sld C hLS (i + 2) (z_ix i 2) (by omega) dL_law_694 ?_
    refine z_callVi (As := [.int (xs (i + 1)), .int (xs (i + 2))]) (F0 := 2048) (L0 := 84000) C (mX10_instance l D Ca B En C.2.2.2.2.2.2.2.1 σ N2 (X + 307) (xs (i + 1)) (xs (i + 2)) (σ2, a) e2) hRm kY rfl kw_1722 kw_14 kw_1719 kw_1720 kw_1721 hyX10_instance (Nat.le_of_ble_eq_true rfl) (Nat.le_of_ble_eq_true rfl) rfl rfl (Nat.le_of_ble_eq_true rfl) dL_law_695 ?_
    refine z_istore (lv2 := [(6, .int a), (5, .int (zi 1)), (0, .ref b), (1, .ref X), (2, .ref (X + 307)), (3, .ref (X + 322)), (4, .int (zi (i : Int)))]) C dL_law_698 (by decide) rfl ?_
    refine z_aload_n C dL_law_700 rfl 4 rfl ?_
    refine z_callVi (As := []) (F0 := 2048) (L0 := 84000) C (mX10_thrown l D Ca B En C.2.2.2.2.2.2.2.1 σ2 N2 (X + 307)  (σ2, (zi 1)) e3) hRm kY2 rfl kw_1365 kw_14 kw_1362 kw_1363 kw_1364 hyX10_thrown (Nat.le_of_ble_eq_true rfl) (Nat.le_of_ble_eq_true rfl) rfl rfl (Nat.le_of_ble_eq_true rfl) dL_law_701 ?_
    refine z_iload C dL_law_704 1 rfl ?_
    refine z_icmp_eq C 711 dL_law_706 (by decide) (fun _ => ?_) (fun q => absurd rfl q)
    refine z_iload C dL_law_711 1 rfl ?_
    refine z_if_ne C 728 dL_law_713 (by decide) (fun _ => ?_) (fun q => absurd q (by decide))
    refine z_goto C 2295 dL_law_728 (by decide) ?_
    refine z_sub [2, 3, 4, 5, 6] rfl ?_
    exact kk σ2 N2 hN hJ2
