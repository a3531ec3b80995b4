/-! Methods: X10_fail, X10_isMany, X10_rescale, X10_changes, X10_setRoom, X10_isSource, X10_setLag, X10_setEvery, X10_completesWithin, X10_completesIn, X10_wouldTake, X10_allIn, X10_wouldKeep, X10_isQuiet, X10_quietWithin, X10_quietIn, X10_allHandled, X10_handledWith, X10_bestInstances, X10_isInstance, X10_isSink, X10_isKey, X10_count -/
section ZM
variable {p : Program} {l : Launch} {e : Env} {R : Room} {s : State} {m : MethodId} {args : Array Value} {below : List Frame} {meth : Method} {c : Code} {cells slots : Nat} {Q : State → Prop} {D : va_G} {Ca : Nat → ClassId} {B : Nat} {En : State → Prop} {N : Nat}
theorem dX10_fail_0 : decode cX10_fail 0 = .ok (.aload_n 0, 1) := by decide +kernel
theorem dX10_fail_1 : decode cX10_fail 1 = .ok (.iconst 0, 1) := by decide +kernel
theorem dX10_fail_2 : decode cX10_fail 2 = .ok (.putfield 92, 3) := by decide +kernel
theorem dX10_fail_5 : decode cX10_fail 5 = .ok (.aload_n 0, 1) := by decide +kernel
theorem dX10_fail_6 : decode cX10_fail 6 = .ok (.invokevirtual 254, 3) := by decide +kernel
theorem dX10_fail_9 : decode cX10_fail 9 = .ok (.aload_n 0, 1) := by decide +kernel
theorem dX10_fail_10 : decode cX10_fail 10 = .ok (.invokevirtual 272, 3) := by decide +kernel
theorem dX10_fail_13 : decode cX10_fail 13 = .ok (.istore_n 1, 1) := by decide +kernel
theorem dX10_fail_14 : decode cX10_fail 14 = .ok (.aload_n 0, 1) := by decide +kernel
theorem dX10_fail_15 : decode cX10_fail 15 = .ok (.invokevirtual 266, 3) := by decide +kernel
theorem dX10_fail_18 : decode cX10_fail 18 = .ok (.aload_n 0, 1) := by decide +kernel
theorem dX10_fail_19 : decode cX10_fail 19 = .ok (.iload_n 1, 1) := by decide +kernel
theorem dX10_fail_20 : decode cX10_fail 20 = .ok (.invokevirtual 260, 3) := by decide +kernel
theorem dX10_fail_23 : decode cX10_fail 23 = .ok (.ireturn, 1) := by decide +kernel
theorem hyX10_fail : yX10_fail.cls ≠ "java/lang/invoke/MethodHandle" ∧ yX10_fail.cls ≠ "java/lang/invoke/VarHandle" ∧ (parseMethodDescriptor yX10_fail.desc).map (fun d => d.parameters.length) = some 0 := ⟨by decide +kernel, by decide +kernel, by decide +kernel⟩
set_option maxRecDepth 100000 in
set_option maxHeartbeats 4000000 in
theorem wfX10_fail (C : zC p s m args meth c cX10_fail RX10 2 D Ca B En) (hRm : zRm R 5 110 cells slots) (σ : zS) (x0 : Nat) (τ : zS) (r : Int32) (hf : fX10_fail σ x0 = some (τ, r)) (hq : ∀ (pc : Nat) (lv : List (Nat × Value)), decode cX10_fail pc = .ok (.ireturn, 1) → zW p l e R s m args below meth c cells slots Q D Ca B 2 τ N pc lv [.int r]) : zW p l e R s m args below meth c cells slots Q D Ca B 2 σ N 0 [(0, .ref x0)] [] := by
  unfold fX10_fail at hf
  refine z_aload_n C dX10_fail_0 rfl 0 rfl ?_
  refine z_iconst C (zi 0) dX10_fail_1 (by decide) ?_
  obtain ⟨σ1, hσ1, hf⟩ := zbind hf
  refine gp_RX10_92 C hσ1 dX10_fail_2 ?_
  refine z_aload_n C dX10_fail_5 rfl 0 rfl ?_
  obtain ⟨c2, hc2, hf⟩ := zbind hf
  obtain ⟨kc2, hc2⟩ := zck_ok hc2
  refine z_callVv (As := []) (F0 := 5) (L0 := 110) C (mX10_starts l D Ca B En C.2.2.2.2.2.2.2.1 σ1 N x0  _ hc2) hRm kc2 rfl kw_1396 kw_14 kw_1393 kw_1395 kp_38 hyX10_starts (Nat.le_of_ble_eq_true rfl) (Nat.le_of_ble_eq_true rfl) rfl rfl (Nat.le_of_ble_eq_true rfl) dX10_fail_6 ?_
  refine z_aload_n C dX10_fail_9 rfl 0 rfl ?_
  obtain ⟨c3, hc3, hf⟩ := zbind hf
  obtain ⟨kc3, hc3⟩ := zck_ok hc3
  refine z_callVi (As := []) (F0 := 5) (L0 := 110) C (mX10_risk l D Ca B En C.2.2.2.2.2.2.2.1 c2 N x0  _ hc3) hRm kc3 rfl kw_1591 kw_14 kw_1588 kw_1590 kp_77 hyX10_risk (Nat.le_of_ble_eq_true rfl) (Nat.le_of_ble_eq_true rfl) rfl rfl (Nat.le_of_ble_eq_true rfl) dX10_fail_10 ?_
  refine z_istore_n (lv2 := [(1, .int c3.2), (0, .ref x0)]) C dX10_fail_13 rfl (by decide) rfl ?_
  refine z_aload_n C dX10_fail_14 rfl 1 rfl ?_
  obtain ⟨c4, hc4, hf⟩ := zbind hf
  obtain ⟨kc4, hc4⟩ := zck_ok hc4
  refine z_callVv (As := []) (F0 := 5) (L0 := 110) C (mX10_fails l D Ca B En C.2.2.2.2.2.2.2.1 c3.1 N x0  _ hc4) hRm kc4 rfl kw_1595 kw_14 kw_1592 kw_1594 kp_78 hyX10_fails (Nat.le_of_ble_eq_true rfl) (Nat.le_of_ble_eq_true rfl) rfl rfl (Nat.le_of_ble_eq_true rfl) dX10_fail_15 ?_
  refine z_aload_n C dX10_fail_18 rfl 1 rfl ?_
  refine z_iload_n C dX10_fail_19 rfl 0 rfl ?_
  obtain ⟨c5, hc5, hf⟩ := zbind hf
  obtain ⟨kc5, hc5⟩ := zck_ok hc5
  refine z_callVi (As := [.int c3.2]) (F0 := 5) (L0 := 110) C (mX10_done l D Ca B En C.2.2.2.2.2.2.2.1 c4 N x0 c3.2 _ hc5) hRm kc5 rfl kw_1578 kw_14 kw_1575 kw_1577 kp_76 hyX10_done (Nat.le_of_ble_eq_true rfl) (Nat.le_of_ble_eq_true rfl) rfl rfl (Nat.le_of_ble_eq_true rfl) dX10_fail_20 ?_
  cases hf
  exact hq _ _ dX10_fail_23

theorem mX10_fail (l : Launch) (D : va_G) (Ca : Nat → ClassId) (B : Nat) (En : State → Prop) (hE : zEk B En) (σ : zS) (N : Nat) (x0 : Nat) (X : zS × Int32) (hf : fX10_fail σ x0 = some X) : zMi l D Ca B En yX10_fail cX10_fail 2 (Option.some Jvm.ClassFile.FieldType.int) 5 110 [.ref x0] σ N X.1 X.2 :=
  zMet_i (own := RX10) hE (by decide +kernel) rfl (Nat.le_of_ble_eq_true rfl) (fun p e s m args below meth c C hr hRm => wfX10_fail C hRm σ x0 X.1 X.2 hf (fun pc lv hd => zfin_i C hr hd))
theorem dX10_isMany_0 : decode cX10_isMany 0 = .ok (.iload_n 0, 1) := by decide +kernel
theorem dX10_isMany_1 : decode cX10_isMany 1 = .ok (.i2l, 1) := by decide +kernel
theorem dX10_isMany_2 : decode cX10_isMany 2 = .ok (.lconst 1, 1) := by decide +kernel
theorem dX10_isMany_3 : decode cX10_isMany 3 = .ok (.ldc2_w 276, 3) := by decide +kernel
theorem dX10_isMany_6 : decode cX10_isMany 6 = .ok (.invokestatic 247, 3) := by decide +kernel
theorem dX10_isMany_9 : decode cX10_isMany 9 = .ok (.ireturn, 1) := by decide +kernel
theorem hyX10_isMany : yX10_isMany.cls ≠ "java/lang/invoke/MethodHandle" ∧ yX10_isMany.cls ≠ "java/lang/invoke/VarHandle" ∧ (parseMethodDescriptor yX10_isMany.desc).map (fun d => d.parameters.length) = some 1 := ⟨by decide +kernel, by decide +kernel, by decide +kernel⟩
set_option maxRecDepth 100000 in
set_option maxHeartbeats 4000000 in
theorem wfX10_isMany (C : zC p s m args meth c cX10_isMany RX10 1 D Ca B En) (hRm : zRm R 1 25 cells slots) (σ : zS) (x0 : Int32) (τ : zS) (r : Int32) (hf : fX10_isMany σ x0 = some (τ, r)) (hq : ∀ (pc : Nat) (lv : List (Nat × Value)), (r = 0 ∨ r = 1) → decode cX10_isMany pc = .ok (.ireturn, 1) → zW p l e R s m args below meth c cells slots Q D Ca B 1 τ N pc lv [.int r]) : zW p l e R s m args below meth c cells slots Q D Ca B 1 σ N 0 [(0, .int x0)] [] := by
  unfold fX10_isMany at hf
  refine z_iload_n C dX10_isMany_0 rfl 0 rfl ?_
  refine z_i2l C dX10_isMany_1 ?_
  refine z_lconst C 1 dX10_isMany_2 (by decide) ?_
  refine z_ldc2 C kw_1607 dX10_isMany_3 ?_
  obtain ⟨c1, hc1, hf⟩ := zbind hf
  refine z_callSi (As := [.long x0.toInt64, .long 1, .long 4]) (F0 := 1) (L0 := 25) C (mX10_isIn l D Ca B En C.2.2.2.2.2.2.2.1 σ N x0.toInt64 1 4 _ hc1) hRm kw_1392 kw_14 kw_1390 kw_1391 hyX10_isIn (Nat.le_of_ble_eq_true rfl) (Nat.le_of_ble_eq_true rfl) rfl rfl (Nat.le_of_ble_eq_true rfl) dX10_isMany_6 ?_
  obtain ⟨e9, b9⟩ := zrZ_ok hf
  cases e9
  exact hq _ _ b9 dX10_isMany_9

theorem mX10_isMany (l : Launch) (D : va_G) (Ca : Nat → ClassId) (B : Nat) (En : State → Prop) (hE : zEk B En) (σ : zS) (N : Nat) (x0 : Int32) (X : zS × Int32) (hf : fX10_isMany σ x0 = some X) : zMi l D Ca B En yX10_isMany cX10_isMany 1 (Option.some Jvm.ClassFile.FieldType.boolean) 1 25 [.int x0] σ N X.1 X.2 :=
  zMet_i (own := RX10) hE (by decide +kernel) rfl (Nat.le_of_ble_eq_true rfl) (fun p e s m args below meth c C hr hRm => wfX10_isMany C hRm σ x0 X.1 X.2 hf (fun pc lv hb hd => zfin_z C hb hr hd))
theorem dX10_rescale_0 : decode cX10_rescale 0 = .ok (.aload_n 0, 1) := by decide +kernel
theorem dX10_rescale_1 : decode cX10_rescale 1 = .ok (.iload_n 1, 1) := by decide +kernel
theorem dX10_rescale_2 : decode cX10_rescale 2 = .ok (.invokestatic 278, 3) := by decide +kernel
theorem dX10_rescale_5 : decode cX10_rescale 5 = .ok (.invokevirtual 96, 3) := by decide +kernel
theorem dX10_rescale_8 : decode cX10_rescale 8 = .ok (.ifCond .ne 5, 3) := by decide +kernel
theorem dX10_rescale_11 : decode cX10_rescale 11 = .ok (.iconst 0, 1) := by decide +kernel
theorem dX10_rescale_12 : decode cX10_rescale 12 = .ok (.ireturn, 1) := by decide +kernel
theorem dX10_rescale_13 : decode cX10_rescale 13 = .ok (.aload_n 0, 1) := by decide +kernel
theorem dX10_rescale_14 : decode cX10_rescale 14 = .ok (.invokevirtual 254, 3) := by decide +kernel
theorem dX10_rescale_17 : decode cX10_rescale 17 = .ok (.aload_n 0, 1) := by decide +kernel
theorem dX10_rescale_18 : decode cX10_rescale 18 = .ok (.aload_n 0, 1) := by decide +kernel
theorem dX10_rescale_19 : decode cX10_rescale 19 = .ok (.iload_n 1, 1) := by decide +kernel
theorem dX10_rescale_20 : decode cX10_rescale 20 = .ok (.invokevirtual 281, 3) := by decide +kernel
theorem dX10_rescale_23 : decode cX10_rescale 23 = .ok (.invokevirtual 260, 3) := by decide +kernel
theorem dX10_rescale_26 : decode cX10_rescale 26 = .ok (.ireturn, 1) := by decide +kernel
theorem hyX10_rescale : yX10_rescale.cls ≠ "java/lang/invoke/MethodHandle" ∧ yX10_rescale.cls ≠ "java/lang/invoke/VarHandle" ∧ (parseMethodDescriptor yX10_rescale.desc).map (fun d => d.parameters.length) = some 1 := ⟨by decide +kernel, by decide +kernel, by decide +kernel⟩
set_option maxRecDepth 100000 in
set_option maxHeartbeats 4000000 in
theorem wfX10_rescale (C : zC p s m args meth c cX10_rescale RX10 2 D Ca B En) (hRm : zRm R 6 137 cells slots) (σ : zS) (x0 : Nat) (x1 : Int32) (τ : zS) (r : Int32) (hf : fX10_rescale σ x0 x1 = some (τ, r)) (hq : ∀ (pc : Nat) (lv : List (Nat × Value)), decode cX10_rescale pc = .ok (.ireturn, 1) → zW p l e R s m args below meth c cells slots Q D Ca B 2 τ N pc lv [.int r]) : zW p l e R s m args below meth c cells slots Q D Ca B 2 σ N 0 [(0, .ref x0), (1, .int x1)] [] := by
  unfold fX10_rescale at hf
  refine z_aload_n C dX10_rescale_0 rfl 0 rfl ?_
  refine z_iload_n C dX10_rescale_1 rfl 1 rfl ?_
  obtain ⟨c1, hc1, hf⟩ := zbind hf
  refine z_callSi (As := [.int x1]) (F0 := 6) (L0 := 137) C (mX10_isMany l D Ca B En C.2.2.2.2.2.2.2.1 σ N x1 _ hc1) hRm kw_1606 kw_14 kw_1604 kw_1605 hyX10_isMany (Nat.le_of_ble_eq_true rfl) (Nat.le_of_ble_eq_true rfl) rfl rfl (Nat.le_of_ble_eq_true rfl) dX10_rescale_2 ?_
  obtain ⟨c2, hc2, hf⟩ := zbind hf
  obtain ⟨kc2, hc2⟩ := zck_ok hc2
  refine z_callVi (As := [.int c1.2]) (F0 := 6) (L0 := 137) C (mX10_is l D Ca B En C.2.2.2.2.2.2.2.1 c1.1 N x0 c1.2 _ hc2) hRm kc2 rfl kw_1373 kw_14 kw_1370 kw_1372 kp_37 hyX10_is (Nat.le_of_ble_eq_true rfl) (Nat.le_of_ble_eq_true rfl) rfl rfl (Nat.le_of_ble_eq_true rfl) dX10_rescale_5 ?_
  refine z_if_ne C 13 dX10_rescale_8 (by decide) (fun q6 => ?_) (fun q6 => ?_)
  · rw [if_neg q6] at hf
    refine z_aload_n C dX10_rescale_13 rfl 0 rfl ?_
    obtain ⟨c3, hc3, hf⟩ := zbind hf
    obtain ⟨kc3, hc3⟩ := zck_ok hc3
    refine z_callVv (As := []) (F0 := 6) (L0 := 137) C (mX10_starts l D Ca B En C.2.2.2.2.2.2.2.1 c2.1 N x0  _ hc3) hRm kc3 rfl kw_1396 kw_14 kw_1393 kw_1395 kp_38 hyX10_starts (Nat.le_of_ble_eq_true rfl) (Nat.le_of_ble_eq_true rfl) rfl rfl (Nat.le_of_ble_eq_true rfl) dX10_rescale_14 ?_
    refine z_aload_n C dX10_rescale_17 rfl 0 rfl ?_
    refine z_aload_n C dX10_rescale_18 rfl 0 rfl ?_
    refine z_iload_n C dX10_rescale_19 rfl 1 rfl ?_
    obtain ⟨c4, hc4, hf⟩ := zbind hf
    obtain ⟨kc4, hc4⟩ := zck_ok hc4
    refine z_callVi (As := [.int x1]) (F0 := 6) (L0 := 137) C (mX10_rescales l D Ca B En C.2.2.2.2.2.2.2.1 c3 N x0 x1 _ hc4) hRm kc4 rfl kw_1611 kw_14 kw_1608 kw_1610 kp_80 hyX10_rescales (Nat.le_of_ble_eq_true rfl) (Nat.le_of_ble_eq_true rfl) rfl rfl (Nat.le_of_ble_eq_true rfl) dX10_rescale_20 ?_
    obtain ⟨c5, hc5, hf⟩ := zbind hf
    obtain ⟨kc5, hc5⟩ := zck_ok hc5
    refine z_callVi (As := [.int c4.2]) (F0 := 6) (L0 := 137) C (mX10_done l D Ca B En C.2.2.2.2.2.2.2.1 c4.1 N x0 c4.2 _ hc5) hRm kc5 rfl kw_1578 kw_14 kw_1575 kw_1577 kp_76 hyX10_done (Nat.le_of_ble_eq_true rfl) (Nat.le_of_ble_eq_true rfl) rfl rfl (Nat.le_of_ble_eq_true rfl) dX10_rescale_23 ?_
    cases hf
    exact hq _ _ dX10_rescale_26
  · rw [if_pos q6] at hf
    refine z_iconst C (zi 0) dX10_rescale_11 (by decide) ?_
    cases hf
    exact hq _ _ dX10_rescale_12

theorem mX10_rescale (l : Launch) (D : va_G) (Ca : Nat → ClassId) (B : Nat) (En : State → Prop) (hE : zEk B En) (σ : zS) (N : Nat) (x0 : Nat) (x1 : Int32) (X : zS × Int32) (hf : fX10_rescale σ x0 x1 = some X) : zMi l D Ca B En yX10_rescale cX10_rescale 2 (Option.some Jvm.ClassFile.FieldType.int) 6 137 [.ref x0, .int x1] σ N X.1 X.2 :=
  zMet_i (own := RX10) hE (by decide +kernel) rfl (Nat.le_of_ble_eq_true rfl) (fun p e s m args below meth c C hr hRm => wfX10_rescale C hRm σ x0 x1 X.1 X.2 hf (fun pc lv hd => zfin_i C hr hd))
theorem dX10_changes_0 : decode cX10_changes 0 = .ok (.aload_n 0, 1) := by decide +kernel
theorem dX10_changes_1 : decode cX10_changes 1 = .ok (.invokevirtual 254, 3) := by decide +kernel
theorem dX10_changes_4 : decode cX10_changes 4 = .ok (.aload_n 0, 1) := by decide +kernel
theorem dX10_changes_5 : decode cX10_changes 5 = .ok (.getfield 21, 3) := by decide +kernel
theorem dX10_changes_8 : decode cX10_changes 8 = .ok (.iload_n 1, 1) := by decide +kernel
theorem dX10_changes_9 : decode cX10_changes 9 = .ok (.iaload, 1) := by decide +kernel
theorem dX10_changes_10 : decode cX10_changes 10 = .ok (.istore_n 3, 1) := by decide +kernel
theorem dX10_changes_11 : decode cX10_changes 11 = .ok (.aload_n 0, 1) := by decide +kernel
theorem dX10_changes_12 : decode cX10_changes 12 = .ok (.getfield 21, 3) := by decide +kernel
theorem dX10_changes_15 : decode cX10_changes 15 = .ok (.iload_n 1, 1) := by decide +kernel
theorem dX10_changes_16 : decode cX10_changes 16 = .ok (.iload_n 2, 1) := by decide +kernel
theorem dX10_changes_17 : decode cX10_changes 17 = .ok (.iastore, 1) := by decide +kernel
theorem dX10_changes_18 : decode cX10_changes 18 = .ok (.aload_n 0, 1) := by decide +kernel
theorem dX10_changes_19 : decode cX10_changes 19 = .ok (.iload_n 3, 1) := by decide +kernel
theorem dX10_changes_20 : decode cX10_changes 20 = .ok (.invokevirtual 260, 3) := by decide +kernel
theorem dX10_changes_23 : decode cX10_changes 23 = .ok (.ireturn, 1) := by decide +kernel
theorem hyX10_changes : yX10_changes.cls ≠ "java/lang/invoke/MethodHandle" ∧ yX10_changes.cls ≠ "java/lang/invoke/VarHandle" ∧ (parseMethodDescriptor yX10_changes.desc).map (fun d => d.parameters.length) = some 2 := ⟨by decide +kernel, by decide +kernel, by decide +kernel⟩
set_option maxRecDepth 100000 in
set_option maxHeartbeats 4000000 in
theorem wfX10_changes (C : zC p s m args meth c cX10_changes RX10 4 D Ca B En) (hRm : zRm R 2 42 cells slots) (σ : zS) (x0 : Nat) (x1 : Int32) (x2 : Int32) (τ : zS) (r : Int32) (hf : fX10_changes σ x0 x1 x2 = some (τ, r)) (hq : ∀ (pc : Nat) (lv : List (Nat × Value)), decode cX10_changes pc = .ok (.ireturn, 1) → zW p l e R s m args below meth c cells slots Q D Ca B 4 τ N pc lv [.int r]) : zW p l e R s m args below meth c cells slots Q D Ca B 4 σ N 0 [(0, .ref x0), (1, .int x1), (2, .int x2)] [] := by
  unfold fX10_changes at hf
  refine z_aload_n C dX10_changes_0 rfl 0 rfl ?_
  obtain ⟨c1, hc1, hf⟩ := zbind hf
  obtain ⟨kc1, hc1⟩ := zck_ok hc1
  refine z_callVv (As := []) (F0 := 2) (L0 := 42) C (mX10_starts l D Ca B En C.2.2.2.2.2.2.2.1 σ N x0  _ hc1) hRm kc1 rfl kw_1396 kw_14 kw_1393 kw_1395 kp_38 hyX10_starts (Nat.le_of_ble_eq_true rfl) (Nat.le_of_ble_eq_true rfl) rfl rfl (Nat.le_of_ble_eq_true rfl) dX10_changes_1 ?_
  refine z_aload_n C dX10_changes_4 rfl 0 rfl ?_
  obtain ⟨v2, hv2, hf⟩ := zbind hf
  refine gf_RX10_21 C hv2 dX10_changes_5 ?_
  refine z_iload_n C dX10_changes_8 rfl 1 rfl ?_
  obtain ⟨v3, hv3, hf⟩ := zbind hf
  refine z_aI C hv3 dX10_changes_9 ?_
  refine z_istore_n (lv2 := [(3, .int v3), (0, .ref x0), (1, .int x1), (2, .int x2)]) C dX10_changes_10 rfl (by decide) rfl ?_
  refine z_aload_n C dX10_changes_11 rfl 1 rfl ?_
  obtain ⟨v4, hv4, hf⟩ := zbind hf
  refine gf_RX10_21 C hv4 dX10_changes_12 ?_
  refine z_iload_n C dX10_changes_15 rfl 2 rfl ?_
  refine z_iload_n C dX10_changes_16 rfl 3 rfl ?_
  obtain ⟨σ5, hσ5, hf⟩ := zbind hf
  refine z_sI C hσ5 dX10_changes_17 ?_
  refine z_aload_n C dX10_changes_18 rfl 1 rfl ?_
  refine z_iload_n C dX10_changes_19 rfl 0 rfl ?_
  obtain ⟨c6, hc6, hf⟩ := zbind hf
  obtain ⟨kc6, hc6⟩ := zck_ok hc6
  refine z_callVi (As := [.int v3]) (F0 := 2) (L0 := 42) C (mX10_done l D Ca B En C.2.2.2.2.2.2.2.1 σ5 N x0 v3 _ hc6) hRm kc6 rfl kw_1578 kw_14 kw_1575 kw_1577 kp_76 hyX10_done (Nat.le_of_ble_eq_true rfl) (Nat.le_of_ble_eq_true rfl) rfl rfl (Nat.le_of_ble_eq_true rfl) dX10_changes_20 ?_
  cases hf
  exact hq _ _ dX10_changes_23

theorem mX10_changes (l : Launch) (D : va_G) (Ca : Nat → ClassId) (B : Nat) (En : State → Prop) (hE : zEk B En) (σ : zS) (N : Nat) (x0 : Nat) (x1 : Int32) (x2 : Int32) (X : zS × Int32) (hf : fX10_changes σ x0 x1 x2 = some X) : zMi l D Ca B En yX10_changes cX10_changes 4 (Option.some Jvm.ClassFile.FieldType.int) 2 42 [.ref x0, .int x1, .int x2] σ N X.1 X.2 :=
  zMet_i (own := RX10) hE (by decide +kernel) rfl (Nat.le_of_ble_eq_true rfl) (fun p e s m args below meth c C hr hRm => wfX10_changes C hRm σ x0 x1 x2 X.1 X.2 hf (fun pc lv hd => zfin_i C hr hd))
theorem dX10_setRoom_0 : decode cX10_setRoom 0 = .ok (.aload_n 0, 1) := by decide +kernel
theorem dX10_setRoom_1 : decode cX10_setRoom 1 = .ok (.iload_n 1, 1) := by decide +kernel
theorem dX10_setRoom_2 : decode cX10_setRoom 2 = .ok (.i2l, 1) := by decide +kernel
theorem dX10_setRoom_3 : decode cX10_setRoom 3 = .ok (.lconst 1, 1) := by decide +kernel
theorem dX10_setRoom_4 : decode cX10_setRoom 4 = .ok (.ldc2_w 284, 3) := by decide +kernel
theorem dX10_setRoom_7 : decode cX10_setRoom 7 = .ok (.invokestatic 247, 3) := by decide +kernel
theorem dX10_setRoom_10 : decode cX10_setRoom 10 = .ok (.invokevirtual 96, 3) := by decide +kernel
theorem dX10_setRoom_13 : decode cX10_setRoom 13 = .ok (.ifCond .eq 12, 3) := by decide +kernel
theorem dX10_setRoom_16 : decode cX10_setRoom 16 = .ok (.aload_n 0, 1) := by decide +kernel
theorem dX10_setRoom_17 : decode cX10_setRoom 17 = .ok (.iconst 2, 1) := by decide +kernel
theorem dX10_setRoom_18 : decode cX10_setRoom 18 = .ok (.iload_n 1, 1) := by decide +kernel
theorem dX10_setRoom_19 : decode cX10_setRoom 19 = .ok (.invokevirtual 286, 3) := by decide +kernel
theorem dX10_setRoom_22 : decode cX10_setRoom 22 = .ok (.goto 4, 3) := by decide +kernel
theorem dX10_setRoom_25 : decode cX10_setRoom 25 = .ok (.iconst 0, 1) := by decide +kernel
theorem dX10_setRoom_26 : decode cX10_setRoom 26 = .ok (.ireturn, 1) := by decide +kernel
theorem hyX10_setRoom : yX10_setRoom.cls ≠ "java/lang/invoke/MethodHandle" ∧ yX10_setRoom.cls ≠ "java/lang/invoke/VarHandle" ∧ (parseMethodDescriptor yX10_setRoom.desc).map (fun d => d.parameters.length) = some 1 := ⟨by decide +kernel, by decide +kernel, by decide +kernel⟩
set_option maxRecDepth 100000 in
set_option maxHeartbeats 4000000 in
theorem wfX10_setRoom (C : zC p s m args meth c cX10_setRoom RX10 2 D Ca B En) (hRm : zRm R 3 65 cells slots) (σ : zS) (x0 : Nat) (x1 : Int32) (τ : zS) (r : Int32) (hf : fX10_setRoom σ x0 x1 = some (τ, r)) (hq : ∀ (pc : Nat) (lv : List (Nat × Value)), decode cX10_setRoom pc = .ok (.ireturn, 1) → zW p l e R s m args below meth c cells slots Q D Ca B 2 τ N pc lv [.int r]) : zW p l e R s m args below meth c cells slots Q D Ca B 2 σ N 0 [(0, .ref x0), (1, .int x1)] [] := by
  unfold fX10_setRoom at hf
  refine z_aload_n C dX10_setRoom_0 rfl 0 rfl ?_
  refine z_iload_n C dX10_setRoom_1 rfl 1 rfl ?_
  refine z_i2l C dX10_setRoom_2 ?_
  refine z_lconst C 1 dX10_setRoom_3 (by decide) ?_
  refine z_ldc2 C kw_1620 dX10_setRoom_4 ?_
  obtain ⟨c1, hc1, hf⟩ := zbind hf
  refine z_callSi (As := [.long x1.toInt64, .long 1, .long 9]) (F0 := 3) (L0 := 65) C (mX10_isIn l D Ca B En C.2.2.2.2.2.2.2.1 σ N x1.toInt64 1 9 _ hc1) hRm kw_1392 kw_14 kw_1390 kw_1391 hyX10_isIn (Nat.le_of_ble_eq_true rfl) (Nat.le_of_ble_eq_true rfl) rfl rfl (Nat.le_of_ble_eq_true rfl) dX10_setRoom_7 ?_
  obtain ⟨c2, hc2, hf⟩ := zbind hf
  obtain ⟨kc2, hc2⟩ := zck_ok hc2
  refine z_callVi (As := [.int c1.2]) (F0 := 3) (L0 := 65) C (mX10_is l D Ca B En C.2.2.2.2.2.2.2.1 c1.1 N x0 c1.2 _ hc2) hRm kc2 rfl kw_1373 kw_14 kw_1370 kw_1372 kp_37 hyX10_is (Nat.le_of_ble_eq_true rfl) (Nat.le_of_ble_eq_true rfl) rfl rfl (Nat.le_of_ble_eq_true rfl) dX10_setRoom_10 ?_
  refine z_if_eq C 25 dX10_setRoom_13 (by decide) (fun q4 => ?_) (fun q4 => ?_)
  · rw [if_pos q4] at hf
    refine z_iconst C (zi 0) dX10_setRoom_25 (by decide) ?_
    cases hf
    exact hq _ _ dX10_setRoom_26
  · rw [if_neg q4] at hf
    refine z_aload_n C dX10_setRoom_16 rfl 0 rfl ?_
    refine z_iconst C (zi 2) dX10_setRoom_17 (by decide) ?_
    refine z_iload_n C dX10_setRoom_18 rfl 1 rfl ?_
    obtain ⟨c3, hc3, hf⟩ := zbind hf
    obtain ⟨kc3, hc3⟩ := zck_ok hc3
    refine z_callVi (As := [.int ((zi 2)), .int x1]) (F0 := 3) (L0 := 65) C (mX10_changes l D Ca B En C.2.2.2.2.2.2.2.1 c2.1 N x0 ((zi 2)) x1 _ hc3) hRm kc3 rfl kw_1624 kw_14 kw_1621 kw_1623 kp_82 hyX10_changes (Nat.le_of_ble_eq_true rfl) (Nat.le_of_ble_eq_true rfl) rfl rfl (Nat.le_of_ble_eq_true rfl) dX10_setRoom_19 ?_
    refine z_goto C 26 dX10_setRoom_22 (by decide) ?_
    cases hf
    exact hq _ _ dX10_setRoom_26

theorem mX10_setRoom (l : Launch) (D : va_G) (Ca : Nat → ClassId) (B : Nat) (En : State → Prop) (hE : zEk B En) (σ : zS) (N : Nat) (x0 : Nat) (x1 : Int32) (X : zS × Int32) (hf : fX10_setRoom σ x0 x1 = some X) : zMi l D Ca B En yX10_setRoom cX10_setRoom 2 (Option.some Jvm.ClassFile.FieldType.int) 3 65 [.ref x0, .int x1] σ N X.1 X.2 :=
  zMet_i (own := RX10) hE (by decide +kernel) rfl (Nat.le_of_ble_eq_true rfl) (fun p e s m args below meth c C hr hRm => wfX10_setRoom C hRm σ x0 x1 X.1 X.2 hf (fun pc lv hd => zfin_i C hr hd))
theorem dX10_isSource_0 : decode cX10_isSource 0 = .ok (.iload_n 1, 1) := by decide +kernel
theorem dX10_isSource_1 : decode cX10_isSource 1 = .ok (.i2l, 1) := by decide +kernel
theorem dX10_isSource_2 : decode cX10_isSource 2 = .ok (.lconst 0, 1) := by decide +kernel
theorem dX10_isSource_3 : decode cX10_isSource 3 = .ok (.aload_n 0, 1) := by decide +kernel
theorem dX10_isSource_4 : decode cX10_isSource 4 = .ok (.getfield 75, 3) := by decide +kernel
theorem dX10_isSource_7 : decode cX10_isSource 7 = .ok (.iconst 1, 1) := by decide +kernel
theorem dX10_isSource_8 : decode cX10_isSource 8 = .ok (.isub, 1) := by decide +kernel
theorem dX10_isSource_9 : decode cX10_isSource 9 = .ok (.i2l, 1) := by decide +kernel
theorem dX10_isSource_10 : decode cX10_isSource 10 = .ok (.invokestatic 247, 3) := by decide +kernel
theorem dX10_isSource_13 : decode cX10_isSource 13 = .ok (.ireturn, 1) := by decide +kernel
theorem hyX10_isSource : yX10_isSource.cls ≠ "java/lang/invoke/MethodHandle" ∧ yX10_isSource.cls ≠ "java/lang/invoke/VarHandle" ∧ (parseMethodDescriptor yX10_isSource.desc).map (fun d => d.parameters.length) = some 1 := ⟨by decide +kernel, by decide +kernel, by decide +kernel⟩
set_option maxRecDepth 100000 in
set_option maxHeartbeats 4000000 in
theorem wfX10_isSource (C : zC p s m args meth c cX10_isSource RX10 2 D Ca B En) (hRm : zRm R 1 25 cells slots) (σ : zS) (x0 : Nat) (x1 : Int32) (τ : zS) (r : Int32) (hf : fX10_isSource σ x0 x1 = some (τ, r)) (hq : ∀ (pc : Nat) (lv : List (Nat × Value)), (r = 0 ∨ r = 1) → decode cX10_isSource pc = .ok (.ireturn, 1) → zW p l e R s m args below meth c cells slots Q D Ca B 2 τ N pc lv [.int r]) : zW p l e R s m args below meth c cells slots Q D Ca B 2 σ N 0 [(0, .ref x0), (1, .int x1)] [] := by
  unfold fX10_isSource at hf
  refine z_iload_n C dX10_isSource_0 rfl 1 rfl ?_
  refine z_i2l C dX10_isSource_1 ?_
  refine z_lconst C 0 dX10_isSource_2 (by decide) ?_
  refine z_aload_n C dX10_isSource_3 rfl 0 rfl ?_
  obtain ⟨v1, hv1, hf⟩ := zbind hf
  refine gf_RX10_75 C hv1 dX10_isSource_4 ?_
  refine z_iconst C (zi 1) dX10_isSource_7 (by decide) ?_
  refine z_isub C dX10_isSource_8 ?_
  refine z_i2l C dX10_isSource_9 ?_
  obtain ⟨c2, hc2, hf⟩ := zbind hf
  refine z_callSi (As := [.long x1.toInt64, .long 0, .long ((v1 - ((zi 1)) : Int32).toInt64)]) (F0 := 1) (L0 := 25) C (mX10_isIn l D Ca B En C.2.2.2.2.2.2.2.1 σ N x1.toInt64 0 ((v1 - ((zi 1)) : Int32).toInt64) _ hc2) hRm kw_1392 kw_14 kw_1390 kw_1391 hyX10_isIn (Nat.le_of_ble_eq_true rfl) (Nat.le_of_ble_eq_true rfl) rfl rfl (Nat.le_of_ble_eq_true rfl) dX10_isSource_10 ?_
  obtain ⟨e9, b9⟩ := zrZ_ok hf
  cases e9
  exact hq _ _ b9 dX10_isSource_13

theorem mX10_isSource (l : Launch) (D : va_G) (Ca : Nat → ClassId) (B : Nat) (En : State → Prop) (hE : zEk B En) (σ : zS) (N : Nat) (x0 : Nat) (x1 : Int32) (X : zS × Int32) (hf : fX10_isSource σ x0 x1 = some X) : zMi l D Ca B En yX10_isSource cX10_isSource 2 (Option.some Jvm.ClassFile.FieldType.boolean) 1 25 [.ref x0, .int x1] σ N X.1 X.2 :=
  zMet_i (own := RX10) hE (by decide +kernel) rfl (Nat.le_of_ble_eq_true rfl) (fun p e s m args below meth c C hr hRm => wfX10_isSource C hRm σ x0 x1 X.1 X.2 hf (fun pc lv hb hd => zfin_z C hb hr hd))
theorem dX10_setLag_0 : decode cX10_setLag 0 = .ok (.aload_n 0, 1) := by decide +kernel
theorem dX10_setLag_1 : decode cX10_setLag 1 = .ok (.aload_n 0, 1) := by decide +kernel
theorem dX10_setLag_2 : decode cX10_setLag 2 = .ok (.iload_n 1, 1) := by decide +kernel
theorem dX10_setLag_3 : decode cX10_setLag 3 = .ok (.invokevirtual 289, 3) := by decide +kernel
theorem dX10_setLag_6 : decode cX10_setLag 6 = .ok (.invokevirtual 96, 3) := by decide +kernel
theorem dX10_setLag_9 : decode cX10_setLag 9 = .ok (.ifCond .eq 32, 3) := by decide +kernel
theorem dX10_setLag_12 : decode cX10_setLag 12 = .ok (.aload_n 0, 1) := by decide +kernel
theorem dX10_setLag_13 : decode cX10_setLag 13 = .ok (.iload_n 2, 1) := by decide +kernel
theorem dX10_setLag_14 : decode cX10_setLag 14 = .ok (.i2l, 1) := by decide +kernel
theorem dX10_setLag_15 : decode cX10_setLag 15 = .ok (.lconst 0, 1) := by decide +kernel
theorem dX10_setLag_16 : decode cX10_setLag 16 = .ok (.ldc2_w 284, 3) := by decide +kernel
theorem dX10_setLag_19 : decode cX10_setLag 19 = .ok (.invokestatic 247, 3) := by decide +kernel
theorem dX10_setLag_22 : decode cX10_setLag 22 = .ok (.iconst 2, 1) := by decide +kernel
theorem dX10_setLag_23 : decode cX10_setLag 23 = .ok (.invokevirtual 292, 3) := by decide +kernel
theorem dX10_setLag_26 : decode cX10_setLag 26 = .ok (.ifCond .eq 15, 3) := by decide +kernel
theorem dX10_setLag_29 : decode cX10_setLag 29 = .ok (.aload_n 0, 1) := by decide +kernel
theorem dX10_setLag_30 : decode cX10_setLag 30 = .ok (.bipush 9, 2) := by decide +kernel
theorem dX10_setLag_32 : decode cX10_setLag 32 = .ok (.iload_n 1, 1) := by decide +kernel
theorem dX10_setLag_33 : decode cX10_setLag 33 = .ok (.iadd, 1) := by decide +kernel
theorem dX10_setLag_34 : decode cX10_setLag 34 = .ok (.iload_n 2, 1) := by decide +kernel
theorem dX10_setLag_35 : decode cX10_setLag 35 = .ok (.invokevirtual 286, 3) := by decide +kernel
theorem dX10_setLag_38 : decode cX10_setLag 38 = .ok (.goto 4, 3) := by decide +kernel
theorem dX10_setLag_41 : decode cX10_setLag 41 = .ok (.iconst 0, 1) := by decide +kernel
theorem dX10_setLag_42 : decode cX10_setLag 42 = .ok (.ireturn, 1) := by decide +kernel
theorem hyX10_setLag : yX10_setLag.cls ≠ "java/lang/invoke/MethodHandle" ∧ yX10_setLag.cls ≠ "java/lang/invoke/VarHandle" ∧ (parseMethodDescriptor yX10_setLag.desc).map (fun d => d.parameters.length) = some 2 := ⟨by decide +kernel, by decide +kernel, by decide +kernel⟩
set_option maxRecDepth 100000 in
set_option maxHeartbeats 4000000 in
theorem wfX10_setLag (C : zC p s m args meth c cX10_setLag RX10 3 D Ca B En) (hRm : zRm R 3 65 cells slots) (σ : zS) (x0 : Nat) (x1 : Int32) (x2 : Int32) (τ : zS) (r : Int32) (hf : fX10_setLag σ x0 x1 x2 = some (τ, r)) (hq : ∀ (pc : Nat) (lv : List (Nat × Value)), decode cX10_setLag pc = .ok (.ireturn, 1) → zW p l e R s m args below meth c cells slots Q D Ca B 3 τ N pc lv [.int r]) : zW p l e R s m args below meth c cells slots Q D Ca B 3 σ N 0 [(0, .ref x0), (1, .int x1), (2, .int x2)] [] := by
  unfold fX10_setLag at hf
  refine z_aload_n C dX10_setLag_0 rfl 0 rfl ?_
  refine z_aload_n C dX10_setLag_1 rfl 0 rfl ?_
  refine z_iload_n C dX10_setLag_2 rfl 1 rfl ?_
  obtain ⟨c1, hc1, hf⟩ := zbind hf
  obtain ⟨kc1, hc1⟩ := zck_ok hc1
  refine z_callVi (As := [.int x1]) (F0 := 3) (L0 := 65) C (mX10_isSource l D Ca B En C.2.2.2.2.2.2.2.1 σ N x0 x1 _ hc1) hRm kc1 rfl kw_1632 kw_14 kw_1629 kw_1631 kp_83 hyX10_isSource (Nat.le_of_ble_eq_true rfl) (Nat.le_of_ble_eq_true rfl) rfl rfl (Nat.le_of_ble_eq_true rfl) dX10_setLag_3 ?_
  obtain ⟨c2, hc2, hf⟩ := zbind hf
  obtain ⟨kc2, hc2⟩ := zck_ok hc2
  refine z_callVi (As := [.int c1.2]) (F0 := 3) (L0 := 65) C (mX10_is l D Ca B En C.2.2.2.2.2.2.2.1 c1.1 N x0 c1.2 _ hc2) hRm kc2 rfl kw_1373 kw_14 kw_1370 kw_1372 kp_37 hyX10_is (Nat.le_of_ble_eq_true rfl) (Nat.le_of_ble_eq_true rfl) rfl rfl (Nat.le_of_ble_eq_true rfl) dX10_setLag_6 ?_
  refine z_if_eq C 41 dX10_setLag_9 (by decide) (fun q7 => ?_) (fun q7 => ?_)
  · rw [if_pos q7] at hf
    refine z_iconst C (zi 0) dX10_setLag_41 (by decide) ?_
    cases hf
    exact hq _ _ dX10_setLag_42
  · rw [if_neg q7] at hf
    refine z_aload_n C dX10_setLag_12 rfl 0 rfl ?_
    refine z_iload_n C dX10_setLag_13 rfl 2 rfl ?_
    refine z_i2l C dX10_setLag_14 ?_
    refine z_lconst C 0 dX10_setLag_15 (by decide) ?_
    refine z_ldc2 C kw_1620 dX10_setLag_16 ?_
    obtain ⟨c3, hc3, hf⟩ := zbind hf
    refine z_callSi (As := [.long x2.toInt64, .long 0, .long 9]) (F0 := 3) (L0 := 65) C (mX10_isIn l D Ca B En C.2.2.2.2.2.2.2.1 c2.1 N x2.toInt64 0 9 _ hc3) hRm kw_1392 kw_14 kw_1390 kw_1391 hyX10_isIn (Nat.le_of_ble_eq_true rfl) (Nat.le_of_ble_eq_true rfl) rfl rfl (Nat.le_of_ble_eq_true rfl) dX10_setLag_19 ?_
    refine z_iconst C (zi 2) dX10_setLag_22 (by decide) ?_
    obtain ⟨c4, hc4, hf⟩ := zbind hf
    obtain ⟨kc4, hc4⟩ := zck_ok hc4
    refine z_callVi (As := [.int c3.2, .int ((zi 2))]) (F0 := 3) (L0 := 65) C (mX10_may l D Ca B En C.2.2.2.2.2.2.2.1 c3.1 N x0 c3.2 ((zi 2)) _ hc4) hRm kc4 rfl kw_1636 kw_14 kw_1633 kw_1635 kp_84 hyX10_may (Nat.le_of_ble_eq_true rfl) (Nat.le_of_ble_eq_true rfl) rfl rfl (Nat.le_of_ble_eq_true rfl) dX10_setLag_23 ?_
    refine z_if_eq C 41 dX10_setLag_26 (by decide) (fun q6 => ?_) (fun q6 => ?_)
    · rw [if_pos q6] at hf
      refine z_iconst C (zi 0) dX10_setLag_41 (by decide) ?_
      cases hf
      exact hq _ _ dX10_setLag_42
    · rw [if_neg q6] at hf
      refine z_aload_n C dX10_setLag_29 rfl 0 rfl ?_
      refine z_bipush C (zi 9) dX10_setLag_30 (by decide) ?_
      refine z_iload_n C dX10_setLag_32 rfl 1 rfl ?_
      refine z_iadd C dX10_setLag_33 ?_
      refine z_iload_n C dX10_setLag_34 rfl 2 rfl ?_
      obtain ⟨c5, hc5, hf⟩ := zbind hf
      obtain ⟨kc5, hc5⟩ := zck_ok hc5
      refine z_callVi (As := [.int (((zi 9)) + x1), .int x2]) (F0 := 3) (L0 := 65) C (mX10_changes l D Ca B En C.2.2.2.2.2.2.2.1 c4.1 N x0 (((zi 9)) + x1) x2 _ hc5) hRm kc5 rfl kw_1624 kw_14 kw_1621 kw_1623 kp_82 hyX10_changes (Nat.le_of_ble_eq_true rfl) (Nat.le_of_ble_eq_true rfl) rfl rfl (Nat.le_of_ble_eq_true rfl) dX10_setLag_35 ?_
      refine z_goto C 42 dX10_setLag_38 (by decide) ?_
      cases hf
      exact hq _ _ dX10_setLag_42

theorem mX10_setLag (l : Launch) (D : va_G) (Ca : Nat → ClassId) (B : Nat) (En : State → Prop) (hE : zEk B En) (σ : zS) (N : Nat) (x0 : Nat) (x1 : Int32) (x2 : Int32) (X : zS × Int32) (hf : fX10_setLag σ x0 x1 x2 = some X) : zMi l D Ca B En yX10_setLag cX10_setLag 3 (Option.some Jvm.ClassFile.FieldType.int) 3 65 [.ref x0, .int x1, .int x2] σ N X.1 X.2 :=
  zMet_i (own := RX10) hE (by decide +kernel) rfl (Nat.le_of_ble_eq_true rfl) (fun p e s m args below meth c C hr hRm => wfX10_setLag C hRm σ x0 x1 x2 X.1 X.2 hf (fun pc lv hd => zfin_i C hr hd))
theorem dX10_setEvery_0 : decode cX10_setEvery 0 = .ok (.aload_n 0, 1) := by decide +kernel
theorem dX10_setEvery_1 : decode cX10_setEvery 1 = .ok (.iload_n 1, 1) := by decide +kernel
theorem dX10_setEvery_2 : decode cX10_setEvery 2 = .ok (.i2l, 1) := by decide +kernel
theorem dX10_setEvery_3 : decode cX10_setEvery 3 = .ok (.lconst 0, 1) := by decide +kernel
theorem dX10_setEvery_4 : decode cX10_setEvery 4 = .ok (.ldc2_w 296, 3) := by decide +kernel
theorem dX10_setEvery_7 : decode cX10_setEvery 7 = .ok (.invokestatic 247, 3) := by decide +kernel
theorem dX10_setEvery_10 : decode cX10_setEvery 10 = .ok (.invokevirtual 96, 3) := by decide +kernel
theorem dX10_setEvery_13 : decode cX10_setEvery 13 = .ok (.ifCond .ne 5, 3) := by decide +kernel
theorem dX10_setEvery_16 : decode cX10_setEvery 16 = .ok (.iconst 0, 1) := by decide +kernel
theorem dX10_setEvery_17 : decode cX10_setEvery 17 = .ok (.ireturn, 1) := by decide +kernel
theorem dX10_setEvery_18 : decode cX10_setEvery 18 = .ok (.aload_n 0, 1) := by decide +kernel
theorem dX10_setEvery_19 : decode cX10_setEvery 19 = .ok (.iconst 3, 1) := by decide +kernel
theorem dX10_setEvery_20 : decode cX10_setEvery 20 = .ok (.iload_n 1, 1) := by decide +kernel
theorem dX10_setEvery_21 : decode cX10_setEvery 21 = .ok (.invokevirtual 286, 3) := by decide +kernel
theorem dX10_setEvery_24 : decode cX10_setEvery 24 = .ok (.istore_n 3, 1) := by decide +kernel
theorem dX10_setEvery_25 : decode cX10_setEvery 25 = .ok (.aload_n 0, 1) := by decide +kernel
theorem dX10_setEvery_26 : decode cX10_setEvery 26 = .ok (.getfield 21, 3) := by decide +kernel
theorem dX10_setEvery_29 : decode cX10_setEvery 29 = .ok (.iconst 4, 1) := by decide +kernel
theorem dX10_setEvery_30 : decode cX10_setEvery 30 = .ok (.iload_n 2, 1) := by decide +kernel
theorem dX10_setEvery_31 : decode cX10_setEvery 31 = .ok (.ifCond .eq 7, 3) := by decide +kernel
theorem dX10_setEvery_34 : decode cX10_setEvery 34 = .ok (.iconst 1, 1) := by decide +kernel
theorem dX10_setEvery_35 : decode cX10_setEvery 35 = .ok (.goto 4, 3) := by decide +kernel
theorem dX10_setEvery_38 : decode cX10_setEvery 38 = .ok (.iconst 0, 1) := by decide +kernel
theorem dX10_setEvery_39 : decode cX10_setEvery 39 = .ok (.iastore, 1) := by decide +kernel
theorem dX10_setEvery_40 : decode cX10_setEvery 40 = .ok (.iload_n 3, 1) := by decide +kernel
theorem dX10_setEvery_41 : decode cX10_setEvery 41 = .ok (.ireturn, 1) := by decide +kernel
theorem hyX10_setEvery : yX10_setEvery.cls ≠ "java/lang/invoke/MethodHandle" ∧ yX10_setEvery.cls ≠ "java/lang/invoke/VarHandle" ∧ (parseMethodDescriptor yX10_setEvery.desc).map (fun d => d.parameters.length) = some 2 := ⟨by decide +kernel, by decide +kernel, by decide +kernel⟩
set_option maxRecDepth 100000 in
set_option maxHeartbeats 4000000 in
theorem wfX10_setEvery (C : zC p s m args meth c cX10_setEvery RX10 4 D Ca B En) (hRm : zRm R 3 65 cells slots) (σ : zS) (x0 : Nat) (x1 : Int32) (x2 : Int32) (τ : zS) (r : Int32) (hf : fX10_setEvery σ x0 x1 x2 = some (τ, r)) (hq : ∀ (pc : Nat) (lv : List (Nat × Value)), decode cX10_setEvery pc = .ok (.ireturn, 1) → zW p l e R s m args below meth c cells slots Q D Ca B 4 τ N pc lv [.int r]) : zW p l e R s m args below meth c cells slots Q D Ca B 4 σ N 0 [(0, .ref x0), (1, .int x1), (2, .int x2)] [] := by
  unfold fX10_setEvery at hf
  refine z_aload_n C dX10_setEvery_0 rfl 0 rfl ?_
  refine z_iload_n C dX10_setEvery_1 rfl 1 rfl ?_
  refine z_i2l C dX10_setEvery_2 ?_
  refine z_lconst C 0 dX10_setEvery_3 (by decide) ?_
  refine z_ldc2 C kw_1641 dX10_setEvery_4 ?_
  obtain ⟨c1, hc1, hf⟩ := zbind hf
  refine z_callSi (As := [.long x1.toInt64, .long 0, .long 99]) (F0 := 3) (L0 := 65) C (mX10_isIn l D Ca B En C.2.2.2.2.2.2.2.1 σ N x1.toInt64 0 99 _ hc1) hRm kw_1392 kw_14 kw_1390 kw_1391 hyX10_isIn (Nat.le_of_ble_eq_true rfl) (Nat.le_of_ble_eq_true rfl) rfl rfl (Nat.le_of_ble_eq_true rfl) dX10_setEvery_7 ?_
  obtain ⟨c2, hc2, hf⟩ := zbind hf
  obtain ⟨kc2, hc2⟩ := zck_ok hc2
  refine z_callVi (As := [.int c1.2]) (F0 := 3) (L0 := 65) C (mX10_is l D Ca B En C.2.2.2.2.2.2.2.1 c1.1 N x0 c1.2 _ hc2) hRm kc2 rfl kw_1373 kw_14 kw_1370 kw_1372 kp_37 hyX10_is (Nat.le_of_ble_eq_true rfl) (Nat.le_of_ble_eq_true rfl) rfl rfl (Nat.le_of_ble_eq_true rfl) dX10_setEvery_10 ?_
  refine z_if_ne C 18 dX10_setEvery_13 (by decide) (fun q8 => ?_) (fun q8 => ?_)
  · rw [if_neg q8] at hf
    refine z_aload_n C dX10_setEvery_18 rfl 0 rfl ?_
    refine z_iconst C (zi 3) dX10_setEvery_19 (by decide) ?_
    refine z_iload_n C dX10_setEvery_20 rfl 1 rfl ?_
    obtain ⟨c3, hc3, hf⟩ := zbind hf
    obtain ⟨kc3, hc3⟩ := zck_ok hc3
    refine z_callVi (As := [.int ((zi 3)), .int x1]) (F0 := 3) (L0 := 65) C (mX10_changes l D Ca B En C.2.2.2.2.2.2.2.1 c2.1 N x0 ((zi 3)) x1 _ hc3) hRm kc3 rfl kw_1624 kw_14 kw_1621 kw_1623 kp_82 hyX10_changes (Nat.le_of_ble_eq_true rfl) (Nat.le_of_ble_eq_true rfl) rfl rfl (Nat.le_of_ble_eq_true rfl) dX10_setEvery_21 ?_
    refine z_istore_n (lv2 := [(3, .int c3.2), (0, .ref x0), (1, .int x1), (2, .int x2)]) C dX10_setEvery_24 rfl (by decide) rfl ?_
    refine z_aload_n C dX10_setEvery_25 rfl 1 rfl ?_
    obtain ⟨v4, hv4, hf⟩ := zbind hf
    refine gf_RX10_21 C hv4 dX10_setEvery_26 ?_
    refine z_iconst C (zi 4) dX10_setEvery_29 (by decide) ?_
    refine z_iload_n C dX10_setEvery_30 rfl 3 rfl ?_
    refine z_if_eq C 38 dX10_setEvery_31 (by decide) (fun q7 => ?_) (fun q7 => ?_)
    · rw [if_pos q7] at hf
      refine z_iconst C (zi 0) dX10_setEvery_38 (by decide) ?_
      obtain ⟨σ5, hσ5, hf⟩ := zbind hf
      refine z_sI C hσ5 dX10_setEvery_39 ?_
      refine z_iload_n C dX10_setEvery_40 rfl 0 rfl ?_
      cases hf
      exact hq _ _ dX10_setEvery_41
    · rw [if_neg q7] at hf
      refine z_iconst C (zi 1) dX10_setEvery_34 (by decide) ?_
      refine z_goto C 39 dX10_setEvery_35 (by decide) ?_
      obtain ⟨σ6, hσ6, hf⟩ := zbind hf
      refine z_sI C hσ6 dX10_setEvery_39 ?_
      refine z_iload_n C dX10_setEvery_40 rfl 0 rfl ?_
      cases hf
      exact hq _ _ dX10_setEvery_41
  · rw [if_pos q8] at hf
    refine z_iconst C (zi 0) dX10_setEvery_16 (by decide) ?_
    cases hf
    exact hq _ _ dX10_setEvery_17

theorem mX10_setEvery (l : Launch) (D : va_G) (Ca : Nat → ClassId) (B : Nat) (En : State → Prop) (hE : zEk B En) (σ : zS) (N : Nat) (x0 : Nat) (x1 : Int32) (x2 : Int32) (X : zS × Int32) (hf : fX10_setEvery σ x0 x1 x2 = some X) : zMi l D Ca B En yX10_setEvery cX10_setEvery 4 (Option.some Jvm.ClassFile.FieldType.int) 3 65 [.ref x0, .int x1, .int x2] σ N X.1 X.2 :=
  zMet_i (own := RX10) hE (by decide +kernel) rfl (Nat.le_of_ble_eq_true rfl) (fun p e s m args below meth c C hr hRm => wfX10_setEvery C hRm σ x0 x1 x2 X.1 X.2 hf (fun pc lv hd => zfin_i C hr hd))
theorem dX10_completesWithin_0 : decode cX10_completesWithin 0 = .ok (.aload_n 0, 1) := by decide +kernel
theorem dX10_completesWithin_1 : decode cX10_completesWithin 1 = .ok (.getfield 21, 3) := by decide +kernel
theorem dX10_completesWithin_4 : decode cX10_completesWithin 4 = .ok (.bipush 6, 2) := by decide +kernel
theorem dX10_completesWithin_6 : decode cX10_completesWithin 6 = .ok (.iaload, 1) := by decide +kernel
theorem dX10_completesWithin_7 : decode cX10_completesWithin 7 = .ok (.istore_n 2, 1) := by decide +kernel
theorem dX10_completesWithin_8 : decode cX10_completesWithin 8 = .ok (.iconst 1, 1) := by decide +kernel
theorem dX10_completesWithin_9 : decode cX10_completesWithin 9 = .ok (.istore_n 3, 1) := by decide +kernel
theorem dX10_completesWithin_10 : decode cX10_completesWithin 10 = .ok (.iload_n 3, 1) := by decide +kernel
theorem dX10_completesWithin_11 : decode cX10_completesWithin 11 = .ok (.iload_n 1, 1) := by decide +kernel
theorem dX10_completesWithin_12 : decode cX10_completesWithin 12 = .ok (.if_icmp .gt 26, 3) := by decide +kernel
theorem dX10_completesWithin_15 : decode cX10_completesWithin 15 = .ok (.aload_n 0, 1) := by decide +kernel
theorem dX10_completesWithin_16 : decode cX10_completesWithin 16 = .ok (.invokevirtual 257, 3) := by decide +kernel
theorem dX10_completesWithin_19 : decode cX10_completesWithin 19 = .ok (.aload_n 0, 1) := by decide +kernel
theorem dX10_completesWithin_20 : decode cX10_completesWithin 20 = .ok (.getfield 21, 3) := by decide +kernel
theorem dX10_completesWithin_23 : decode cX10_completesWithin 23 = .ok (.bipush 6, 2) := by decide +kernel
theorem dX10_completesWithin_25 : decode cX10_completesWithin 25 = .ok (.iaload, 1) := by decide +kernel
theorem dX10_completesWithin_26 : decode cX10_completesWithin 26 = .ok (.iload_n 2, 1) := by decide +kernel
theorem dX10_completesWithin_27 : decode cX10_completesWithin 27 = .ok (.if_icmp .le 5, 3) := by decide +kernel
theorem dX10_completesWithin_30 : decode cX10_completesWithin 30 = .ok (.iload_n 3, 1) := by decide +kernel
theorem dX10_completesWithin_31 : decode cX10_completesWithin 31 = .ok (.ireturn, 1) := by decide +kernel
theorem dX10_completesWithin_32 : decode cX10_completesWithin 32 = .ok (.iinc 3 1, 3) := by decide +kernel
theorem dX10_completesWithin_35 : decode cX10_completesWithin 35 = .ok (.goto (-25), 3) := by decide +kernel
theorem dX10_completesWithin_38 : decode cX10_completesWithin 38 = .ok (.iconst (-1), 1) := by decide +kernel
theorem dX10_completesWithin_39 : decode cX10_completesWithin 39 = .ok (.ireturn, 1) := by decide +kernel
theorem hyX10_completesWithin : yX10_completesWithin.cls ≠ "java/lang/invoke/MethodHandle" ∧ yX10_completesWithin.cls ≠ "java/lang/invoke/VarHandle" ∧ (parseMethodDescriptor yX10_completesWithin.desc).map (fun d => d.parameters.length) = some 1 := ⟨by decide +kernel, by decide +kernel, by decide +kernel⟩
set_option maxRecDepth 100000 in
set_option maxHeartbeats 4000000 in
theorem wsX10_completesWithin_10b (C : zC p s m args meth c cX10_completesWithin RX10 4 D Ca B En) (hRm : zRm R 8 181 cells slots) (x0 : Nat) (x1 : Int32) (x2 : Int32) (σ : zS) (u3 : Int32) (y : (zS × Int32) ⊕ ((zS × Int32) ⊕ zS)) (hf : sX10_completesWithin_10b x0 x1 x2 σ u3 = some y) (hk : (∀ z : (zS × Int32), y = .inl z → zW p l e R s m args below meth c cells slots Q D Ca B 4 z.1 N 10 [(0, .ref x0), (1, .int x1), (2, .int x2), (3, .int z.2)] []) ∧ (∀ z : (zS × Int32), y = .inr (.inl z) → zW p l e R s m args below meth c cells slots Q D Ca B 4 z.1 N 30 [(3, .int z.2)] []) ∧ (∀ z : zS, y = .inr (.inr z) → zW p l e R s m args below meth c cells slots Q D Ca B 4 z N 38 [] [])) : zW p l e R s m args below meth c cells slots Q D Ca B 4 σ N 10 [(0, .ref x0), (1, .int x1), (2, .int x2), (3, .int u3)] [] := by
  unfold sX10_completesWithin_10b at hf
  refine z_iload_n C dX10_completesWithin_10 rfl 3 rfl ?_
  refine z_iload_n C dX10_completesWithin_11 rfl 1 rfl ?_
  refine z_icmp_gt C 38 dX10_completesWithin_12 (by decide) (fun q7 => ?_) (fun q7 => ?_)
  · rw [if_pos q7] at hf
    cases hf
    refine z_sub [] rfl ?_
    exact hk.2.2 _ rfl
  · rw [if_neg q7] at hf
    refine z_aload_n C dX10_completesWithin_15 rfl 0 rfl ?_
    obtain ⟨c3, hc3, hf⟩ := zbind hf
    obtain ⟨kc3, hc3⟩ := zck_ok hc3
    refine z_callVv (As := []) (F0 := 8) (L0 := 181) C (mX10_ticks l D Ca B En C.2.2.2.2.2.2.2.1 σ N x0  _ hc3) hRm kc3 rfl kw_1400 kw_14 kw_1397 kw_1399 kp_39 hyX10_ticks (Nat.le_of_ble_eq_true rfl) (Nat.le_of_ble_eq_true rfl) rfl rfl (Nat.le_of_ble_eq_true rfl) dX10_completesWithin_16 ?_
    refine z_aload_n C dX10_completesWithin_19 rfl 0 rfl ?_
    obtain ⟨v4, hv4, hf⟩ := zbind hf
    refine gf_RX10_21 C hv4 dX10_completesWithin_20 ?_
    refine z_bipush C (zi 6) dX10_completesWithin_23 (by decide) ?_
    obtain ⟨v5, hv5, hf⟩ := zbind hf
    refine z_aI C hv5 dX10_completesWithin_25 ?_
    refine z_iload_n C dX10_completesWithin_26 rfl 2 rfl ?_
    refine z_icmp_le C 32 dX10_completesWithin_27 (by decide) (fun q6 => ?_) (fun q6 => ?_)
    · rw [if_pos q6] at hf
      refine z_iinc (lv2 := [(3, .int (u3 + (zi 1))), (0, .ref x0), (1, .int x1), (2, .int x2)]) C (u3 + (zi 1)) dX10_completesWithin_32 3 rfl rfl (by decide) rfl ?_
      refine z_goto C 10 dX10_completesWithin_35 (by decide) ?_
      cases hf
      refine z_sub [1, 2, 3, 0] rfl ?_
      exact hk.1 _ rfl
    · rw [if_neg q6] at hf
      cases hf
      refine z_sub [3] rfl ?_
      exact hk.2.1 _ rfl

theorem wsX10_completesWithin_10 (C : zC p s m args meth c cX10_completesWithin RX10 4 D Ca B En) (hRm : zRm R 8 181 cells slots) (x0 : Nat) (x1 : Int32) (x2 : Int32) (n : Nat) (z : (zS × Int32)) (x : ((zS × Int32) ⊕ zS)) (hf : zloop (sX10_completesWithin_10 x0 x1 x2) n z = some x) (hk : (∀ o : (zS × Int32), x = (.inl o) → zW p l e R s m args below meth c cells slots Q D Ca B 4 o.1 N 30 [(3, .int o.2)] []) ∧ (∀ o : zS, x = (.inr o) → zW p l e R s m args below meth c cells slots Q D Ca B 4 o N 38 [] [])) : zW p l e R s m args below meth c cells slots Q D Ca B 4 z.1 N 10 [(0, .ref x0), (1, .int x1), (2, .int x2), (3, .int z.2)] [] := by
  refine zloop_W (P := fun z : (zS × Int32) => zW p l e R s m args below meth c cells slots Q D Ca B 4 z.1 N 10 [(0, .ref x0), (1, .int x1), (2, .int x2), (3, .int z.2)] []) (K := fun x : ((zS × Int32) ⊕ zS) => (∀ o : (zS × Int32), x = (.inl o) → zW p l e R s m args below meth c cells slots Q D Ca B 4 o.1 N 30 [(3, .int o.2)] []) ∧ (∀ o : zS, x = (.inr o) → zW p l e R s m args below meth c cells slots Q D Ca B 4 o N 38 [] [])) ?_ n z x hf hk
  intro z y hy h1 h2
  refine wsX10_completesWithin_10b C hRm x0 x1 x2 z.1 z.2 y hy ⟨fun z2 e => h1 z2 e, fun o e => (h2 _ e).1 o rfl, fun o e => (h2 _ e).2 o rfl⟩
set_option maxRecDepth 100000 in
set_option maxHeartbeats 4000000 in
theorem wfX10_completesWithin (C : zC p s m args meth c cX10_completesWithin RX10 4 D Ca B En) (hRm : zRm R 8 181 cells slots) (σ : zS) (x0 : Nat) (x1 : Int32) (τ : zS) (r : Int32) (hf : fX10_completesWithin σ x0 x1 = some (τ, r)) (hq : ∀ (pc : Nat) (lv : List (Nat × Value)), decode cX10_completesWithin pc = .ok (.ireturn, 1) → zW p l e R s m args below meth c cells slots Q D Ca B 4 τ N pc lv [.int r]) : zW p l e R s m args below meth c cells slots Q D Ca B 4 σ N 0 [(0, .ref x0), (1, .int x1)] [] := by
  unfold fX10_completesWithin at hf
  refine z_aload_n C dX10_completesWithin_0 rfl 0 rfl ?_
  obtain ⟨v1, hv1, hf⟩ := zbind hf
  refine gf_RX10_21 C hv1 dX10_completesWithin_1 ?_
  refine z_bipush C (zi 6) dX10_completesWithin_4 (by decide) ?_
  obtain ⟨v2, hv2, hf⟩ := zbind hf
  refine z_aI C hv2 dX10_completesWithin_6 ?_
  refine z_istore_n (lv2 := [(2, .int v2), (0, .ref x0), (1, .int x1)]) C dX10_completesWithin_7 rfl (by decide) rfl ?_
  refine z_iconst C (zi 1) dX10_completesWithin_8 (by decide) ?_
  refine z_istore_n (lv2 := [(3, .int ((zi 1))), (2, .int v2), (0, .ref x0), (1, .int x1)]) C dX10_completesWithin_9 rfl (by decide) rfl ?_
  obtain ⟨o8, ho8, hf⟩ := zbind hf
  refine z_sub [2, 3, 1, 0] rfl ?_
  refine wsX10_completesWithin_10 C hRm _ _ _ zfuel (σ, (zi 1)) o8 ho8 ⟨?_, ?_⟩
  · intro z9 e9
    subst e9
    dsimp only at hf
    refine z_iload_n C dX10_completesWithin_30 rfl 0 rfl ?_
    cases hf
    exact hq _ _ dX10_completesWithin_31
  · intro z10 e9
    subst e9
    dsimp only at hf
    refine z_iconst C (zi (-1)) dX10_completesWithin_38 (by decide) ?_
    cases hf
    exact hq _ _ dX10_completesWithin_39

theorem mX10_completesWithin (l : Launch) (D : va_G) (Ca : Nat → ClassId) (B : Nat) (En : State → Prop) (hE : zEk B En) (σ : zS) (N : Nat) (x0 : Nat) (x1 : Int32) (X : zS × Int32) (hf : fX10_completesWithin σ x0 x1 = some X) : zMi l D Ca B En yX10_completesWithin cX10_completesWithin 4 (Option.some Jvm.ClassFile.FieldType.int) 8 181 [.ref x0, .int x1] σ N X.1 X.2 :=
  zMet_i (own := RX10) hE (by decide +kernel) rfl (Nat.le_of_ble_eq_true rfl) (fun p e s m args below meth c C hr hRm => wfX10_completesWithin C hRm σ x0 x1 X.1 X.2 hf (fun pc lv hd => zfin_i C hr hd))
theorem dX10_completesIn_0 : decode cX10_completesIn 0 = .ok (.aload_n 0, 1) := by decide +kernel
theorem dX10_completesIn_1 : decode cX10_completesIn 1 = .ok (.iload_n 1, 1) := by decide +kernel
theorem dX10_completesIn_2 : decode cX10_completesIn 2 = .ok (.invokestatic 251, 3) := by decide +kernel
theorem dX10_completesIn_5 : decode cX10_completesIn 5 = .ok (.invokevirtual 96, 3) := by decide +kernel
theorem dX10_completesIn_8 : decode cX10_completesIn 8 = .ok (.ifCond .ne 5, 3) := by decide +kernel
theorem dX10_completesIn_11 : decode cX10_completesIn 11 = .ok (.iconst 0, 1) := by decide +kernel
theorem dX10_completesIn_12 : decode cX10_completesIn 12 = .ok (.ireturn, 1) := by decide +kernel
theorem dX10_completesIn_13 : decode cX10_completesIn 13 = .ok (.aload_n 0, 1) := by decide +kernel
theorem dX10_completesIn_14 : decode cX10_completesIn 14 = .ok (.getfield 21, 3) := by decide +kernel
theorem dX10_completesIn_17 : decode cX10_completesIn 17 = .ok (.bipush 67, 2) := by decide +kernel
theorem dX10_completesIn_19 : decode cX10_completesIn 19 = .ok (.iaload, 1) := by decide +kernel
theorem dX10_completesIn_20 : decode cX10_completesIn 20 = .ok (.ifCond .ne 5, 3) := by decide +kernel
theorem dX10_completesIn_23 : decode cX10_completesIn 23 = .ok (.iconst (-1), 1) := by decide +kernel
theorem dX10_completesIn_24 : decode cX10_completesIn 24 = .ok (.ireturn, 1) := by decide +kernel
theorem dX10_completesIn_25 : decode cX10_completesIn 25 = .ok (.aload_n 0, 1) := by decide +kernel
theorem dX10_completesIn_26 : decode cX10_completesIn 26 = .ok (.invokevirtual 298, 3) := by decide +kernel
theorem dX10_completesIn_29 : decode cX10_completesIn 29 = .ok (.aload_n 0, 1) := by decide +kernel
theorem dX10_completesIn_30 : decode cX10_completesIn 30 = .ok (.aload_n 0, 1) := by decide +kernel
theorem dX10_completesIn_31 : decode cX10_completesIn 31 = .ok (.iload_n 1, 1) := by decide +kernel
theorem dX10_completesIn_32 : decode cX10_completesIn 32 = .ok (.invokevirtual 301, 3) := by decide +kernel
theorem dX10_completesIn_35 : decode cX10_completesIn 35 = .ok (.invokevirtual 304, 3) := by decide +kernel
theorem dX10_completesIn_38 : decode cX10_completesIn 38 = .ok (.ireturn, 1) := by decide +kernel
theorem hyX10_completesIn : yX10_completesIn.cls ≠ "java/lang/invoke/MethodHandle" ∧ yX10_completesIn.cls ≠ "java/lang/invoke/VarHandle" ∧ (parseMethodDescriptor yX10_completesIn.desc).map (fun d => d.parameters.length) = some 1 := ⟨by decide +kernel, by decide +kernel, by decide +kernel⟩
set_option maxRecDepth 100000 in
set_option maxHeartbeats 4000000 in
theorem wfX10_completesIn (C : zC p s m args meth c cX10_completesIn RX10 2 D Ca B En) (hRm : zRm R 9 204 cells slots) (σ : zS) (x0 : Nat) (x1 : Int32) (τ : zS) (r : Int32) (hf : fX10_completesIn σ x0 x1 = some (τ, r)) (hq : ∀ (pc : Nat) (lv : List (Nat × Value)), decode cX10_completesIn pc = .ok (.ireturn, 1) → zW p l e R s m args below meth c cells slots Q D Ca B 2 τ N pc lv [.int r]) : zW p l e R s m args below meth c cells slots Q D Ca B 2 σ N 0 [(0, .ref x0), (1, .int x1)] [] := by
  unfold fX10_completesIn at hf
  refine z_aload_n C dX10_completesIn_0 rfl 0 rfl ?_
  refine z_iload_n C dX10_completesIn_1 rfl 1 rfl ?_
  obtain ⟨c1, hc1, hf⟩ := zbind hf
  refine z_callSi (As := [.int x1]) (F0 := 9) (L0 := 204) C (mX10_isTicks l D Ca B En C.2.2.2.2.2.2.2.1 σ N x1 _ hc1) hRm kw_1388 kw_14 kw_1386 kw_1387 hyX10_isTicks (Nat.le_of_ble_eq_true rfl) (Nat.le_of_ble_eq_true rfl) rfl rfl (Nat.le_of_ble_eq_true rfl) dX10_completesIn_2 ?_
  obtain ⟨c2, hc2, hf⟩ := zbind hf
  obtain ⟨kc2, hc2⟩ := zck_ok hc2
  refine z_callVi (As := [.int c1.2]) (F0 := 9) (L0 := 204) C (mX10_is l D Ca B En C.2.2.2.2.2.2.2.1 c1.1 N x0 c1.2 _ hc2) hRm kc2 rfl kw_1373 kw_14 kw_1370 kw_1372 kp_37 hyX10_is (Nat.le_of_ble_eq_true rfl) (Nat.le_of_ble_eq_true rfl) rfl rfl (Nat.le_of_ble_eq_true rfl) dX10_completesIn_5 ?_
  refine z_if_ne C 13 dX10_completesIn_8 (by decide) (fun q9 => ?_) (fun q9 => ?_)
  · rw [if_neg q9] at hf
    refine z_aload_n C dX10_completesIn_13 rfl 0 rfl ?_
    obtain ⟨v3, hv3, hf⟩ := zbind hf
    refine gf_RX10_21 C hv3 dX10_completesIn_14 ?_
    refine z_bipush C (zi 67) dX10_completesIn_17 (by decide) ?_
    obtain ⟨v4, hv4, hf⟩ := zbind hf
    refine z_aI C hv4 dX10_completesIn_19 ?_
    refine z_if_ne C 25 dX10_completesIn_20 (by decide) (fun q8 => ?_) (fun q8 => ?_)
    · rw [if_neg q8] at hf
      refine z_aload_n C dX10_completesIn_25 rfl 0 rfl ?_
      obtain ⟨c5, hc5, hf⟩ := zbind hf
      obtain ⟨kc5, hc5⟩ := zck_ok hc5
      refine z_callVv (As := []) (F0 := 9) (L0 := 204) C (mX10_tries l D Ca B En C.2.2.2.2.2.2.2.1 c2.1 N x0  _ hc5) hRm kc5 rfl kw_1649 kw_14 kw_1646 kw_1648 kp_85 hyX10_tries (Nat.le_of_ble_eq_true rfl) (Nat.le_of_ble_eq_true rfl) rfl rfl (Nat.le_of_ble_eq_true rfl) dX10_completesIn_26 ?_
      refine z_aload_n C dX10_completesIn_29 rfl 0 rfl ?_
      refine z_aload_n C dX10_completesIn_30 rfl 0 rfl ?_
      refine z_iload_n C dX10_completesIn_31 rfl 1 rfl ?_
      obtain ⟨c6, hc6, hf⟩ := zbind hf
      obtain ⟨kc6, hc6⟩ := zck_ok hc6
      refine z_callVi (As := [.int x1]) (F0 := 9) (L0 := 204) C (mX10_completesWithin l D Ca B En C.2.2.2.2.2.2.2.1 c5 N x0 x1 _ hc6) hRm kc6 rfl kw_1653 kw_14 kw_1650 kw_1652 kp_86 hyX10_completesWithin (Nat.le_of_ble_eq_true rfl) (Nat.le_of_ble_eq_true rfl) rfl rfl (Nat.le_of_ble_eq_true rfl) dX10_completesIn_32 ?_
      obtain ⟨c7, hc7, hf⟩ := zbind hf
      obtain ⟨kc7, hc7⟩ := zck_ok hc7
      refine z_callVi (As := [.int c6.2]) (F0 := 9) (L0 := 204) C (mX10_laysBack l D Ca B En C.2.2.2.2.2.2.2.1 c6.1 N x0 c6.2 _ hc7) hRm kc7 rfl kw_1657 kw_14 kw_1654 kw_1656 kp_87 hyX10_laysBack (Nat.le_of_ble_eq_true rfl) (Nat.le_of_ble_eq_true rfl) rfl rfl (Nat.le_of_ble_eq_true rfl) dX10_completesIn_35 ?_
      cases hf
      exact hq _ _ dX10_completesIn_38
    · rw [if_pos q8] at hf
      refine z_iconst C (zi (-1)) dX10_completesIn_23 (by decide) ?_
      cases hf
      exact hq _ _ dX10_completesIn_24
  · rw [if_pos q9] at hf
    refine z_iconst C (zi 0) dX10_completesIn_11 (by decide) ?_
    cases hf
    exact hq _ _ dX10_completesIn_12

theorem mX10_completesIn (l : Launch) (D : va_G) (Ca : Nat → ClassId) (B : Nat) (En : State → Prop) (hE : zEk B En) (σ : zS) (N : Nat) (x0 : Nat) (x1 : Int32) (X : zS × Int32) (hf : fX10_completesIn σ x0 x1 = some X) : zMi l D Ca B En yX10_completesIn cX10_completesIn 2 (Option.some Jvm.ClassFile.FieldType.int) 9 204 [.ref x0, .int x1] σ N X.1 X.2 :=
  zMet_i (own := RX10) hE (by decide +kernel) rfl (Nat.le_of_ble_eq_true rfl) (fun p e s m args below meth c C hr hRm => wfX10_completesIn C hRm σ x0 x1 X.1 X.2 hf (fun pc lv hd => zfin_i C hr hd))
theorem dX10_wouldTake_0 : decode cX10_wouldTake 0 = .ok (.aload_n 0, 1) := by decide +kernel
theorem dX10_wouldTake_1 : decode cX10_wouldTake 1 = .ok (.iconst 0, 1) := by decide +kernel
theorem dX10_wouldTake_2 : decode cX10_wouldTake 2 = .ok (.putfield 92, 3) := by decide +kernel
theorem dX10_wouldTake_5 : decode cX10_wouldTake 5 = .ok (.aload_n 0, 1) := by decide +kernel
theorem dX10_wouldTake_6 : decode cX10_wouldTake 6 = .ok (.getfield 21, 3) := by decide +kernel
theorem dX10_wouldTake_9 : decode cX10_wouldTake 9 = .ok (.bipush 67, 2) := by decide +kernel
theorem dX10_wouldTake_11 : decode cX10_wouldTake 11 = .ok (.iaload, 1) := by decide +kernel
theorem dX10_wouldTake_12 : decode cX10_wouldTake 12 = .ok (.iconst 1, 1) := by decide +kernel
theorem dX10_wouldTake_13 : decode cX10_wouldTake 13 = .ok (.if_icmp .ne 5, 3) := by decide +kernel
theorem dX10_wouldTake_16 : decode cX10_wouldTake 16 = .ok (.iconst (-1), 1) := by decide +kernel
theorem dX10_wouldTake_17 : decode cX10_wouldTake 17 = .ok (.ireturn, 1) := by decide +kernel
theorem dX10_wouldTake_18 : decode cX10_wouldTake 18 = .ok (.aload_n 0, 1) := by decide +kernel
theorem dX10_wouldTake_19 : decode cX10_wouldTake 19 = .ok (.invokevirtual 298, 3) := by decide +kernel
theorem dX10_wouldTake_22 : decode cX10_wouldTake 22 = .ok (.aload_n 0, 1) := by decide +kernel
theorem dX10_wouldTake_23 : decode cX10_wouldTake 23 = .ok (.iload_n 1, 1) := by decide +kernel
theorem dX10_wouldTake_24 : decode cX10_wouldTake 24 = .ok (.ifCond .eq 7, 3) := by decide +kernel
theorem dX10_wouldTake_27 : decode cX10_wouldTake 27 = .ok (.iconst 1, 1) := by decide +kernel
theorem dX10_wouldTake_28 : decode cX10_wouldTake 28 = .ok (.goto 4, 3) := by decide +kernel
theorem dX10_wouldTake_31 : decode cX10_wouldTake 31 = .ok (.iconst 0, 1) := by decide +kernel
theorem dX10_wouldTake_32 : decode cX10_wouldTake 32 = .ok (.invokevirtual 218, 3) := by decide +kernel
theorem dX10_wouldTake_35 : decode cX10_wouldTake 35 = .ok (.aload_n 0, 1) := by decide +kernel
theorem dX10_wouldTake_36 : decode cX10_wouldTake 36 = .ok (.aload_n 0, 1) := by decide +kernel
theorem dX10_wouldTake_37 : decode cX10_wouldTake 37 = .ok (.sipush 500, 3) := by decide +kernel
theorem dX10_wouldTake_40 : decode cX10_wouldTake 40 = .ok (.invokevirtual 301, 3) := by decide +kernel
theorem dX10_wouldTake_43 : decode cX10_wouldTake 43 = .ok (.invokevirtual 304, 3) := by decide +kernel
theorem dX10_wouldTake_46 : decode cX10_wouldTake 46 = .ok (.ireturn, 1) := by decide +kernel
theorem hyX10_wouldTake : yX10_wouldTake.cls ≠ "java/lang/invoke/MethodHandle" ∧ yX10_wouldTake.cls ≠ "java/lang/invoke/VarHandle" ∧ (parseMethodDescriptor yX10_wouldTake.desc).map (fun d => d.parameters.length) = some 1 := ⟨by decide +kernel, by decide +kernel, by decide +kernel⟩
set_option maxRecDepth 100000 in
set_option maxHeartbeats 4000000 in
theorem wjX10_wouldTake_32 (C : zC p s m args meth c cX10_wouldTake RX10 2 D Ca B En) (hRm : zRm R 9 204 cells slots) (σ : zS) (x0 : Nat) (y0 : Int32) (y1 : Nat) (τ : zS) (r : Int32) (hf : jX10_wouldTake_32 σ x0 y0 y1 = some (τ, r)) (hq : ∀ (pc : Nat) (lv : List (Nat × Value)), decode cX10_wouldTake pc = .ok (.ireturn, 1) → zW p l e R s m args below meth c cells slots Q D Ca B 2 τ N pc lv [.int r]) : zW p l e R s m args below meth c cells slots Q D Ca B 2 σ N 32 [(0, .ref x0)] [.int y0, .ref y1] := by
  unfold jX10_wouldTake_32 at hf
  obtain ⟨c5, hc5, hf⟩ := zbind hf
  obtain ⟨kc5, hc5⟩ := zck_ok hc5
  refine z_callVv (As := [.int y0]) (F0 := 9) (L0 := 204) C (mX10_begins l D Ca B En C.2.2.2.2.2.2.2.1 σ N y1 y0 _ hc5) hRm kc5 rfl kw_1404 kw_14 kw_1401 kw_1403 kp_40 hyX10_begins (Nat.le_of_ble_eq_true rfl) (Nat.le_of_ble_eq_true rfl) rfl rfl (Nat.le_of_ble_eq_true rfl) dX10_wouldTake_32 ?_
  refine z_aload_n C dX10_wouldTake_35 rfl 0 rfl ?_
  refine z_aload_n C dX10_wouldTake_36 rfl 0 rfl ?_
  refine z_sipush C (zi 500) dX10_wouldTake_37 (by decide) ?_
  obtain ⟨c6, hc6, hf⟩ := zbind hf
  obtain ⟨kc6, hc6⟩ := zck_ok hc6
  refine z_callVi (As := [.int ((zi 500))]) (F0 := 9) (L0 := 204) C (mX10_completesWithin l D Ca B En C.2.2.2.2.2.2.2.1 c5 N x0 ((zi 500)) _ hc6) hRm kc6 rfl kw_1653 kw_14 kw_1650 kw_1652 kp_86 hyX10_completesWithin (Nat.le_of_ble_eq_true rfl) (Nat.le_of_ble_eq_true rfl) rfl rfl (Nat.le_of_ble_eq_true rfl) dX10_wouldTake_40 ?_
  obtain ⟨c7, hc7, hf⟩ := zbind hf
  obtain ⟨kc7, hc7⟩ := zck_ok hc7
  refine z_callVi (As := [.int c6.2]) (F0 := 9) (L0 := 204) C (mX10_laysBack l D Ca B En C.2.2.2.2.2.2.2.1 c6.1 N x0 c6.2 _ hc7) hRm kc7 rfl kw_1657 kw_14 kw_1654 kw_1656 kp_87 hyX10_laysBack (Nat.le_of_ble_eq_true rfl) (Nat.le_of_ble_eq_true rfl) rfl rfl (Nat.le_of_ble_eq_true rfl) dX10_wouldTake_43 ?_
  cases hf
  exact hq _ _ dX10_wouldTake_46

set_option maxRecDepth 100000 in
set_option maxHeartbeats 4000000 in
theorem wfX10_wouldTake (C : zC p s m args meth c cX10_wouldTake RX10 2 D Ca B En) (hRm : zRm R 9 204 cells slots) (σ : zS) (x0 : Nat) (x1 : Int32) (τ : zS) (r : Int32) (hf : fX10_wouldTake σ x0 x1 = some (τ, r)) (hq : ∀ (pc : Nat) (lv : List (Nat × Value)), decode cX10_wouldTake pc = .ok (.ireturn, 1) → zW p l e R s m args below meth c cells slots Q D Ca B 2 τ N pc lv [.int r]) : zW p l e R s m args below meth c cells slots Q D Ca B 2 σ N 0 [(0, .ref x0), (1, .int x1)] [] := by
  unfold fX10_wouldTake at hf
  refine z_aload_n C dX10_wouldTake_0 rfl 0 rfl ?_
  refine z_iconst C (zi 0) dX10_wouldTake_1 (by decide) ?_
  obtain ⟨σ1, hσ1, hf⟩ := zbind hf
  refine gp_RX10_92 C hσ1 dX10_wouldTake_2 ?_
  refine z_aload_n C dX10_wouldTake_5 rfl 0 rfl ?_
  obtain ⟨v2, hv2, hf⟩ := zbind hf
  refine gf_RX10_21 C hv2 dX10_wouldTake_6 ?_
  refine z_bipush C (zi 67) dX10_wouldTake_9 (by decide) ?_
  obtain ⟨v3, hv3, hf⟩ := zbind hf
  refine z_aI C hv3 dX10_wouldTake_11 ?_
  refine z_iconst C (zi 1) dX10_wouldTake_12 (by decide) ?_
  refine z_icmp_ne C 18 dX10_wouldTake_13 (by decide) (fun q9 => ?_) (fun q9 => ?_)
  · rw [if_neg q9] at hf
    refine z_aload_n C dX10_wouldTake_18 rfl 0 rfl ?_
    obtain ⟨c4, hc4, hf⟩ := zbind hf
    obtain ⟨kc4, hc4⟩ := zck_ok hc4
    refine z_callVv (As := []) (F0 := 9) (L0 := 204) C (mX10_tries l D Ca B En C.2.2.2.2.2.2.2.1 σ1 N x0  _ hc4) hRm kc4 rfl kw_1649 kw_14 kw_1646 kw_1648 kp_85 hyX10_tries (Nat.le_of_ble_eq_true rfl) (Nat.le_of_ble_eq_true rfl) rfl rfl (Nat.le_of_ble_eq_true rfl) dX10_wouldTake_19 ?_
    refine z_aload_n C dX10_wouldTake_22 rfl 0 rfl ?_
    refine z_iload_n C dX10_wouldTake_23 rfl 1 rfl ?_
    refine z_if_eq C 31 dX10_wouldTake_24 (by decide) (fun q8 => ?_) (fun q8 => ?_)
    · rw [if_pos q8] at hf
      refine z_iconst C (zi 0) dX10_wouldTake_31 (by decide) ?_
      refine z_sub [0] rfl ?_
      exact wjX10_wouldTake_32 C hRm _ _ _ _ _ _ hf hq
    · rw [if_neg q8] at hf
      refine z_iconst C (zi 1) dX10_wouldTake_27 (by decide) ?_
      refine z_goto C 32 dX10_wouldTake_28 (by decide) ?_
      refine z_sub [0] rfl ?_
      exact wjX10_wouldTake_32 C hRm _ _ _ _ _ _ hf hq
  · rw [if_pos q9] at hf
    refine z_iconst C (zi (-1)) dX10_wouldTake_16 (by decide) ?_
    cases hf
    exact hq _ _ dX10_wouldTake_17

theorem mX10_wouldTake (l : Launch) (D : va_G) (Ca : Nat → ClassId) (B : Nat) (En : State → Prop) (hE : zEk B En) (σ : zS) (N : Nat) (x0 : Nat) (x1 : Int32) (X : zS × Int32) (hf : fX10_wouldTake σ x0 x1 = some X) : zMi l D Ca B En yX10_wouldTake cX10_wouldTake 2 (Option.some Jvm.ClassFile.FieldType.int) 9 204 [.ref x0, .int x1] σ N X.1 X.2 :=
  zMet_i (own := RX10) hE (by decide +kernel) rfl (Nat.le_of_ble_eq_true rfl) (fun p e s m args below meth c C hr hRm => wfX10_wouldTake C hRm σ x0 x1 X.1 X.2 hf (fun pc lv hd => zfin_i C hr hd))
theorem dX10_allIn_0 : decode cX10_allIn 0 = .ok (.iconst 0, 1) := by decide +kernel
theorem dX10_allIn_1 : decode cX10_allIn 1 = .ok (.istore_n 3, 1) := by decide +kernel
theorem dX10_allIn_2 : decode cX10_allIn 2 = .ok (.iconst 0, 1) := by decide +kernel
theorem dX10_allIn_3 : decode cX10_allIn 3 = .ok (.istore 4, 2) := by decide +kernel
theorem dX10_allIn_5 : decode cX10_allIn 5 = .ok (.iload 4, 2) := by decide +kernel
theorem dX10_allIn_7 : decode cX10_allIn 7 = .ok (.bipush 16, 2) := by decide +kernel
theorem dX10_allIn_9 : decode cX10_allIn 9 = .ok (.if_icmp .ge 25, 3) := by decide +kernel
theorem dX10_allIn_12 : decode cX10_allIn 12 = .ok (.iload_n 3, 1) := by decide +kernel
theorem dX10_allIn_13 : decode cX10_allIn 13 = .ok (.aload_n 0, 1) := by decide +kernel
theorem dX10_allIn_14 : decode cX10_allIn 14 = .ok (.getfield 21, 3) := by decide +kernel
theorem dX10_allIn_17 : decode cX10_allIn 17 = .ok (.iload_n 1, 1) := by decide +kernel
theorem dX10_allIn_18 : decode cX10_allIn 18 = .ok (.sipush 202, 3) := by decide +kernel
theorem dX10_allIn_21 : decode cX10_allIn 21 = .ok (.iload 4, 2) := by decide +kernel
theorem dX10_allIn_23 : decode cX10_allIn 23 = .ok (.imul, 1) := by decide +kernel
theorem dX10_allIn_24 : decode cX10_allIn 24 = .ok (.iadd, 1) := by decide +kernel
theorem dX10_allIn_25 : decode cX10_allIn 25 = .ok (.iaload, 1) := by decide +kernel
theorem dX10_allIn_26 : decode cX10_allIn 26 = .ok (.iadd, 1) := by decide +kernel
theorem dX10_allIn_27 : decode cX10_allIn 27 = .ok (.istore_n 3, 1) := by decide +kernel
theorem dX10_allIn_28 : decode cX10_allIn 28 = .ok (.iinc 4 1, 3) := by decide +kernel
theorem dX10_allIn_31 : decode cX10_allIn 31 = .ok (.goto (-26), 3) := by decide +kernel
theorem dX10_allIn_34 : decode cX10_allIn 34 = .ok (.iconst 0, 1) := by decide +kernel
theorem dX10_allIn_35 : decode cX10_allIn 35 = .ok (.istore 4, 2) := by decide +kernel
theorem dX10_allIn_37 : decode cX10_allIn 37 = .ok (.iload 4, 2) := by decide +kernel
theorem dX10_allIn_39 : decode cX10_allIn 39 = .ok (.bipush 8, 2) := by decide +kernel
theorem dX10_allIn_41 : decode cX10_allIn 41 = .ok (.if_icmp .ge 25, 3) := by decide +kernel
theorem dX10_allIn_44 : decode cX10_allIn 44 = .ok (.iload_n 3, 1) := by decide +kernel
theorem dX10_allIn_45 : decode cX10_allIn 45 = .ok (.aload_n 0, 1) := by decide +kernel
theorem dX10_allIn_46 : decode cX10_allIn 46 = .ok (.getfield 21, 3) := by decide +kernel
theorem dX10_allIn_49 : decode cX10_allIn 49 = .ok (.iload_n 2, 1) := by decide +kernel
theorem dX10_allIn_50 : decode cX10_allIn 50 = .ok (.sipush 802, 3) := by decide +kernel
theorem dX10_allIn_53 : decode cX10_allIn 53 = .ok (.iload 4, 2) := by decide +kernel
theorem dX10_allIn_55 : decode cX10_allIn 55 = .ok (.imul, 1) := by decide +kernel
theorem dX10_allIn_56 : decode cX10_allIn 56 = .ok (.iadd, 1) := by decide +kernel
theorem dX10_allIn_57 : decode cX10_allIn 57 = .ok (.iaload, 1) := by decide +kernel
theorem dX10_allIn_58 : decode cX10_allIn 58 = .ok (.iadd, 1) := by decide +kernel
theorem dX10_allIn_59 : decode cX10_allIn 59 = .ok (.istore_n 3, 1) := by decide +kernel
theorem dX10_allIn_60 : decode cX10_allIn 60 = .ok (.iinc 4 1, 3) := by decide +kernel
theorem dX10_allIn_63 : decode cX10_allIn 63 = .ok (.goto (-26), 3) := by decide +kernel
theorem dX10_allIn_66 : decode cX10_allIn 66 = .ok (.iload_n 3, 1) := by decide +kernel
theorem dX10_allIn_67 : decode cX10_allIn 67 = .ok (.ireturn, 1) := by decide +kernel
theorem hyX10_allIn : yX10_allIn.cls ≠ "java/lang/invoke/MethodHandle" ∧ yX10_allIn.cls ≠ "java/lang/invoke/VarHandle" ∧ (parseMethodDescriptor yX10_allIn.desc).map (fun d => d.parameters.length) = some 2 := ⟨by decide +kernel, by decide +kernel, by decide +kernel⟩
set_option maxRecDepth 100000 in
set_option maxHeartbeats 4000000 in
theorem wsX10_allIn_5b (C : zC p s m args meth c cX10_allIn RX10 5 D Ca B En) (hRm : zRm R 0 0 cells slots) (x0 : Nat) (x1 : Int32) (x2 : Int32) (σ : zS) (u3 : Int32) (u4 : Int32) (y : (zS × Int32 × Int32) ⊕ (zS × Int32)) (hf : sX10_allIn_5b x0 x1 x2 σ u3 u4 = some y) (hk : (∀ z : (zS × Int32 × Int32), y = .inl z → zW p l e R s m args below meth c cells slots Q D Ca B 5 z.1 N 5 [(0, .ref x0), (1, .int x1), (2, .int x2), (3, .int z.2.1), (4, .int z.2.2)] []) ∧ (∀ z : (zS × Int32), y = .inr z → zW p l e R s m args below meth c cells slots Q D Ca B 5 z.1 N 34 [(0, .ref x0), (2, .int x2), (3, .int z.2)] [])) : zW p l e R s m args below meth c cells slots Q D Ca B 5 σ N 5 [(0, .ref x0), (1, .int x1), (2, .int x2), (3, .int u3), (4, .int u4)] [] := by
  unfold sX10_allIn_5b at hf
  refine z_iload C dX10_allIn_5 4 rfl ?_
  refine z_bipush C (zi 16) dX10_allIn_7 (by decide) ?_
  refine z_icmp_ge C 34 dX10_allIn_9 (by decide) (fun q3 => ?_) (fun q3 => ?_)
  · rw [if_pos q3] at hf
    cases hf
    refine z_sub [0, 2, 3] rfl ?_
    exact hk.2 _ rfl
  · rw [if_neg q3] at hf
    refine z_iload_n C dX10_allIn_12 rfl 3 rfl ?_
    refine z_aload_n C dX10_allIn_13 rfl 0 rfl ?_
    obtain ⟨v1, hv1, hf⟩ := zbind hf
    refine gf_RX10_21 C hv1 dX10_allIn_14 ?_
    refine z_iload_n C dX10_allIn_17 rfl 1 rfl ?_
    refine z_sipush C (zi 202) dX10_allIn_18 (by decide) ?_
    refine z_iload C dX10_allIn_21 4 rfl ?_
    refine z_imul C dX10_allIn_23 ?_
    refine z_iadd C dX10_allIn_24 ?_
    obtain ⟨v2, hv2, hf⟩ := zbind hf
    refine z_aI C hv2 dX10_allIn_25 ?_
    refine z_iadd C dX10_allIn_26 ?_
    refine z_istore_n (lv2 := [(3, .int (u3 + v2)), (0, .ref x0), (1, .int x1), (2, .int x2), (4, .int u4)]) C dX10_allIn_27 rfl (by decide) rfl ?_
    refine z_iinc (lv2 := [(4, .int (u4 + (zi 1))), (3, .int (u3 + v2)), (0, .ref x0), (1, .int x1), (2, .int x2)]) C (u4 + (zi 1)) dX10_allIn_28 4 rfl rfl (by decide) rfl ?_
    refine z_goto C 5 dX10_allIn_31 (by decide) ?_
    cases hf
    refine z_sub [2, 3, 4, 1, 0] rfl ?_
    exact hk.1 _ rfl

theorem wsX10_allIn_5 (C : zC p s m args meth c cX10_allIn RX10 5 D Ca B En) (hRm : zRm R 0 0 cells slots) (x0 : Nat) (x1 : Int32) (x2 : Int32) (n : Nat) (z : (zS × Int32 × Int32)) (x : (zS × Int32)) (hf : zloop (sX10_allIn_5 x0 x1 x2) n z = some x) (hk : (∀ o : (zS × Int32), x = o → zW p l e R s m args below meth c cells slots Q D Ca B 5 o.1 N 34 [(0, .ref x0), (2, .int x2), (3, .int o.2)] [])) : zW p l e R s m args below meth c cells slots Q D Ca B 5 z.1 N 5 [(0, .ref x0), (1, .int x1), (2, .int x2), (3, .int z.2.1), (4, .int z.2.2)] [] := by
  refine zloop_W (P := fun z : (zS × Int32 × Int32) => zW p l e R s m args below meth c cells slots Q D Ca B 5 z.1 N 5 [(0, .ref x0), (1, .int x1), (2, .int x2), (3, .int z.2.1), (4, .int z.2.2)] []) (K := fun x : (zS × Int32) => (∀ o : (zS × Int32), x = o → zW p l e R s m args below meth c cells slots Q D Ca B 5 o.1 N 34 [(0, .ref x0), (2, .int x2), (3, .int o.2)] [])) ?_ n z x hf hk
  intro z y hy h1 h2
  refine wsX10_allIn_5b C hRm x0 x1 x2 z.1 z.2.1 z.2.2 y hy ⟨fun z2 e => h1 z2 e, fun o e => (h2 _ e) o rfl⟩
set_option maxRecDepth 100000 in
set_option maxHeartbeats 4000000 in
theorem wsX10_allIn_37b (C : zC p s m args meth c cX10_allIn RX10 5 D Ca B En) (hRm : zRm R 0 0 cells slots) (x0 : Nat) (x2 : Int32) (σ : zS) (u3 : Int32) (u4 : Int32) (y : (zS × Int32 × Int32) ⊕ (zS × Int32)) (hf : sX10_allIn_37b x0 x2 σ u3 u4 = some y) (hk : (∀ z : (zS × Int32 × Int32), y = .inl z → zW p l e R s m args below meth c cells slots Q D Ca B 5 z.1 N 37 [(0, .ref x0), (2, .int x2), (3, .int z.2.1), (4, .int z.2.2)] []) ∧ (∀ z : (zS × Int32), y = .inr z → zW p l e R s m args below meth c cells slots Q D Ca B 5 z.1 N 66 [(3, .int z.2)] [])) : zW p l e R s m args below meth c cells slots Q D Ca B 5 σ N 37 [(0, .ref x0), (2, .int x2), (3, .int u3), (4, .int u4)] [] := by
  unfold sX10_allIn_37b at hf
  refine z_iload C dX10_allIn_37 3 rfl ?_
  refine z_bipush C (zi 8) dX10_allIn_39 (by decide) ?_
  refine z_icmp_ge C 66 dX10_allIn_41 (by decide) (fun q7 => ?_) (fun q7 => ?_)
  · rw [if_pos q7] at hf
    cases hf
    refine z_sub [2] rfl ?_
    exact hk.2 _ rfl
  · rw [if_neg q7] at hf
    refine z_iload_n C dX10_allIn_44 rfl 2 rfl ?_
    refine z_aload_n C dX10_allIn_45 rfl 0 rfl ?_
    obtain ⟨v5, hv5, hf⟩ := zbind hf
    refine gf_RX10_21 C hv5 dX10_allIn_46 ?_
    refine z_iload_n C dX10_allIn_49 rfl 1 rfl ?_
    refine z_sipush C (zi 802) dX10_allIn_50 (by decide) ?_
    refine z_iload C dX10_allIn_53 3 rfl ?_
    refine z_imul C dX10_allIn_55 ?_
    refine z_iadd C dX10_allIn_56 ?_
    obtain ⟨v6, hv6, hf⟩ := zbind hf
    refine z_aI C hv6 dX10_allIn_57 ?_
    refine z_iadd C dX10_allIn_58 ?_
    refine z_istore_n (lv2 := [(3, .int (u3 + v6)), (0, .ref x0), (2, .int x2), (4, .int u4)]) C dX10_allIn_59 rfl (by decide) rfl ?_
    refine z_iinc (lv2 := [(4, .int (u4 + (zi 1))), (3, .int (u3 + v6)), (0, .ref x0), (2, .int x2)]) C (u4 + (zi 1)) dX10_allIn_60 3 rfl rfl (by decide) rfl ?_
    refine z_goto C 37 dX10_allIn_63 (by decide) ?_
    cases hf
    refine z_sub [2, 3, 1, 0] rfl ?_
    exact hk.1 _ rfl

theorem wsX10_allIn_37 (C : zC p s m args meth c cX10_allIn RX10 5 D Ca B En) (hRm : zRm R 0 0 cells slots) (x0 : Nat) (x2 : Int32) (n : Nat) (z : (zS × Int32 × Int32)) (x : (zS × Int32)) (hf : zloop (sX10_allIn_37 x0 x2) n z = some x) (hk : (∀ o : (zS × Int32), x = o → zW p l e R s m args below meth c cells slots Q D Ca B 5 o.1 N 66 [(3, .int o.2)] [])) : zW p l e R s m args below meth c cells slots Q D Ca B 5 z.1 N 37 [(0, .ref x0), (2, .int x2), (3, .int z.2.1), (4, .int z.2.2)] [] := by
  refine zloop_W (P := fun z : (zS × Int32 × Int32) => zW p l e R s m args below meth c cells slots Q D Ca B 5 z.1 N 37 [(0, .ref x0), (2, .int x2), (3, .int z.2.1), (4, .int z.2.2)] []) (K := fun x : (zS × Int32) => (∀ o : (zS × Int32), x = o → zW p l e R s m args below meth c cells slots Q D Ca B 5 o.1 N 66 [(3, .int o.2)] [])) ?_ n z x hf hk
  intro z y hy h1 h2
  refine wsX10_allIn_37b C hRm x0 x2 z.1 z.2.1 z.2.2 y hy ⟨fun z2 e => h1 z2 e, fun o e => (h2 _ e) o rfl⟩
set_option maxRecDepth 100000 in
set_option maxHeartbeats 4000000 in
theorem wfX10_allIn (C : zC p s m args meth c cX10_allIn RX10 5 D Ca B En) (hRm : zRm R 0 0 cells slots) (σ : zS) (x0 : Nat) (x1 : Int32) (x2 : Int32) (τ : zS) (r : Int32) (hf : fX10_allIn σ x0 x1 x2 = some (τ, r)) (hq : ∀ (pc : Nat) (lv : List (Nat × Value)), decode cX10_allIn pc = .ok (.ireturn, 1) → zW p l e R s m args below meth c cells slots Q D Ca B 5 τ N pc lv [.int r]) : zW p l e R s m args below meth c cells slots Q D Ca B 5 σ N 0 [(0, .ref x0), (1, .int x1), (2, .int x2)] [] := by
  unfold fX10_allIn at hf
  refine z_iconst C (zi 0) dX10_allIn_0 (by decide) ?_
  refine z_istore_n (lv2 := [(3, .int ((zi 0))), (0, .ref x0), (1, .int x1), (2, .int x2)]) C dX10_allIn_1 rfl (by decide) rfl ?_
  refine z_iconst C (zi 0) dX10_allIn_2 (by decide) ?_
  refine z_istore (lv2 := [(4, .int ((zi 0))), (3, .int ((zi 0))), (0, .ref x0), (1, .int x1), (2, .int x2)]) C dX10_allIn_3 (by decide) rfl ?_
  obtain ⟨o4, ho4, hf⟩ := zbind hf
  refine z_sub [2, 3, 4, 1, 0] rfl ?_
  refine wsX10_allIn_5 C hRm _ _ _ zfuel (σ, (zi 0), (zi 0)) o4 ho4 ?_
  intro z9 e9
  subst e9
  refine z_iconst C (zi 0) dX10_allIn_34 (by decide) ?_
  refine z_istore (lv2 := [(4, .int ((zi 0))), (0, .ref x0), (2, .int x2), (3, .int o4.2)]) C dX10_allIn_35 (by decide) rfl ?_
  obtain ⟨o8, ho8, hf⟩ := zbind hf
  refine z_sub [1, 2, 3, 0] rfl ?_
  refine wsX10_allIn_37 C hRm _ _ zfuel (o4.1, o4.2, (zi 0)) o8 ho8 ?_
  intro z9 e9
  subst e9
  refine z_iload_n C dX10_allIn_66 rfl 0 rfl ?_
  cases hf
  exact hq _ _ dX10_allIn_67

theorem mX10_allIn (l : Launch) (D : va_G) (Ca : Nat → ClassId) (B : Nat) (En : State → Prop) (hE : zEk B En) (σ : zS) (N : Nat) (x0 : Nat) (x1 : Int32) (x2 : Int32) (X : zS × Int32) (hf : fX10_allIn σ x0 x1 x2 = some X) : zMi l D Ca B En yX10_allIn cX10_allIn 5 (Option.some Jvm.ClassFile.FieldType.int) 0 0 [.ref x0, .int x1, .int x2] σ N X.1 X.2 :=
  zMet_i (own := RX10) hE (by decide +kernel) rfl (Nat.le_of_ble_eq_true rfl) (fun p e s m args below meth c C hr hRm => wfX10_allIn C hRm σ x0 x1 x2 X.1 X.2 hf (fun pc lv hd => zfin_i C hr hd))
theorem dX10_wouldKeep_0 : decode cX10_wouldKeep 0 = .ok (.aload_n 0, 1) := by decide +kernel
theorem dX10_wouldKeep_1 : decode cX10_wouldKeep 1 = .ok (.iconst 0, 1) := by decide +kernel
theorem dX10_wouldKeep_2 : decode cX10_wouldKeep 2 = .ok (.putfield 92, 3) := by decide +kernel
theorem dX10_wouldKeep_5 : decode cX10_wouldKeep 5 = .ok (.aload_n 0, 1) := by decide +kernel
theorem dX10_wouldKeep_6 : decode cX10_wouldKeep 6 = .ok (.getfield 21, 3) := by decide +kernel
theorem dX10_wouldKeep_9 : decode cX10_wouldKeep 9 = .ok (.bipush 67, 2) := by decide +kernel
theorem dX10_wouldKeep_11 : decode cX10_wouldKeep 11 = .ok (.iaload, 1) := by decide +kernel
theorem dX10_wouldKeep_12 : decode cX10_wouldKeep 12 = .ok (.iconst 1, 1) := by decide +kernel
theorem dX10_wouldKeep_13 : decode cX10_wouldKeep 13 = .ok (.if_icmp .ne 5, 3) := by decide +kernel
theorem dX10_wouldKeep_16 : decode cX10_wouldKeep 16 = .ok (.iconst (-1), 1) := by decide +kernel
theorem dX10_wouldKeep_17 : decode cX10_wouldKeep 17 = .ok (.ireturn, 1) := by decide +kernel
theorem dX10_wouldKeep_18 : decode cX10_wouldKeep 18 = .ok (.aload_n 0, 1) := by decide +kernel
theorem dX10_wouldKeep_19 : decode cX10_wouldKeep 19 = .ok (.invokevirtual 298, 3) := by decide +kernel
theorem dX10_wouldKeep_22 : decode cX10_wouldKeep 22 = .ok (.aload_n 0, 1) := by decide +kernel
theorem dX10_wouldKeep_23 : decode cX10_wouldKeep 23 = .ok (.iconst 1, 1) := by decide +kernel
theorem dX10_wouldKeep_24 : decode cX10_wouldKeep 24 = .ok (.invokevirtual 218, 3) := by decide +kernel
theorem dX10_wouldKeep_27 : decode cX10_wouldKeep 27 = .ok (.aload_n 0, 1) := by decide +kernel
theorem dX10_wouldKeep_28 : decode cX10_wouldKeep 28 = .ok (.aload_n 0, 1) := by decide +kernel
theorem dX10_wouldKeep_29 : decode cX10_wouldKeep 29 = .ok (.sipush 500, 3) := by decide +kernel
theorem dX10_wouldKeep_32 : decode cX10_wouldKeep 32 = .ok (.invokevirtual 301, 3) := by decide +kernel
theorem dX10_wouldKeep_35 : decode cX10_wouldKeep 35 = .ok (.iconst (-1), 1) := by decide +kernel
theorem dX10_wouldKeep_36 : decode cX10_wouldKeep 36 = .ok (.if_icmp .ne 7, 3) := by decide +kernel
theorem dX10_wouldKeep_39 : decode cX10_wouldKeep 39 = .ok (.iconst (-1), 1) := by decide +kernel
theorem dX10_wouldKeep_40 : decode cX10_wouldKeep 40 = .ok (.goto 13, 3) := by decide +kernel
theorem dX10_wouldKeep_43 : decode cX10_wouldKeep 43 = .ok (.aload_n 0, 1) := by decide +kernel
theorem dX10_wouldKeep_44 : decode cX10_wouldKeep 44 = .ok (.sipush 24246, 3) := by decide +kernel
theorem dX10_wouldKeep_47 : decode cX10_wouldKeep 47 = .ok (.sipush 27478, 3) := by decide +kernel
theorem dX10_wouldKeep_50 : decode cX10_wouldKeep 50 = .ok (.invokevirtual 307, 3) := by decide +kernel
theorem dX10_wouldKeep_53 : decode cX10_wouldKeep 53 = .ok (.invokevirtual 304, 3) := by decide +kernel
theorem dX10_wouldKeep_56 : decode cX10_wouldKeep 56 = .ok (.ireturn, 1) := by decide +kernel
theorem hyX10_wouldKeep : yX10_wouldKeep.cls ≠ "java/lang/invoke/MethodHandle" ∧ yX10_wouldKeep.cls ≠ "java/lang/invoke/VarHandle" ∧ (parseMethodDescriptor yX10_wouldKeep.desc).map (fun d => d.parameters.length) = some 0 := ⟨by decide +kernel, by decide +kernel, by decide +kernel⟩
set_option maxRecDepth 100000 in
set_option maxHeartbeats 4000000 in
theorem wjX10_wouldKeep_53 (C : zC p s m args meth c cX10_wouldKeep RX10 1 D Ca B En) (hRm : zRm R 9 204 cells slots) (σ : zS)  (y0 : Int32) (y1 : Nat) (τ : zS) (r : Int32) (hf : jX10_wouldKeep_53 σ  y0 y1 = some (τ, r)) (hq : ∀ (pc : Nat) (lv : List (Nat × Value)), decode cX10_wouldKeep pc = .ok (.ireturn, 1) → zW p l e R s m args below meth c cells slots Q D Ca B 1 τ N pc lv [.int r]) : zW p l e R s m args below meth c cells slots Q D Ca B 1 σ N 53 [] [.int y0, .ref y1] := by
  unfold jX10_wouldKeep_53 at hf
  obtain ⟨c8, hc8, hf⟩ := zbind hf
  obtain ⟨kc8, hc8⟩ := zck_ok hc8
  refine z_callVi (As := [.int y0]) (F0 := 9) (L0 := 204) C (mX10_laysBack l D Ca B En C.2.2.2.2.2.2.2.1 σ N y1 y0 _ hc8) hRm kc8 rfl kw_1657 kw_14 kw_1654 kw_1656 kp_87 hyX10_laysBack (Nat.le_of_ble_eq_true rfl) (Nat.le_of_ble_eq_true rfl) rfl rfl (Nat.le_of_ble_eq_true rfl) dX10_wouldKeep_53 ?_
  cases hf
  exact hq _ _ dX10_wouldKeep_56

set_option maxRecDepth 100000 in
set_option maxHeartbeats 4000000 in
theorem wfX10_wouldKeep (C : zC p s m args meth c cX10_wouldKeep RX10 1 D Ca B En) (hRm : zRm R 9 204 cells slots) (σ : zS) (x0 : Nat) (τ : zS) (r : Int32) (hf : fX10_wouldKeep σ x0 = some (τ, r)) (hq : ∀ (pc : Nat) (lv : List (Nat × Value)), decode cX10_wouldKeep pc = .ok (.ireturn, 1) → zW p l e R s m args below meth c cells slots Q D Ca B 1 τ N pc lv [.int r]) : zW p l e R s m args below meth c cells slots Q D Ca B 1 σ N 0 [(0, .ref x0)] [] := by
  unfold fX10_wouldKeep at hf
  refine z_aload_n C dX10_wouldKeep_0 rfl 0 rfl ?_
  refine z_iconst C (zi 0) dX10_wouldKeep_1 (by decide) ?_
  obtain ⟨σ1, hσ1, hf⟩ := zbind hf
  refine gp_RX10_92 C hσ1 dX10_wouldKeep_2 ?_
  refine z_aload_n C dX10_wouldKeep_5 rfl 0 rfl ?_
  obtain ⟨v2, hv2, hf⟩ := zbind hf
  refine gf_RX10_21 C hv2 dX10_wouldKeep_6 ?_
  refine z_bipush C (zi 67) dX10_wouldKeep_9 (by decide) ?_
  obtain ⟨v3, hv3, hf⟩ := zbind hf
  refine z_aI C hv3 dX10_wouldKeep_11 ?_
  refine z_iconst C (zi 1) dX10_wouldKeep_12 (by decide) ?_
  refine z_icmp_ne C 18 dX10_wouldKeep_13 (by decide) (fun q10 => ?_) (fun q10 => ?_)
  · rw [if_neg q10] at hf
    refine z_aload_n C dX10_wouldKeep_18 rfl 0 rfl ?_
    obtain ⟨c4, hc4, hf⟩ := zbind hf
    obtain ⟨kc4, hc4⟩ := zck_ok hc4
    refine z_callVv (As := []) (F0 := 9) (L0 := 204) C (mX10_tries l D Ca B En C.2.2.2.2.2.2.2.1 σ1 N x0  _ hc4) hRm kc4 rfl kw_1649 kw_14 kw_1646 kw_1648 kp_85 hyX10_tries (Nat.le_of_ble_eq_true rfl) (Nat.le_of_ble_eq_true rfl) rfl rfl (Nat.le_of_ble_eq_true rfl) dX10_wouldKeep_19 ?_
    refine z_aload_n C dX10_wouldKeep_22 rfl 0 rfl ?_
    refine z_iconst C (zi 1) dX10_wouldKeep_23 (by decide) ?_
    obtain ⟨c5, hc5, hf⟩ := zbind hf
    obtain ⟨kc5, hc5⟩ := zck_ok hc5
    refine z_callVv (As := [.int ((zi 1))]) (F0 := 9) (L0 := 204) C (mX10_begins l D Ca B En C.2.2.2.2.2.2.2.1 c4 N x0 ((zi 1)) _ hc5) hRm kc5 rfl kw_1404 kw_14 kw_1401 kw_1403 kp_40 hyX10_begins (Nat.le_of_ble_eq_true rfl) (Nat.le_of_ble_eq_true rfl) rfl rfl (Nat.le_of_ble_eq_true rfl) dX10_wouldKeep_24 ?_
    refine z_aload_n C dX10_wouldKeep_27 rfl 0 rfl ?_
    refine z_aload_n C dX10_wouldKeep_28 rfl 0 rfl ?_
    refine z_sipush C (zi 500) dX10_wouldKeep_29 (by decide) ?_
    obtain ⟨c6, hc6, hf⟩ := zbind hf
    obtain ⟨kc6, hc6⟩ := zck_ok hc6
    refine z_callVi (As := [.int ((zi 500))]) (F0 := 9) (L0 := 204) C (mX10_completesWithin l D Ca B En C.2.2.2.2.2.2.2.1 c5 N x0 ((zi 500)) _ hc6) hRm kc6 rfl kw_1653 kw_14 kw_1650 kw_1652 kp_86 hyX10_completesWithin (Nat.le_of_ble_eq_true rfl) (Nat.le_of_ble_eq_true rfl) rfl rfl (Nat.le_of_ble_eq_true rfl) dX10_wouldKeep_32 ?_
    refine z_iconst C (zi (-1)) dX10_wouldKeep_35 (by decide) ?_
    refine z_icmp_ne C 43 dX10_wouldKeep_36 (by decide) (fun q9 => ?_) (fun q9 => ?_)
    · rw [if_neg q9] at hf
      refine z_aload_n C dX10_wouldKeep_43 rfl 0 rfl ?_
      refine z_sipush C (zi 24246) dX10_wouldKeep_44 (by decide) ?_
      refine z_sipush C (zi 27478) dX10_wouldKeep_47 (by decide) ?_
      obtain ⟨c7, hc7, hf⟩ := zbind hf
      obtain ⟨kc7, hc7⟩ := zck_ok hc7
      refine z_callVi (As := [.int ((zi 24246)), .int ((zi 27478))]) (F0 := 9) (L0 := 204) C (mX10_allIn l D Ca B En C.2.2.2.2.2.2.2.1 c6.1 N x0 ((zi 24246)) ((zi 27478)) _ hc7) hRm kc7 rfl kw_1669 kw_14 kw_1666 kw_1668 kp_88 hyX10_allIn (Nat.le_of_ble_eq_true rfl) (Nat.le_of_ble_eq_true rfl) rfl rfl (Nat.le_of_ble_eq_true rfl) dX10_wouldKeep_50 ?_
      refine z_sub [] rfl ?_
      exact wjX10_wouldKeep_53 C hRm _  _ _ _ _ hf hq
    · rw [if_pos q9] at hf
      refine z_iconst C (zi (-1)) dX10_wouldKeep_39 (by decide) ?_
      refine z_goto C 53 dX10_wouldKeep_40 (by decide) ?_
      refine z_sub [] rfl ?_
      exact wjX10_wouldKeep_53 C hRm _  _ _ _ _ hf hq
  · rw [if_pos q10] at hf
    refine z_iconst C (zi (-1)) dX10_wouldKeep_16 (by decide) ?_
    cases hf
    exact hq _ _ dX10_wouldKeep_17

theorem mX10_wouldKeep (l : Launch) (D : va_G) (Ca : Nat → ClassId) (B : Nat) (En : State → Prop) (hE : zEk B En) (σ : zS) (N : Nat) (x0 : Nat) (X : zS × Int32) (hf : fX10_wouldKeep σ x0 = some X) : zMi l D Ca B En yX10_wouldKeep cX10_wouldKeep 1 (Option.some Jvm.ClassFile.FieldType.int) 9 204 [.ref x0] σ N X.1 X.2 :=
  zMet_i (own := RX10) hE (by decide +kernel) rfl (Nat.le_of_ble_eq_true rfl) (fun p e s m args below meth c C hr hRm => wfX10_wouldKeep C hRm σ x0 X.1 X.2 hf (fun pc lv hd => zfin_i C hr hd))
theorem dX10_isQuiet_0 : decode cX10_isQuiet 0 = .ok (.iconst 0, 1) := by decide +kernel
theorem dX10_isQuiet_1 : decode cX10_isQuiet 1 = .ok (.istore_n 1, 1) := by decide +kernel
theorem dX10_isQuiet_2 : decode cX10_isQuiet 2 = .ok (.iload_n 1, 1) := by decide +kernel
theorem dX10_isQuiet_3 : decode cX10_isQuiet 3 = .ok (.aload_n 0, 1) := by decide +kernel
theorem dX10_isQuiet_4 : decode cX10_isQuiet 4 = .ok (.getfield 75, 3) := by decide +kernel
theorem dX10_isQuiet_7 : decode cX10_isQuiet 7 = .ok (.if_icmp .ge 29, 3) := by decide +kernel
theorem dX10_isQuiet_10 : decode cX10_isQuiet 10 = .ok (.aload_n 0, 1) := by decide +kernel
theorem dX10_isQuiet_11 : decode cX10_isQuiet 11 = .ok (.getfield 21, 3) := by decide +kernel
theorem dX10_isQuiet_14 : decode cX10_isQuiet 14 = .ok (.bipush 13, 2) := by decide +kernel
theorem dX10_isQuiet_16 : decode cX10_isQuiet 16 = .ok (.iload_n 1, 1) := by decide +kernel
theorem dX10_isQuiet_17 : decode cX10_isQuiet 17 = .ok (.iadd, 1) := by decide +kernel
theorem dX10_isQuiet_18 : decode cX10_isQuiet 18 = .ok (.iaload, 1) := by decide +kernel
theorem dX10_isQuiet_19 : decode cX10_isQuiet 19 = .ok (.aload_n 0, 1) := by decide +kernel
theorem dX10_isQuiet_20 : decode cX10_isQuiet 20 = .ok (.getfield 7, 3) := by decide +kernel
theorem dX10_isQuiet_23 : decode cX10_isQuiet 23 = .ok (.iload_n 1, 1) := by decide +kernel
theorem dX10_isQuiet_24 : decode cX10_isQuiet 24 = .ok (.iaload, 1) := by decide +kernel
theorem dX10_isQuiet_25 : decode cX10_isQuiet 25 = .ok (.if_icmp .ge 5, 3) := by decide +kernel
theorem dX10_isQuiet_28 : decode cX10_isQuiet 28 = .ok (.iconst 0, 1) := by decide +kernel
theorem dX10_isQuiet_29 : decode cX10_isQuiet 29 = .ok (.ireturn, 1) := by decide +kernel
theorem dX10_isQuiet_30 : decode cX10_isQuiet 30 = .ok (.iinc 1 1, 3) := by decide +kernel
theorem dX10_isQuiet_33 : decode cX10_isQuiet 33 = .ok (.goto (-31), 3) := by decide +kernel
theorem dX10_isQuiet_36 : decode cX10_isQuiet 36 = .ok (.iconst 0, 1) := by decide +kernel
theorem dX10_isQuiet_37 : decode cX10_isQuiet 37 = .ok (.istore_n 1, 1) := by decide +kernel
theorem dX10_isQuiet_38 : decode cX10_isQuiet 38 = .ok (.iload_n 1, 1) := by decide +kernel
theorem dX10_isQuiet_39 : decode cX10_isQuiet 39 = .ok (.bipush 16, 2) := by decide +kernel
theorem dX10_isQuiet_41 : decode cX10_isQuiet 41 = .ok (.if_icmp .ge 27, 3) := by decide +kernel
theorem dX10_isQuiet_44 : decode cX10_isQuiet 44 = .ok (.aload_n 0, 1) := by decide +kernel
theorem dX10_isQuiet_45 : decode cX10_isQuiet 45 = .ok (.sipush 144, 3) := by decide +kernel
theorem dX10_isQuiet_48 : decode cX10_isQuiet 48 = .ok (.sipush 202, 3) := by decide +kernel
theorem dX10_isQuiet_51 : decode cX10_isQuiet 51 = .ok (.iload_n 1, 1) := by decide +kernel
theorem dX10_isQuiet_52 : decode cX10_isQuiet 52 = .ok (.imul, 1) := by decide +kernel
theorem dX10_isQuiet_53 : decode cX10_isQuiet 53 = .ok (.iadd, 1) := by decide +kernel
theorem dX10_isQuiet_54 : decode cX10_isQuiet 54 = .ok (.invokevirtual 119, 3) := by decide +kernel
theorem dX10_isQuiet_57 : decode cX10_isQuiet 57 = .ok (.ifCond .le 5, 3) := by decide +kernel
theorem dX10_isQuiet_60 : decode cX10_isQuiet 60 = .ok (.iconst 0, 1) := by decide +kernel
theorem dX10_isQuiet_61 : decode cX10_isQuiet 61 = .ok (.ireturn, 1) := by decide +kernel
theorem dX10_isQuiet_62 : decode cX10_isQuiet 62 = .ok (.iinc 1 1, 3) := by decide +kernel
theorem dX10_isQuiet_65 : decode cX10_isQuiet 65 = .ok (.goto (-27), 3) := by decide +kernel
theorem dX10_isQuiet_68 : decode cX10_isQuiet 68 = .ok (.iconst 0, 1) := by decide +kernel
theorem dX10_isQuiet_69 : decode cX10_isQuiet 69 = .ok (.istore_n 1, 1) := by decide +kernel
theorem dX10_isQuiet_70 : decode cX10_isQuiet 70 = .ok (.iload_n 1, 1) := by decide +kernel
theorem dX10_isQuiet_71 : decode cX10_isQuiet 71 = .ok (.bipush 8, 2) := by decide +kernel
theorem dX10_isQuiet_73 : decode cX10_isQuiet 73 = .ok (.if_icmp .ge 27, 3) := by decide +kernel
theorem dX10_isQuiet_76 : decode cX10_isQuiet 76 = .ok (.aload_n 0, 1) := by decide +kernel
theorem dX10_isQuiet_77 : decode cX10_isQuiet 77 = .ok (.sipush 3376, 3) := by decide +kernel
theorem dX10_isQuiet_80 : decode cX10_isQuiet 80 = .ok (.sipush 802, 3) := by decide +kernel
theorem dX10_isQuiet_83 : decode cX10_isQuiet 83 = .ok (.iload_n 1, 1) := by decide +kernel
theorem dX10_isQuiet_84 : decode cX10_isQuiet 84 = .ok (.imul, 1) := by decide +kernel
theorem dX10_isQuiet_85 : decode cX10_isQuiet 85 = .ok (.iadd, 1) := by decide +kernel
theorem dX10_isQuiet_86 : decode cX10_isQuiet 86 = .ok (.invokevirtual 119, 3) := by decide +kernel
theorem dX10_isQuiet_89 : decode cX10_isQuiet 89 = .ok (.ifCond .le 5, 3) := by decide +kernel
theorem dX10_isQuiet_92 : decode cX10_isQuiet 92 = .ok (.iconst 0, 1) := by decide +kernel
theorem dX10_isQuiet_93 : decode cX10_isQuiet 93 = .ok (.ireturn, 1) := by decide +kernel
theorem dX10_isQuiet_94 : decode cX10_isQuiet 94 = .ok (.iinc 1 1, 3) := by decide +kernel
theorem dX10_isQuiet_97 : decode cX10_isQuiet 97 = .ok (.goto (-27), 3) := by decide +kernel
theorem dX10_isQuiet_100 : decode cX10_isQuiet 100 = .ok (.iconst 0, 1) := by decide +kernel
theorem dX10_isQuiet_101 : decode cX10_isQuiet 101 = .ok (.istore_n 1, 1) := by decide +kernel
theorem dX10_isQuiet_102 : decode cX10_isQuiet 102 = .ok (.iload_n 1, 1) := by decide +kernel
theorem dX10_isQuiet_103 : decode cX10_isQuiet 103 = .ok (.aload_n 0, 1) := by decide +kernel
theorem dX10_isQuiet_104 : decode cX10_isQuiet 104 = .ok (.getfield 78, 3) := by decide +kernel
theorem dX10_isQuiet_107 : decode cX10_isQuiet 107 = .ok (.if_icmp .ge 39, 3) := by decide +kernel
theorem dX10_isQuiet_110 : decode cX10_isQuiet 110 = .ok (.aload_n 0, 1) := by decide +kernel
theorem dX10_isQuiet_111 : decode cX10_isQuiet 111 = .ok (.getfield 21, 3) := by decide +kernel
theorem dX10_isQuiet_114 : decode cX10_isQuiet 114 = .ok (.sipush 9792, 3) := by decide +kernel
theorem dX10_isQuiet_117 : decode cX10_isQuiet 117 = .ok (.iload_n 1, 1) := by decide +kernel
theorem dX10_isQuiet_118 : decode cX10_isQuiet 118 = .ok (.invokestatic 155, 3) := by decide +kernel
theorem dX10_isQuiet_121 : decode cX10_isQuiet 121 = .ok (.iaload, 1) := by decide +kernel
theorem dX10_isQuiet_122 : decode cX10_isQuiet 122 = .ok (.aload_n 0, 1) := by decide +kernel
theorem dX10_isQuiet_123 : decode cX10_isQuiet 123 = .ok (.getfield 21, 3) := by decide +kernel
theorem dX10_isQuiet_126 : decode cX10_isQuiet 126 = .ok (.sipush 11394, 3) := by decide +kernel
theorem dX10_isQuiet_129 : decode cX10_isQuiet 129 = .ok (.iload_n 1, 1) := by decide +kernel
theorem dX10_isQuiet_130 : decode cX10_isQuiet 130 = .ok (.invokestatic 155, 3) := by decide +kernel
theorem dX10_isQuiet_133 : decode cX10_isQuiet 133 = .ok (.iaload, 1) := by decide +kernel
theorem dX10_isQuiet_134 : decode cX10_isQuiet 134 = .ok (.iadd, 1) := by decide +kernel
theorem dX10_isQuiet_135 : decode cX10_isQuiet 135 = .ok (.ifCond .le 5, 3) := by decide +kernel
theorem dX10_isQuiet_138 : decode cX10_isQuiet 138 = .ok (.iconst 0, 1) := by decide +kernel
theorem dX10_isQuiet_139 : decode cX10_isQuiet 139 = .ok (.ireturn, 1) := by decide +kernel
theorem dX10_isQuiet_140 : decode cX10_isQuiet 140 = .ok (.iinc 1 1, 3) := by decide +kernel
theorem dX10_isQuiet_143 : decode cX10_isQuiet 143 = .ok (.goto (-41), 3) := by decide +kernel
theorem dX10_isQuiet_146 : decode cX10_isQuiet 146 = .ok (.iconst 1, 1) := by decide +kernel
theorem dX10_isQuiet_147 : decode cX10_isQuiet 147 = .ok (.ireturn, 1) := by decide +kernel
theorem hyX10_isQuiet : yX10_isQuiet.cls ≠ "java/lang/invoke/MethodHandle" ∧ yX10_isQuiet.cls ≠ "java/lang/invoke/VarHandle" ∧ (parseMethodDescriptor yX10_isQuiet.desc).map (fun d => d.parameters.length) = some 0 := ⟨by decide +kernel, by decide +kernel, by decide +kernel⟩
set_option maxRecDepth 100000 in
set_option maxHeartbeats 4000000 in
theorem wsX10_isQuiet_2b (C : zC p s m args meth c cX10_isQuiet RX10 2 D Ca B En) (hRm : zRm R 3 66 cells slots) (x0 : Nat) (σ : zS) (u1 : Int32) (y : (zS × Int32) ⊕ (zS ⊕ zS)) (hf : sX10_isQuiet_2b x0 σ u1 = some y) (hk : (∀ z : (zS × Int32), y = .inl z → zW p l e R s m args below meth c cells slots Q D Ca B 2 z.1 N 2 [(0, .ref x0), (1, .int z.2)] []) ∧ (∀ z : zS, y = .inr (.inl z) → zW p l e R s m args below meth c cells slots Q D Ca B 2 z N 28 [] []) ∧ (∀ z : zS, y = .inr (.inr z) → zW p l e R s m args below meth c cells slots Q D Ca B 2 z N 36 [(0, .ref x0)] [])) : zW p l e R s m args below meth c cells slots Q D Ca B 2 σ N 2 [(0, .ref x0), (1, .int u1)] [] := by
  unfold sX10_isQuiet_2b at hf
  refine z_iload_n C dX10_isQuiet_2 rfl 1 rfl ?_
  refine z_aload_n C dX10_isQuiet_3 rfl 0 rfl ?_
  obtain ⟨v1, hv1, hf⟩ := zbind hf
  refine gf_RX10_75 C hv1 dX10_isQuiet_4 ?_
  refine z_icmp_ge C 36 dX10_isQuiet_7 (by decide) (fun q7 => ?_) (fun q7 => ?_)
  · rw [if_pos q7] at hf
    cases hf
    refine z_sub [0] rfl ?_
    exact hk.2.2 _ rfl
  · rw [if_neg q7] at hf
    refine z_aload_n C dX10_isQuiet_10 rfl 0 rfl ?_
    obtain ⟨v2, hv2, hf⟩ := zbind hf
    refine gf_RX10_21 C hv2 dX10_isQuiet_11 ?_
    refine z_bipush C (zi 13) dX10_isQuiet_14 (by decide) ?_
    refine z_iload_n C dX10_isQuiet_16 rfl 1 rfl ?_
    refine z_iadd C dX10_isQuiet_17 ?_
    obtain ⟨v3, hv3, hf⟩ := zbind hf
    refine z_aI C hv3 dX10_isQuiet_18 ?_
    refine z_aload_n C dX10_isQuiet_19 rfl 0 rfl ?_
    obtain ⟨v4, hv4, hf⟩ := zbind hf
    refine gf_RX10_7 C hv4 dX10_isQuiet_20 ?_
    refine z_iload_n C dX10_isQuiet_23 rfl 1 rfl ?_
    obtain ⟨v5, hv5, hf⟩ := zbind hf
    refine z_aI C hv5 dX10_isQuiet_24 ?_
    refine z_icmp_ge C 30 dX10_isQuiet_25 (by decide) (fun q6 => ?_) (fun q6 => ?_)
    · rw [if_pos q6] at hf
      refine z_iinc (lv2 := [(1, .int (u1 + (zi 1))), (0, .ref x0)]) C (u1 + (zi 1)) dX10_isQuiet_30 1 rfl rfl (by decide) rfl ?_
      refine z_goto C 2 dX10_isQuiet_33 (by decide) ?_
      cases hf
      refine z_sub [1, 0] rfl ?_
      exact hk.1 _ rfl
    · rw [if_neg q6] at hf
      cases hf
      refine z_sub [] rfl ?_
      exact hk.2.1 _ rfl

theorem wsX10_isQuiet_2 (C : zC p s m args meth c cX10_isQuiet RX10 2 D Ca B En) (hRm : zRm R 3 66 cells slots) (x0 : Nat) (n : Nat) (z : (zS × Int32)) (x : (zS ⊕ zS)) (hf : zloop (sX10_isQuiet_2 x0) n z = some x) (hk : (∀ o : zS, x = (.inl o) → zW p l e R s m args below meth c cells slots Q D Ca B 2 o N 28 [] []) ∧ (∀ o : zS, x = (.inr o) → zW p l e R s m args below meth c cells slots Q D Ca B 2 o N 36 [(0, .ref x0)] [])) : zW p l e R s m args below meth c cells slots Q D Ca B 2 z.1 N 2 [(0, .ref x0), (1, .int z.2)] [] := by
  refine zloop_W (P := fun z : (zS × Int32) => zW p l e R s m args below meth c cells slots Q D Ca B 2 z.1 N 2 [(0, .ref x0), (1, .int z.2)] []) (K := fun x : (zS ⊕ zS) => (∀ o : zS, x = (.inl o) → zW p l e R s m args below meth c cells slots Q D Ca B 2 o N 28 [] []) ∧ (∀ o : zS, x = (.inr o) → zW p l e R s m args below meth c cells slots Q D Ca B 2 o N 36 [(0, .ref x0)] [])) ?_ n z x hf hk
  intro z y hy h1 h2
  refine wsX10_isQuiet_2b C hRm x0 z.1 z.2 y hy ⟨fun z2 e => h1 z2 e, fun o e => (h2 _ e).1 o rfl, fun o e => (h2 _ e).2 o rfl⟩
set_option maxRecDepth 100000 in
set_option maxHeartbeats 4000000 in
theorem wsX10_isQuiet_38b (C : zC p s m args meth c cX10_isQuiet RX10 2 D Ca B En) (hRm : zRm R 3 66 cells slots) (x0 : Nat) (σ : zS) (u1 : Int32) (y : (zS × Int32) ⊕ (zS ⊕ zS)) (hf : sX10_isQuiet_38b x0 σ u1 = some y) (hk : (∀ z : (zS × Int32), y = .inl z → zW p l e R s m args below meth c cells slots Q D Ca B 2 z.1 N 38 [(0, .ref x0), (1, .int z.2)] []) ∧ (∀ z : zS, y = .inr (.inl z) → zW p l e R s m args below meth c cells slots Q D Ca B 2 z N 60 [] []) ∧ (∀ z : zS, y = .inr (.inr z) → zW p l e R s m args below meth c cells slots Q D Ca B 2 z N 68 [(0, .ref x0)] [])) : zW p l e R s m args below meth c cells slots Q D Ca B 2 σ N 38 [(0, .ref x0), (1, .int u1)] [] := by
  unfold sX10_isQuiet_38b at hf
  refine z_iload_n C dX10_isQuiet_38 rfl 1 rfl ?_
  refine z_bipush C (zi 16) dX10_isQuiet_39 (by decide) ?_
  refine z_icmp_ge C 68 dX10_isQuiet_41 (by decide) (fun q13 => ?_) (fun q13 => ?_)
  · rw [if_pos q13] at hf
    cases hf
    refine z_sub [0] rfl ?_
    exact hk.2.2 _ rfl
  · rw [if_neg q13] at hf
    refine z_aload_n C dX10_isQuiet_44 rfl 0 rfl ?_
    refine z_sipush C (zi 144) dX10_isQuiet_45 (by decide) ?_
    refine z_sipush C (zi 202) dX10_isQuiet_48 (by decide) ?_
    refine z_iload_n C dX10_isQuiet_51 rfl 1 rfl ?_
    refine z_imul C dX10_isQuiet_52 ?_
    refine z_iadd C dX10_isQuiet_53 ?_
    obtain ⟨c11, hc11, hf⟩ := zbind hf
    obtain ⟨kc11, hc11⟩ := zck_ok hc11
    refine z_callVi (As := [.int (((zi 144)) + (((zi 202)) * u1))]) (F0 := 3) (L0 := 66) C (mX10_things l D Ca B En C.2.2.2.2.2.2.2.1 σ N x0 (((zi 144)) + (((zi 202)) * u1)) _ hc11) hRm kc11 rfl kw_1469 kw_14 kw_1466 kw_1468 kp_51 hyX10_things (Nat.le_of_ble_eq_true rfl) (Nat.le_of_ble_eq_true rfl) rfl rfl (Nat.le_of_ble_eq_true rfl) dX10_isQuiet_54 ?_
    refine z_if_le C 62 dX10_isQuiet_57 (by decide) (fun q12 => ?_) (fun q12 => ?_)
    · rw [if_pos q12] at hf
      refine z_iinc (lv2 := [(1, .int (u1 + (zi 1))), (0, .ref x0)]) C (u1 + (zi 1)) dX10_isQuiet_62 1 rfl rfl (by decide) rfl ?_
      refine z_goto C 38 dX10_isQuiet_65 (by decide) ?_
      cases hf
      refine z_sub [1, 0] rfl ?_
      exact hk.1 _ rfl
    · rw [if_neg q12] at hf
      cases hf
      refine z_sub [] rfl ?_
      exact hk.2.1 _ rfl

theorem wsX10_isQuiet_38 (C : zC p s m args meth c cX10_isQuiet RX10 2 D Ca B En) (hRm : zRm R 3 66 cells slots) (x0 : Nat) (n : Nat) (z : (zS × Int32)) (x : (zS ⊕ zS)) (hf : zloop (sX10_isQuiet_38 x0) n z = some x) (hk : (∀ o : zS, x = (.inl o) → zW p l e R s m args below meth c cells slots Q D Ca B 2 o N 60 [] []) ∧ (∀ o : zS, x = (.inr o) → zW p l e R s m args below meth c cells slots Q D Ca B 2 o N 68 [(0, .ref x0)] [])) : zW p l e R s m args below meth c cells slots Q D Ca B 2 z.1 N 38 [(0, .ref x0), (1, .int z.2)] [] := by
  refine zloop_W (P := fun z : (zS × Int32) => zW p l e R s m args below meth c cells slots Q D Ca B 2 z.1 N 38 [(0, .ref x0), (1, .int z.2)] []) (K := fun x : (zS ⊕ zS) => (∀ o : zS, x = (.inl o) → zW p l e R s m args below meth c cells slots Q D Ca B 2 o N 60 [] []) ∧ (∀ o : zS, x = (.inr o) → zW p l e R s m args below meth c cells slots Q D Ca B 2 o N 68 [(0, .ref x0)] [])) ?_ n z x hf hk
  intro z y hy h1 h2
  refine wsX10_isQuiet_38b C hRm x0 z.1 z.2 y hy ⟨fun z2 e => h1 z2 e, fun o e => (h2 _ e).1 o rfl, fun o e => (h2 _ e).2 o rfl⟩
set_option maxRecDepth 100000 in
set_option maxHeartbeats 4000000 in
theorem wsX10_isQuiet_70b (C : zC p s m args meth c cX10_isQuiet RX10 2 D Ca B En) (hRm : zRm R 3 66 cells slots) (x0 : Nat) (σ : zS) (u1 : Int32) (y : (zS × Int32) ⊕ (zS ⊕ zS)) (hf : sX10_isQuiet_70b x0 σ u1 = some y) (hk : (∀ z : (zS × Int32), y = .inl z → zW p l e R s m args below meth c cells slots Q D Ca B 2 z.1 N 70 [(0, .ref x0), (1, .int z.2)] []) ∧ (∀ z : zS, y = .inr (.inl z) → zW p l e R s m args below meth c cells slots Q D Ca B 2 z N 92 [] []) ∧ (∀ z : zS, y = .inr (.inr z) → zW p l e R s m args below meth c cells slots Q D Ca B 2 z N 100 [(0, .ref x0)] [])) : zW p l e R s m args below meth c cells slots Q D Ca B 2 σ N 70 [(0, .ref x0), (1, .int u1)] [] := by
  unfold sX10_isQuiet_70b at hf
  refine z_iload_n C dX10_isQuiet_70 rfl 1 rfl ?_
  refine z_bipush C (zi 8) dX10_isQuiet_71 (by decide) ?_
  refine z_icmp_ge C 100 dX10_isQuiet_73 (by decide) (fun q19 => ?_) (fun q19 => ?_)
  · rw [if_pos q19] at hf
    cases hf
    refine z_sub [0] rfl ?_
    exact hk.2.2 _ rfl
  · rw [if_neg q19] at hf
    refine z_aload_n C dX10_isQuiet_76 rfl 0 rfl ?_
    refine z_sipush C (zi 3376) dX10_isQuiet_77 (by decide) ?_
    refine z_sipush C (zi 802) dX10_isQuiet_80 (by decide) ?_
    refine z_iload_n C dX10_isQuiet_83 rfl 1 rfl ?_
    refine z_imul C dX10_isQuiet_84 ?_
    refine z_iadd C dX10_isQuiet_85 ?_
    obtain ⟨c17, hc17, hf⟩ := zbind hf
    obtain ⟨kc17, hc17⟩ := zck_ok hc17
    refine z_callVi (As := [.int (((zi 3376)) + (((zi 802)) * u1))]) (F0 := 3) (L0 := 66) C (mX10_things l D Ca B En C.2.2.2.2.2.2.2.1 σ N x0 (((zi 3376)) + (((zi 802)) * u1)) _ hc17) hRm kc17 rfl kw_1469 kw_14 kw_1466 kw_1468 kp_51 hyX10_things (Nat.le_of_ble_eq_true rfl) (Nat.le_of_ble_eq_true rfl) rfl rfl (Nat.le_of_ble_eq_true rfl) dX10_isQuiet_86 ?_
    refine z_if_le C 94 dX10_isQuiet_89 (by decide) (fun q18 => ?_) (fun q18 => ?_)
    · rw [if_pos q18] at hf
      refine z_iinc (lv2 := [(1, .int (u1 + (zi 1))), (0, .ref x0)]) C (u1 + (zi 1)) dX10_isQuiet_94 1 rfl rfl (by decide) rfl ?_
      refine z_goto C 70 dX10_isQuiet_97 (by decide) ?_
      cases hf
      refine z_sub [1, 0] rfl ?_
      exact hk.1 _ rfl
    · rw [if_neg q18] at hf
      cases hf
      refine z_sub [] rfl ?_
      exact hk.2.1 _ rfl

theorem wsX10_isQuiet_70 (C : zC p s m args meth c cX10_isQuiet RX10 2 D Ca B En) (hRm : zRm R 3 66 cells slots) (x0 : Nat) (n : Nat) (z : (zS × Int32)) (x : (zS ⊕ zS)) (hf : zloop (sX10_isQuiet_70 x0) n z = some x) (hk : (∀ o : zS, x = (.inl o) → zW p l e R s m args below meth c cells slots Q D Ca B 2 o N 92 [] []) ∧ (∀ o : zS, x = (.inr o) → zW p l e R s m args below meth c cells slots Q D Ca B 2 o N 100 [(0, .ref x0)] [])) : zW p l e R s m args below meth c cells slots Q D Ca B 2 z.1 N 70 [(0, .ref x0), (1, .int z.2)] [] := by
  refine zloop_W (P := fun z : (zS × Int32) => zW p l e R s m args below meth c cells slots Q D Ca B 2 z.1 N 70 [(0, .ref x0), (1, .int z.2)] []) (K := fun x : (zS ⊕ zS) => (∀ o : zS, x = (.inl o) → zW p l e R s m args below meth c cells slots Q D Ca B 2 o N 92 [] []) ∧ (∀ o : zS, x = (.inr o) → zW p l e R s m args below meth c cells slots Q D Ca B 2 o N 100 [(0, .ref x0)] [])) ?_ n z x hf hk
  intro z y hy h1 h2
  refine wsX10_isQuiet_70b C hRm x0 z.1 z.2 y hy ⟨fun z2 e => h1 z2 e, fun o e => (h2 _ e).1 o rfl, fun o e => (h2 _ e).2 o rfl⟩
set_option maxRecDepth 100000 in
set_option maxHeartbeats 4000000 in
theorem wsX10_isQuiet_102b (C : zC p s m args meth c cX10_isQuiet RX10 2 D Ca B En) (hRm : zRm R 3 66 cells slots) (x0 : Nat) (σ : zS) (u1 : Int32) (y : (zS × Int32) ⊕ (zS ⊕ zS)) (hf : sX10_isQuiet_102b x0 σ u1 = some y) (hk : (∀ z : (zS × Int32), y = .inl z → zW p l e R s m args below meth c cells slots Q D Ca B 2 z.1 N 102 [(0, .ref x0), (1, .int z.2)] []) ∧ (∀ z : zS, y = .inr (.inl z) → zW p l e R s m args below meth c cells slots Q D Ca B 2 z N 138 [] []) ∧ (∀ z : zS, y = .inr (.inr z) → zW p l e R s m args below meth c cells slots Q D Ca B 2 z N 146 [] [])) : zW p l e R s m args below meth c cells slots Q D Ca B 2 σ N 102 [(0, .ref x0), (1, .int u1)] [] := by
  unfold sX10_isQuiet_102b at hf
  refine z_iload_n C dX10_isQuiet_102 rfl 1 rfl ?_
  refine z_aload_n C dX10_isQuiet_103 rfl 0 rfl ?_
  obtain ⟨v23, hv23, hf⟩ := zbind hf
  refine gf_RX10_78 C hv23 dX10_isQuiet_104 ?_
  refine z_icmp_ge C 146 dX10_isQuiet_107 (by decide) (fun q31 => ?_) (fun q31 => ?_)
  · rw [if_pos q31] at hf
    cases hf
    refine z_sub [] rfl ?_
    exact hk.2.2 _ rfl
  · rw [if_neg q31] at hf
    refine z_aload_n C dX10_isQuiet_110 rfl 0 rfl ?_
    obtain ⟨v24, hv24, hf⟩ := zbind hf
    refine gf_RX10_21 C hv24 dX10_isQuiet_111 ?_
    refine z_sipush C (zi 9792) dX10_isQuiet_114 (by decide) ?_
    refine z_iload_n C dX10_isQuiet_117 rfl 1 rfl ?_
    obtain ⟨c25, hc25, hf⟩ := zbind hf
    refine z_callSi (As := [.int ((zi 9792)), .int u1]) (F0 := 3) (L0 := 66) C (mX10_results l D Ca B En C.2.2.2.2.2.2.2.1 σ N ((zi 9792)) u1 _ hc25) hRm kw_1431 kw_14 kw_1429 kw_1430 hyX10_results (Nat.le_of_ble_eq_true rfl) (Nat.le_of_ble_eq_true rfl) rfl rfl (Nat.le_of_ble_eq_true rfl) dX10_isQuiet_118 ?_
    obtain ⟨v26, hv26, hf⟩ := zbind hf
    refine z_aI C hv26 dX10_isQuiet_121 ?_
    refine z_aload_n C dX10_isQuiet_122 rfl 0 rfl ?_
    obtain ⟨v27, hv27, hf⟩ := zbind hf
    refine gf_RX10_21 C hv27 dX10_isQuiet_123 ?_
    refine z_sipush C (zi 11394) dX10_isQuiet_126 (by decide) ?_
    refine z_iload_n C dX10_isQuiet_129 rfl 1 rfl ?_
    obtain ⟨c28, hc28, hf⟩ := zbind hf
    refine z_callSi (As := [.int ((zi 11394)), .int u1]) (F0 := 3) (L0 := 66) C (mX10_results l D Ca B En C.2.2.2.2.2.2.2.1 c25.1 N ((zi 11394)) u1 _ hc28) hRm kw_1431 kw_14 kw_1429 kw_1430 hyX10_results (Nat.le_of_ble_eq_true rfl) (Nat.le_of_ble_eq_true rfl) rfl rfl (Nat.le_of_ble_eq_true rfl) dX10_isQuiet_130 ?_
    obtain ⟨v29, hv29, hf⟩ := zbind hf
    refine z_aI C hv29 dX10_isQuiet_133 ?_
    refine z_iadd C dX10_isQuiet_134 ?_
    refine z_if_le C 140 dX10_isQuiet_135 (by decide) (fun q30 => ?_) (fun q30 => ?_)
    · rw [if_pos q30] at hf
      refine z_iinc (lv2 := [(1, .int (u1 + (zi 1))), (0, .ref x0)]) C (u1 + (zi 1)) dX10_isQuiet_140 1 rfl rfl (by decide) rfl ?_
      refine z_goto C 102 dX10_isQuiet_143 (by decide) ?_
      cases hf
      refine z_sub [1, 0] rfl ?_
      exact hk.1 _ rfl
    · rw [if_neg q30] at hf
      cases hf
      refine z_sub [] rfl ?_
      exact hk.2.1 _ rfl

theorem wsX10_isQuiet_102 (C : zC p s m args meth c cX10_isQuiet RX10 2 D Ca B En) (hRm : zRm R 3 66 cells slots) (x0 : Nat) (n : Nat) (z : (zS × Int32)) (x : (zS ⊕ zS)) (hf : zloop (sX10_isQuiet_102 x0) n z = some x) (hk : (∀ o : zS, x = (.inl o) → zW p l e R s m args below meth c cells slots Q D Ca B 2 o N 138 [] []) ∧ (∀ o : zS, x = (.inr o) → zW p l e R s m args below meth c cells slots Q D Ca B 2 o N 146 [] [])) : zW p l e R s m args below meth c cells slots Q D Ca B 2 z.1 N 102 [(0, .ref x0), (1, .int z.2)] [] := by
  refine zloop_W (P := fun z : (zS × Int32) => zW p l e R s m args below meth c cells slots Q D Ca B 2 z.1 N 102 [(0, .ref x0), (1, .int z.2)] []) (K := fun x : (zS ⊕ zS) => (∀ o : zS, x = (.inl o) → zW p l e R s m args below meth c cells slots Q D Ca B 2 o N 138 [] []) ∧ (∀ o : zS, x = (.inr o) → zW p l e R s m args below meth c cells slots Q D Ca B 2 o N 146 [] [])) ?_ n z x hf hk
  intro z y hy h1 h2
  refine wsX10_isQuiet_102b C hRm x0 z.1 z.2 y hy ⟨fun z2 e => h1 z2 e, fun o e => (h2 _ e).1 o rfl, fun o e => (h2 _ e).2 o rfl⟩
set_option maxRecDepth 100000 in
set_option maxHeartbeats 4000000 in
theorem wfX10_isQuiet (C : zC p s m args meth c cX10_isQuiet RX10 2 D Ca B En) (hRm : zRm R 3 66 cells slots) (σ : zS) (x0 : Nat) (τ : zS) (r : Int32) (hf : fX10_isQuiet σ x0 = some (τ, r)) (hq : ∀ (pc : Nat) (lv : List (Nat × Value)), (r = 0 ∨ r = 1) → decode cX10_isQuiet pc = .ok (.ireturn, 1) → zW p l e R s m args below meth c cells slots Q D Ca B 2 τ N pc lv [.int r]) : zW p l e R s m args below meth c cells slots Q D Ca B 2 σ N 0 [(0, .ref x0)] [] := by
  unfold fX10_isQuiet at hf
  refine z_iconst C (zi 0) dX10_isQuiet_0 (by decide) ?_
  refine z_istore_n (lv2 := [(1, .int ((zi 0))), (0, .ref x0)]) C dX10_isQuiet_1 rfl (by decide) rfl ?_
  obtain ⟨o8, ho8, hf⟩ := zbind hf
  refine z_sub [1, 0] rfl ?_
  refine wsX10_isQuiet_2 C hRm _ zfuel (σ, (zi 0)) o8 ho8 ⟨?_, ?_⟩
  · intro z9 e9
    subst e9
    dsimp only at hf
    refine z_iconst C (zi 0) dX10_isQuiet_28 (by decide) ?_
    obtain ⟨e9, b9⟩ := zrZ_ok hf
    cases e9
    exact hq _ _ b9 dX10_isQuiet_29
  · intro z10 e9
    subst e9
    dsimp only at hf
    refine z_iconst C (zi 0) dX10_isQuiet_36 (by decide) ?_
    refine z_istore_n (lv2 := [(1, .int ((zi 0))), (0, .ref x0)]) C dX10_isQuiet_37 rfl (by decide) rfl ?_
    obtain ⟨o14, ho14, hf⟩ := zbind hf
    refine z_sub [1, 0] rfl ?_
    refine wsX10_isQuiet_38 C hRm _ zfuel (z10, (zi 0)) o14 ho14 ⟨?_, ?_⟩
    · intro z15 e9
      subst e9
      dsimp only at hf
      refine z_iconst C (zi 0) dX10_isQuiet_60 (by decide) ?_
      obtain ⟨e9, b9⟩ := zrZ_ok hf
      cases e9
      exact hq _ _ b9 dX10_isQuiet_61
    · intro z16 e9
      subst e9
      dsimp only at hf
      refine z_iconst C (zi 0) dX10_isQuiet_68 (by decide) ?_
      refine z_istore_n (lv2 := [(1, .int ((zi 0))), (0, .ref x0)]) C dX10_isQuiet_69 rfl (by decide) rfl ?_
      obtain ⟨o20, ho20, hf⟩ := zbind hf
      refine z_sub [1, 0] rfl ?_
      refine wsX10_isQuiet_70 C hRm _ zfuel (z16, (zi 0)) o20 ho20 ⟨?_, ?_⟩
      · intro z21 e9
        subst e9
        dsimp only at hf
        refine z_iconst C (zi 0) dX10_isQuiet_92 (by decide) ?_
        obtain ⟨e9, b9⟩ := zrZ_ok hf
        cases e9
        exact hq _ _ b9 dX10_isQuiet_93
      · intro z22 e9
        subst e9
        dsimp only at hf
        refine z_iconst C (zi 0) dX10_isQuiet_100 (by decide) ?_
        refine z_istore_n (lv2 := [(1, .int ((zi 0))), (0, .ref x0)]) C dX10_isQuiet_101 rfl (by decide) rfl ?_
        obtain ⟨o32, ho32, hf⟩ := zbind hf
        refine z_sub [1, 0] rfl ?_
        refine wsX10_isQuiet_102 C hRm _ zfuel (z22, (zi 0)) o32 ho32 ⟨?_, ?_⟩
        · intro z33 e9
          subst e9
          dsimp only at hf
          refine z_iconst C (zi 0) dX10_isQuiet_138 (by decide) ?_
          obtain ⟨e9, b9⟩ := zrZ_ok hf
          cases e9
          exact hq _ _ b9 dX10_isQuiet_139
        · intro z34 e9
          subst e9
          dsimp only at hf
          refine z_iconst C (zi 1) dX10_isQuiet_146 (by decide) ?_
          obtain ⟨e9, b9⟩ := zrZ_ok hf
          cases e9
          exact hq _ _ b9 dX10_isQuiet_147

theorem mX10_isQuiet (l : Launch) (D : va_G) (Ca : Nat → ClassId) (B : Nat) (En : State → Prop) (hE : zEk B En) (σ : zS) (N : Nat) (x0 : Nat) (X : zS × Int32) (hf : fX10_isQuiet σ x0 = some X) : zMi l D Ca B En yX10_isQuiet cX10_isQuiet 2 (Option.some Jvm.ClassFile.FieldType.boolean) 3 66 [.ref x0] σ N X.1 X.2 :=
  zMet_i (own := RX10) hE (by decide +kernel) rfl (Nat.le_of_ble_eq_true rfl) (fun p e s m args below meth c C hr hRm => wfX10_isQuiet C hRm σ x0 X.1 X.2 hf (fun pc lv hb hd => zfin_z C hb hr hd))
theorem dX10_quietWithin_0 : decode cX10_quietWithin 0 = .ok (.iconst 0, 1) := by decide +kernel
theorem dX10_quietWithin_1 : decode cX10_quietWithin 1 = .ok (.istore_n 1, 1) := by decide +kernel
theorem dX10_quietWithin_2 : decode cX10_quietWithin 2 = .ok (.iload_n 1, 1) := by decide +kernel
theorem dX10_quietWithin_3 : decode cX10_quietWithin 3 = .ok (.sipush 1000, 3) := by decide +kernel
theorem dX10_quietWithin_6 : decode cX10_quietWithin 6 = .ok (.if_icmp .gt 29, 3) := by decide +kernel
theorem dX10_quietWithin_9 : decode cX10_quietWithin 9 = .ok (.aload_n 0, 1) := by decide +kernel
theorem dX10_quietWithin_10 : decode cX10_quietWithin 10 = .ok (.invokevirtual 310, 3) := by decide +kernel
theorem dX10_quietWithin_13 : decode cX10_quietWithin 13 = .ok (.ifCond .eq 5, 3) := by decide +kernel
theorem dX10_quietWithin_16 : decode cX10_quietWithin 16 = .ok (.iload_n 1, 1) := by decide +kernel
theorem dX10_quietWithin_17 : decode cX10_quietWithin 17 = .ok (.ireturn, 1) := by decide +kernel
theorem dX10_quietWithin_18 : decode cX10_quietWithin 18 = .ok (.iload_n 1, 1) := by decide +kernel
theorem dX10_quietWithin_19 : decode cX10_quietWithin 19 = .ok (.sipush 1000, 3) := by decide +kernel
theorem dX10_quietWithin_22 : decode cX10_quietWithin 22 = .ok (.if_icmp .ge 7, 3) := by decide +kernel
theorem dX10_quietWithin_25 : decode cX10_quietWithin 25 = .ok (.aload_n 0, 1) := by decide +kernel
theorem dX10_quietWithin_26 : decode cX10_quietWithin 26 = .ok (.invokevirtual 257, 3) := by decide +kernel
theorem dX10_quietWithin_29 : decode cX10_quietWithin 29 = .ok (.iinc 1 1, 3) := by decide +kernel
theorem dX10_quietWithin_32 : decode cX10_quietWithin 32 = .ok (.goto (-30), 3) := by decide +kernel
theorem dX10_quietWithin_35 : decode cX10_quietWithin 35 = .ok (.iconst (-1), 1) := by decide +kernel
theorem dX10_quietWithin_36 : decode cX10_quietWithin 36 = .ok (.ireturn, 1) := by decide +kernel
theorem hyX10_quietWithin : yX10_quietWithin.cls ≠ "java/lang/invoke/MethodHandle" ∧ yX10_quietWithin.cls ≠ "java/lang/invoke/VarHandle" ∧ (parseMethodDescriptor yX10_quietWithin.desc).map (fun d => d.parameters.length) = some 0 := ⟨by decide +kernel, by decide +kernel, by decide +kernel⟩
set_option maxRecDepth 100000 in
set_option maxHeartbeats 4000000 in
theorem wjX10_quietWithin_29_L2 (C : zC p s m args meth c cX10_quietWithin RX10 2 D Ca B En) (hRm : zRm R 8 181 cells slots) (σ : zS) (x0 : Nat) (x1 : Int32)  (y : (zS × Int32) ⊕ ((zS × Int32) ⊕ zS)) (hf : jX10_quietWithin_29_L2 σ x0 x1  = some y) (hk : (∀ z : (zS × Int32), y = .inl z → zW p l e R s m args below meth c cells slots Q D Ca B 2 z.1 N 2 [(0, .ref x0), (1, .int z.2)] []) ∧ (∀ z : (zS × Int32), y = .inr (.inl z) → zW p l e R s m args below meth c cells slots Q D Ca B 2 z.1 N 16 [(1, .int z.2)] []) ∧ (∀ z : zS, y = .inr (.inr z) → zW p l e R s m args below meth c cells slots Q D Ca B 2 z N 35 [] [])) : zW p l e R s m args below meth c cells slots Q D Ca B 2 σ N 29 [(0, .ref x0), (1, .int x1)] [] := by
  unfold jX10_quietWithin_29_L2 at hf
  refine z_iinc (lv2 := [(1, .int (x1 + (zi 1))), (0, .ref x0)]) C (x1 + (zi 1)) dX10_quietWithin_29 1 rfl rfl (by decide) rfl ?_
  refine z_goto C 2 dX10_quietWithin_32 (by decide) ?_
  cases hf
  refine z_sub [1, 0] rfl ?_
  exact hk.1 _ rfl

set_option maxRecDepth 100000 in
set_option maxHeartbeats 4000000 in
theorem wsX10_quietWithin_2b (C : zC p s m args meth c cX10_quietWithin RX10 2 D Ca B En) (hRm : zRm R 8 181 cells slots) (x0 : Nat) (σ : zS) (u1 : Int32) (y : (zS × Int32) ⊕ ((zS × Int32) ⊕ zS)) (hf : sX10_quietWithin_2b x0 σ u1 = some y) (hk : (∀ z : (zS × Int32), y = .inl z → zW p l e R s m args below meth c cells slots Q D Ca B 2 z.1 N 2 [(0, .ref x0), (1, .int z.2)] []) ∧ (∀ z : (zS × Int32), y = .inr (.inl z) → zW p l e R s m args below meth c cells slots Q D Ca B 2 z.1 N 16 [(1, .int z.2)] []) ∧ (∀ z : zS, y = .inr (.inr z) → zW p l e R s m args below meth c cells slots Q D Ca B 2 z N 35 [] [])) : zW p l e R s m args below meth c cells slots Q D Ca B 2 σ N 2 [(0, .ref x0), (1, .int u1)] [] := by
  unfold sX10_quietWithin_2b at hf
  refine z_iload_n C dX10_quietWithin_2 rfl 1 rfl ?_
  refine z_sipush C (zi 1000) dX10_quietWithin_3 (by decide) ?_
  refine z_icmp_gt C 35 dX10_quietWithin_6 (by decide) (fun q5 => ?_) (fun q5 => ?_)
  · rw [if_pos q5] at hf
    cases hf
    refine z_sub [] rfl ?_
    exact hk.2.2 _ rfl
  · rw [if_neg q5] at hf
    refine z_aload_n C dX10_quietWithin_9 rfl 0 rfl ?_
    obtain ⟨c1, hc1, hf⟩ := zbind hf
    obtain ⟨kc1, hc1⟩ := zck_ok hc1
    refine z_callVi (As := []) (F0 := 8) (L0 := 181) C (mX10_isQuiet l D Ca B En C.2.2.2.2.2.2.2.1 σ N x0  _ hc1) hRm kc1 rfl kw_1681 kw_14 kw_1678 kw_1680 kp_90 hyX10_isQuiet (Nat.le_of_ble_eq_true rfl) (Nat.le_of_ble_eq_true rfl) rfl rfl (Nat.le_of_ble_eq_true rfl) dX10_quietWithin_10 ?_
    refine z_if_eq C 18 dX10_quietWithin_13 (by decide) (fun q4 => ?_) (fun q4 => ?_)
    · rw [if_pos q4] at hf
      refine z_iload_n C dX10_quietWithin_18 rfl 1 rfl ?_
      refine z_sipush C (zi 1000) dX10_quietWithin_19 (by decide) ?_
      refine z_icmp_ge C 29 dX10_quietWithin_22 (by decide) (fun q3 => ?_) (fun q3 => ?_)
      · rw [if_pos q3] at hf
        refine z_sub [0, 1] rfl ?_
        exact wjX10_quietWithin_29_L2 C hRm _ _ _  _ hf hk
      · rw [if_neg q3] at hf
        refine z_aload_n C dX10_quietWithin_25 rfl 0 rfl ?_
        obtain ⟨c2, hc2, hf⟩ := zbind hf
        obtain ⟨kc2, hc2⟩ := zck_ok hc2
        refine z_callVv (As := []) (F0 := 8) (L0 := 181) C (mX10_ticks l D Ca B En C.2.2.2.2.2.2.2.1 c1.1 N x0  _ hc2) hRm kc2 rfl kw_1400 kw_14 kw_1397 kw_1399 kp_39 hyX10_ticks (Nat.le_of_ble_eq_true rfl) (Nat.le_of_ble_eq_true rfl) rfl rfl (Nat.le_of_ble_eq_true rfl) dX10_quietWithin_26 ?_
        refine z_sub [0, 1] rfl ?_
        exact wjX10_quietWithin_29_L2 C hRm _ _ _  _ hf hk
    · rw [if_neg q4] at hf
      cases hf
      refine z_sub [1] rfl ?_
      exact hk.2.1 _ rfl

theorem wsX10_quietWithin_2 (C : zC p s m args meth c cX10_quietWithin RX10 2 D Ca B En) (hRm : zRm R 8 181 cells slots) (x0 : Nat) (n : Nat) (z : (zS × Int32)) (x : ((zS × Int32) ⊕ zS)) (hf : zloop (sX10_quietWithin_2 x0) n z = some x) (hk : (∀ o : (zS × Int32), x = (.inl o) → zW p l e R s m args below meth c cells slots Q D Ca B 2 o.1 N 16 [(1, .int o.2)] []) ∧ (∀ o : zS, x = (.inr o) → zW p l e R s m args below meth c cells slots Q D Ca B 2 o N 35 [] [])) : zW p l e R s m args below meth c cells slots Q D Ca B 2 z.1 N 2 [(0, .ref x0), (1, .int z.2)] [] := by
  refine zloop_W (P := fun z : (zS × Int32) => zW p l e R s m args below meth c cells slots Q D Ca B 2 z.1 N 2 [(0, .ref x0), (1, .int z.2)] []) (K := fun x : ((zS × Int32) ⊕ zS) => (∀ o : (zS × Int32), x = (.inl o) → zW p l e R s m args below meth c cells slots Q D Ca B 2 o.1 N 16 [(1, .int o.2)] []) ∧ (∀ o : zS, x = (.inr o) → zW p l e R s m args below meth c cells slots Q D Ca B 2 o N 35 [] [])) ?_ n z x hf hk
  intro z y hy h1 h2
  refine wsX10_quietWithin_2b C hRm x0 z.1 z.2 y hy ⟨fun z2 e => h1 z2 e, fun o e => (h2 _ e).1 o rfl, fun o e => (h2 _ e).2 o rfl⟩
set_option maxRecDepth 100000 in
set_option maxHeartbeats 4000000 in
theorem wfX10_quietWithin (C : zC p s m args meth c cX10_quietWithin RX10 2 D Ca B En) (hRm : zRm R 8 181 cells slots) (σ : zS) (x0 : Nat) (τ : zS) (r : Int32) (hf : fX10_quietWithin σ x0 = some (τ, r)) (hq : ∀ (pc : Nat) (lv : List (Nat × Value)), decode cX10_quietWithin pc = .ok (.ireturn, 1) → zW p l e R s m args below meth c cells slots Q D Ca B 2 τ N pc lv [.int r]) : zW p l e R s m args below meth c cells slots Q D Ca B 2 σ N 0 [(0, .ref x0)] [] := by
  unfold fX10_quietWithin at hf
  refine z_iconst C (zi 0) dX10_quietWithin_0 (by decide) ?_
  refine z_istore_n (lv2 := [(1, .int ((zi 0))), (0, .ref x0)]) C dX10_quietWithin_1 rfl (by decide) rfl ?_
  obtain ⟨o6, ho6, hf⟩ := zbind hf
  refine z_sub [1, 0] rfl ?_
  refine wsX10_quietWithin_2 C hRm _ zfuel (σ, (zi 0)) o6 ho6 ⟨?_, ?_⟩
  · intro z7 e9
    subst e9
    dsimp only at hf
    refine z_iload_n C dX10_quietWithin_16 rfl 0 rfl ?_
    cases hf
    exact hq _ _ dX10_quietWithin_17
  · intro z8 e9
    subst e9
    dsimp only at hf
    refine z_iconst C (zi (-1)) dX10_quietWithin_35 (by decide) ?_
    cases hf
    exact hq _ _ dX10_quietWithin_36

theorem mX10_quietWithin (l : Launch) (D : va_G) (Ca : Nat → ClassId) (B : Nat) (En : State → Prop) (hE : zEk B En) (σ : zS) (N : Nat) (x0 : Nat) (X : zS × Int32) (hf : fX10_quietWithin σ x0 = some X) : zMi l D Ca B En yX10_quietWithin cX10_quietWithin 2 (Option.some Jvm.ClassFile.FieldType.int) 8 181 [.ref x0] σ N X.1 X.2 :=
  zMet_i (own := RX10) hE (by decide +kernel) rfl (Nat.le_of_ble_eq_true rfl) (fun p e s m args below meth c C hr hRm => wfX10_quietWithin C hRm σ x0 X.1 X.2 hf (fun pc lv hd => zfin_i C hr hd))
theorem dX10_quietIn_0 : decode cX10_quietIn 0 = .ok (.aload_n 0, 1) := by decide +kernel
theorem dX10_quietIn_1 : decode cX10_quietIn 1 = .ok (.iconst 0, 1) := by decide +kernel
theorem dX10_quietIn_2 : decode cX10_quietIn 2 = .ok (.putfield 92, 3) := by decide +kernel
theorem dX10_quietIn_5 : decode cX10_quietIn 5 = .ok (.aload_n 0, 1) := by decide +kernel
theorem dX10_quietIn_6 : decode cX10_quietIn 6 = .ok (.invokevirtual 298, 3) := by decide +kernel
theorem dX10_quietIn_9 : decode cX10_quietIn 9 = .ok (.aload_n 0, 1) := by decide +kernel
theorem dX10_quietIn_10 : decode cX10_quietIn 10 = .ok (.aload_n 0, 1) := by decide +kernel
theorem dX10_quietIn_11 : decode cX10_quietIn 11 = .ok (.invokevirtual 313, 3) := by decide +kernel
theorem dX10_quietIn_14 : decode cX10_quietIn 14 = .ok (.invokevirtual 304, 3) := by decide +kernel
theorem dX10_quietIn_17 : decode cX10_quietIn 17 = .ok (.ireturn, 1) := by decide +kernel
theorem hyX10_quietIn : yX10_quietIn.cls ≠ "java/lang/invoke/MethodHandle" ∧ yX10_quietIn.cls ≠ "java/lang/invoke/VarHandle" ∧ (parseMethodDescriptor yX10_quietIn.desc).map (fun d => d.parameters.length) = some 0 := ⟨by decide +kernel, by decide +kernel, by decide +kernel⟩
set_option maxRecDepth 100000 in
set_option maxHeartbeats 4000000 in
theorem wfX10_quietIn (C : zC p s m args meth c cX10_quietIn RX10 1 D Ca B En) (hRm : zRm R 9 202 cells slots) (σ : zS) (x0 : Nat) (τ : zS) (r : Int32) (hf : fX10_quietIn σ x0 = some (τ, r)) (hq : ∀ (pc : Nat) (lv : List (Nat × Value)), decode cX10_quietIn pc = .ok (.ireturn, 1) → zW p l e R s m args below meth c cells slots Q D Ca B 1 τ N pc lv [.int r]) : zW p l e R s m args below meth c cells slots Q D Ca B 1 σ N 0 [(0, .ref x0)] [] := by
  unfold fX10_quietIn at hf
  refine z_aload_n C dX10_quietIn_0 rfl 0 rfl ?_
  refine z_iconst C (zi 0) dX10_quietIn_1 (by decide) ?_
  obtain ⟨σ1, hσ1, hf⟩ := zbind hf
  refine gp_RX10_92 C hσ1 dX10_quietIn_2 ?_
  refine z_aload_n C dX10_quietIn_5 rfl 0 rfl ?_
  obtain ⟨c2, hc2, hf⟩ := zbind hf
  obtain ⟨kc2, hc2⟩ := zck_ok hc2
  refine z_callVv (As := []) (F0 := 9) (L0 := 202) C (mX10_tries l D Ca B En C.2.2.2.2.2.2.2.1 σ1 N x0  _ hc2) hRm kc2 rfl kw_1649 kw_14 kw_1646 kw_1648 kp_85 hyX10_tries (Nat.le_of_ble_eq_true rfl) (Nat.le_of_ble_eq_true rfl) rfl rfl (Nat.le_of_ble_eq_true rfl) dX10_quietIn_6 ?_
  refine z_aload_n C dX10_quietIn_9 rfl 0 rfl ?_
  refine z_aload_n C dX10_quietIn_10 rfl 0 rfl ?_
  obtain ⟨c3, hc3, hf⟩ := zbind hf
  obtain ⟨kc3, hc3⟩ := zck_ok hc3
  refine z_callVi (As := []) (F0 := 9) (L0 := 202) C (mX10_quietWithin l D Ca B En C.2.2.2.2.2.2.2.1 c2 N x0  _ hc3) hRm kc3 rfl kw_1677 kw_14 kw_1674 kw_1676 kp_89 hyX10_quietWithin (Nat.le_of_ble_eq_true rfl) (Nat.le_of_ble_eq_true rfl) rfl rfl (Nat.le_of_ble_eq_true rfl) dX10_quietIn_11 ?_
  obtain ⟨c4, hc4, hf⟩ := zbind hf
  obtain ⟨kc4, hc4⟩ := zck_ok hc4
  refine z_callVi (As := [.int c3.2]) (F0 := 9) (L0 := 202) C (mX10_laysBack l D Ca B En C.2.2.2.2.2.2.2.1 c3.1 N x0 c3.2 _ hc4) hRm kc4 rfl kw_1657 kw_14 kw_1654 kw_1656 kp_87 hyX10_laysBack (Nat.le_of_ble_eq_true rfl) (Nat.le_of_ble_eq_true rfl) rfl rfl (Nat.le_of_ble_eq_true rfl) dX10_quietIn_14 ?_
  cases hf
  exact hq _ _ dX10_quietIn_17

theorem mX10_quietIn (l : Launch) (D : va_G) (Ca : Nat → ClassId) (B : Nat) (En : State → Prop) (hE : zEk B En) (σ : zS) (N : Nat) (x0 : Nat) (X : zS × Int32) (hf : fX10_quietIn σ x0 = some X) : zMi l D Ca B En yX10_quietIn cX10_quietIn 1 (Option.some Jvm.ClassFile.FieldType.int) 9 202 [.ref x0] σ N X.1 X.2 :=
  zMet_i (own := RX10) hE (by decide +kernel) rfl (Nat.le_of_ble_eq_true rfl) (fun p e s m args below meth c C hr hRm => wfX10_quietIn C hRm σ x0 X.1 X.2 hf (fun pc lv hd => zfin_i C hr hd))
theorem dX10_allHandled_0 : decode cX10_allHandled 0 = .ok (.iconst 0, 1) := by decide +kernel
theorem dX10_allHandled_1 : decode cX10_allHandled 1 = .ok (.istore_n 1, 1) := by decide +kernel
theorem dX10_allHandled_2 : decode cX10_allHandled 2 = .ok (.iconst 0, 1) := by decide +kernel
theorem dX10_allHandled_3 : decode cX10_allHandled 3 = .ok (.istore_n 2, 1) := by decide +kernel
theorem dX10_allHandled_4 : decode cX10_allHandled 4 = .ok (.iload_n 2, 1) := by decide +kernel
theorem dX10_allHandled_5 : decode cX10_allHandled 5 = .ok (.aload_n 0, 1) := by decide +kernel
theorem dX10_allHandled_6 : decode cX10_allHandled 6 = .ok (.getfield 21, 3) := by decide +kernel
theorem dX10_allHandled_9 : decode cX10_allHandled 9 = .ok (.iconst 1, 1) := by decide +kernel
theorem dX10_allHandled_10 : decode cX10_allHandled 10 = .ok (.iaload, 1) := by decide +kernel
theorem dX10_allHandled_11 : decode cX10_allHandled 11 = .ok (.if_icmp .ge 21, 3) := by decide +kernel
theorem dX10_allHandled_14 : decode cX10_allHandled 14 = .ok (.iload_n 1, 1) := by decide +kernel
theorem dX10_allHandled_15 : decode cX10_allHandled 15 = .ok (.aload_n 0, 1) := by decide +kernel
theorem dX10_allHandled_16 : decode cX10_allHandled 16 = .ok (.getfield 21, 3) := by decide +kernel
theorem dX10_allHandled_19 : decode cX10_allHandled 19 = .ok (.bipush 33, 2) := by decide +kernel
theorem dX10_allHandled_21 : decode cX10_allHandled 21 = .ok (.iload_n 2, 1) := by decide +kernel
theorem dX10_allHandled_22 : decode cX10_allHandled 22 = .ok (.iadd, 1) := by decide +kernel
theorem dX10_allHandled_23 : decode cX10_allHandled 23 = .ok (.iaload, 1) := by decide +kernel
theorem dX10_allHandled_24 : decode cX10_allHandled 24 = .ok (.iadd, 1) := by decide +kernel
theorem dX10_allHandled_25 : decode cX10_allHandled 25 = .ok (.istore_n 1, 1) := by decide +kernel
theorem dX10_allHandled_26 : decode cX10_allHandled 26 = .ok (.iinc 2 1, 3) := by decide +kernel
theorem dX10_allHandled_29 : decode cX10_allHandled 29 = .ok (.goto (-25), 3) := by decide +kernel
theorem dX10_allHandled_32 : decode cX10_allHandled 32 = .ok (.iload_n 1, 1) := by decide +kernel
theorem dX10_allHandled_33 : decode cX10_allHandled 33 = .ok (.ireturn, 1) := by decide +kernel
theorem hyX10_allHandled : yX10_allHandled.cls ≠ "java/lang/invoke/MethodHandle" ∧ yX10_allHandled.cls ≠ "java/lang/invoke/VarHandle" ∧ (parseMethodDescriptor yX10_allHandled.desc).map (fun d => d.parameters.length) = some 0 := ⟨by decide +kernel, by decide +kernel, by decide +kernel⟩
set_option maxRecDepth 100000 in
set_option maxHeartbeats 4000000 in
theorem wsX10_allHandled_4b (C : zC p s m args meth c cX10_allHandled RX10 3 D Ca B En) (hRm : zRm R 0 0 cells slots) (x0 : Nat) (σ : zS) (u1 : Int32) (u2 : Int32) (y : (zS × Int32 × Int32) ⊕ (zS × Int32)) (hf : sX10_allHandled_4b x0 σ u1 u2 = some y) (hk : (∀ z : (zS × Int32 × Int32), y = .inl z → zW p l e R s m args below meth c cells slots Q D Ca B 3 z.1 N 4 [(0, .ref x0), (1, .int z.2.1), (2, .int z.2.2)] []) ∧ (∀ z : (zS × Int32), y = .inr z → zW p l e R s m args below meth c cells slots Q D Ca B 3 z.1 N 32 [(1, .int z.2)] [])) : zW p l e R s m args below meth c cells slots Q D Ca B 3 σ N 4 [(0, .ref x0), (1, .int u1), (2, .int u2)] [] := by
  unfold sX10_allHandled_4b at hf
  refine z_iload_n C dX10_allHandled_4 rfl 2 rfl ?_
  refine z_aload_n C dX10_allHandled_5 rfl 0 rfl ?_
  obtain ⟨v1, hv1, hf⟩ := zbind hf
  refine gf_RX10_21 C hv1 dX10_allHandled_6 ?_
  refine z_iconst C (zi 1) dX10_allHandled_9 (by decide) ?_
  obtain ⟨v2, hv2, hf⟩ := zbind hf
  refine z_aI C hv2 dX10_allHandled_10 ?_
  refine z_icmp_ge C 32 dX10_allHandled_11 (by decide) (fun q5 => ?_) (fun q5 => ?_)
  · rw [if_pos q5] at hf
    cases hf
    refine z_sub [1] rfl ?_
    exact hk.2 _ rfl
  · rw [if_neg q5] at hf
    refine z_iload_n C dX10_allHandled_14 rfl 1 rfl ?_
    refine z_aload_n C dX10_allHandled_15 rfl 0 rfl ?_
    obtain ⟨v3, hv3, hf⟩ := zbind hf
    refine gf_RX10_21 C hv3 dX10_allHandled_16 ?_
    refine z_bipush C (zi 33) dX10_allHandled_19 (by decide) ?_
    refine z_iload_n C dX10_allHandled_21 rfl 2 rfl ?_
    refine z_iadd C dX10_allHandled_22 ?_
    obtain ⟨v4, hv4, hf⟩ := zbind hf
    refine z_aI C hv4 dX10_allHandled_23 ?_
    refine z_iadd C dX10_allHandled_24 ?_
    refine z_istore_n (lv2 := [(1, .int (u1 + v4)), (0, .ref x0), (2, .int u2)]) C dX10_allHandled_25 rfl (by decide) rfl ?_
    refine z_iinc (lv2 := [(2, .int (u2 + (zi 1))), (1, .int (u1 + v4)), (0, .ref x0)]) C (u2 + (zi 1)) dX10_allHandled_26 2 rfl rfl (by decide) rfl ?_
    refine z_goto C 4 dX10_allHandled_29 (by decide) ?_
    cases hf
    refine z_sub [2, 1, 0] rfl ?_
    exact hk.1 _ rfl

theorem wsX10_allHandled_4 (C : zC p s m args meth c cX10_allHandled RX10 3 D Ca B En) (hRm : zRm R 0 0 cells slots) (x0 : Nat) (n : Nat) (z : (zS × Int32 × Int32)) (x : (zS × Int32)) (hf : zloop (sX10_allHandled_4 x0) n z = some x) (hk : (∀ o : (zS × Int32), x = o → zW p l e R s m args below meth c cells slots Q D Ca B 3 o.1 N 32 [(1, .int o.2)] [])) : zW p l e R s m args below meth c cells slots Q D Ca B 3 z.1 N 4 [(0, .ref x0), (1, .int z.2.1), (2, .int z.2.2)] [] := by
  refine zloop_W (P := fun z : (zS × Int32 × Int32) => zW p l e R s m args below meth c cells slots Q D Ca B 3 z.1 N 4 [(0, .ref x0), (1, .int z.2.1), (2, .int z.2.2)] []) (K := fun x : (zS × Int32) => (∀ o : (zS × Int32), x = o → zW p l e R s m args below meth c cells slots Q D Ca B 3 o.1 N 32 [(1, .int o.2)] [])) ?_ n z x hf hk
  intro z y hy h1 h2
  refine wsX10_allHandled_4b C hRm x0 z.1 z.2.1 z.2.2 y hy ⟨fun z2 e => h1 z2 e, fun o e => (h2 _ e) o rfl⟩
set_option maxRecDepth 100000 in
set_option maxHeartbeats 4000000 in
theorem wfX10_allHandled (C : zC p s m args meth c cX10_allHandled RX10 3 D Ca B En) (hRm : zRm R 0 0 cells slots) (σ : zS) (x0 : Nat) (τ : zS) (r : Int32) (hf : fX10_allHandled σ x0 = some (τ, r)) (hq : ∀ (pc : Nat) (lv : List (Nat × Value)), decode cX10_allHandled pc = .ok (.ireturn, 1) → zW p l e R s m args below meth c cells slots Q D Ca B 3 τ N pc lv [.int r]) : zW p l e R s m args below meth c cells slots Q D Ca B 3 σ N 0 [(0, .ref x0)] [] := by
  unfold fX10_allHandled at hf
  refine z_iconst C (zi 0) dX10_allHandled_0 (by decide) ?_
  refine z_istore_n (lv2 := [(1, .int ((zi 0))), (0, .ref x0)]) C dX10_allHandled_1 rfl (by decide) rfl ?_
  refine z_iconst C (zi 0) dX10_allHandled_2 (by decide) ?_
  refine z_istore_n (lv2 := [(2, .int ((zi 0))), (1, .int ((zi 0))), (0, .ref x0)]) C dX10_allHandled_3 rfl (by decide) rfl ?_
  obtain ⟨o6, ho6, hf⟩ := zbind hf
  refine z_sub [2, 1, 0] rfl ?_
  refine wsX10_allHandled_4 C hRm _ zfuel (σ, (zi 0), (zi 0)) o6 ho6 ?_
  intro z9 e9
  subst e9
  refine z_iload_n C dX10_allHandled_32 rfl 0 rfl ?_
  cases hf
  exact hq _ _ dX10_allHandled_33

theorem mX10_allHandled (l : Launch) (D : va_G) (Ca : Nat → ClassId) (B : Nat) (En : State → Prop) (hE : zEk B En) (σ : zS) (N : Nat) (x0 : Nat) (X : zS × Int32) (hf : fX10_allHandled σ x0 = some X) : zMi l D Ca B En yX10_allHandled cX10_allHandled 3 (Option.some Jvm.ClassFile.FieldType.int) 0 0 [.ref x0] σ N X.1 X.2 :=
  zMet_i (own := RX10) hE (by decide +kernel) rfl (Nat.le_of_ble_eq_true rfl) (fun p e s m args below meth c C hr hRm => wfX10_allHandled C hRm σ x0 X.1 X.2 hf (fun pc lv hd => zfin_i C hr hd))
theorem dX10_handledWith_0 : decode cX10_handledWith 0 = .ok (.aload_n 0, 1) := by decide +kernel
theorem dX10_handledWith_1 : decode cX10_handledWith 1 = .ok (.invokevirtual 298, 3) := by decide +kernel
theorem dX10_handledWith_4 : decode cX10_handledWith 4 = .ok (.aload_n 0, 1) := by decide +kernel
theorem dX10_handledWith_5 : decode cX10_handledWith 5 = .ok (.iload_n 1, 1) := by decide +kernel
theorem dX10_handledWith_6 : decode cX10_handledWith 6 = .ok (.invokevirtual 281, 3) := by decide +kernel
theorem dX10_handledWith_9 : decode cX10_handledWith 9 = .ok (.istore_n 3, 1) := by decide +kernel
theorem dX10_handledWith_10 : decode cX10_handledWith 10 = .ok (.iconst 0, 1) := by decide +kernel
theorem dX10_handledWith_11 : decode cX10_handledWith 11 = .ok (.istore 4, 2) := by decide +kernel
theorem dX10_handledWith_13 : decode cX10_handledWith 13 = .ok (.iload 4, 2) := by decide +kernel
theorem dX10_handledWith_15 : decode cX10_handledWith 15 = .ok (.iload_n 2, 1) := by decide +kernel
theorem dX10_handledWith_16 : decode cX10_handledWith 16 = .ok (.if_icmp .ge 13, 3) := by decide +kernel
theorem dX10_handledWith_19 : decode cX10_handledWith 19 = .ok (.aload_n 0, 1) := by decide +kernel
theorem dX10_handledWith_20 : decode cX10_handledWith 20 = .ok (.invokevirtual 257, 3) := by decide +kernel
theorem dX10_handledWith_23 : decode cX10_handledWith 23 = .ok (.iinc 4 1, 3) := by decide +kernel
theorem dX10_handledWith_26 : decode cX10_handledWith 26 = .ok (.goto (-13), 3) := by decide +kernel
theorem dX10_handledWith_29 : decode cX10_handledWith 29 = .ok (.aload_n 0, 1) := by decide +kernel
theorem dX10_handledWith_30 : decode cX10_handledWith 30 = .ok (.aload_n 0, 1) := by decide +kernel
theorem dX10_handledWith_31 : decode cX10_handledWith 31 = .ok (.invokevirtual 316, 3) := by decide +kernel
theorem dX10_handledWith_34 : decode cX10_handledWith 34 = .ok (.invokevirtual 304, 3) := by decide +kernel
theorem dX10_handledWith_37 : decode cX10_handledWith 37 = .ok (.ireturn, 1) := by decide +kernel
theorem hyX10_handledWith : yX10_handledWith.cls ≠ "java/lang/invoke/MethodHandle" ∧ yX10_handledWith.cls ≠ "java/lang/invoke/VarHandle" ∧ (parseMethodDescriptor yX10_handledWith.desc).map (fun d => d.parameters.length) = some 2 := ⟨by decide +kernel, by decide +kernel, by decide +kernel⟩
set_option maxRecDepth 100000 in
set_option maxHeartbeats 4000000 in
theorem wsX10_handledWith_13b (C : zC p s m args meth c cX10_handledWith RX10 5 D Ca B En) (hRm : zRm R 8 181 cells slots) (x0 : Nat) (x2 : Int32) (σ : zS) (u4 : Int32) (y : (zS × Int32) ⊕ zS) (hf : sX10_handledWith_13b x0 x2 σ u4 = some y) (hk : (∀ z : (zS × Int32), y = .inl z → zW p l e R s m args below meth c cells slots Q D Ca B 5 z.1 N 13 [(0, .ref x0), (2, .int x2), (4, .int z.2)] []) ∧ (∀ z : zS, y = .inr z → zW p l e R s m args below meth c cells slots Q D Ca B 5 z N 29 [(0, .ref x0)] [])) : zW p l e R s m args below meth c cells slots Q D Ca B 5 σ N 13 [(0, .ref x0), (2, .int x2), (4, .int u4)] [] := by
  unfold sX10_handledWith_13b at hf
  refine z_iload C dX10_handledWith_13 2 rfl ?_
  refine z_iload_n C dX10_handledWith_15 rfl 1 rfl ?_
  refine z_icmp_ge C 29 dX10_handledWith_16 (by decide) (fun q4 => ?_) (fun q4 => ?_)
  · rw [if_pos q4] at hf
    cases hf
    refine z_sub [0] rfl ?_
    exact hk.2 _ rfl
  · rw [if_neg q4] at hf
    refine z_aload_n C dX10_handledWith_19 rfl 0 rfl ?_
    obtain ⟨c3, hc3, hf⟩ := zbind hf
    obtain ⟨kc3, hc3⟩ := zck_ok hc3
    refine z_callVv (As := []) (F0 := 8) (L0 := 181) C (mX10_ticks l D Ca B En C.2.2.2.2.2.2.2.1 σ N x0  _ hc3) hRm kc3 rfl kw_1400 kw_14 kw_1397 kw_1399 kp_39 hyX10_ticks (Nat.le_of_ble_eq_true rfl) (Nat.le_of_ble_eq_true rfl) rfl rfl (Nat.le_of_ble_eq_true rfl) dX10_handledWith_20 ?_
    refine z_iinc (lv2 := [(4, .int (u4 + (zi 1))), (0, .ref x0), (2, .int x2)]) C (u4 + (zi 1)) dX10_handledWith_23 2 rfl rfl (by decide) rfl ?_
    refine z_goto C 13 dX10_handledWith_26 (by decide) ?_
    cases hf
    refine z_sub [1, 2, 0] rfl ?_
    exact hk.1 _ rfl

theorem wsX10_handledWith_13 (C : zC p s m args meth c cX10_handledWith RX10 5 D Ca B En) (hRm : zRm R 8 181 cells slots) (x0 : Nat) (x2 : Int32) (n : Nat) (z : (zS × Int32)) (x : zS) (hf : zloop (sX10_handledWith_13 x0 x2) n z = some x) (hk : (∀ o : zS, x = o → zW p l e R s m args below meth c cells slots Q D Ca B 5 o N 29 [(0, .ref x0)] [])) : zW p l e R s m args below meth c cells slots Q D Ca B 5 z.1 N 13 [(0, .ref x0), (2, .int x2), (4, .int z.2)] [] := by
  refine zloop_W (P := fun z : (zS × Int32) => zW p l e R s m args below meth c cells slots Q D Ca B 5 z.1 N 13 [(0, .ref x0), (2, .int x2), (4, .int z.2)] []) (K := fun x : zS => (∀ o : zS, x = o → zW p l e R s m args below meth c cells slots Q D Ca B 5 o N 29 [(0, .ref x0)] [])) ?_ n z x hf hk
  intro z y hy h1 h2
  refine wsX10_handledWith_13b C hRm x0 x2 z.1 z.2 y hy ⟨fun z2 e => h1 z2 e, fun o e => (h2 _ e) o rfl⟩
set_option maxRecDepth 100000 in
set_option maxHeartbeats 4000000 in
theorem wfX10_handledWith (C : zC p s m args meth c cX10_handledWith RX10 5 D Ca B En) (hRm : zRm R 8 181 cells slots) (σ : zS) (x0 : Nat) (x1 : Int32) (x2 : Int32) (τ : zS) (r : Int32) (hf : fX10_handledWith σ x0 x1 x2 = some (τ, r)) (hq : ∀ (pc : Nat) (lv : List (Nat × Value)), decode cX10_handledWith pc = .ok (.ireturn, 1) → zW p l e R s m args below meth c cells slots Q D Ca B 5 τ N pc lv [.int r]) : zW p l e R s m args below meth c cells slots Q D Ca B 5 σ N 0 [(0, .ref x0), (1, .int x1), (2, .int x2)] [] := by
  unfold fX10_handledWith at hf
  refine z_aload_n C dX10_handledWith_0 rfl 0 rfl ?_
  obtain ⟨c1, hc1, hf⟩ := zbind hf
  obtain ⟨kc1, hc1⟩ := zck_ok hc1
  refine z_callVv (As := []) (F0 := 8) (L0 := 181) C (mX10_tries l D Ca B En C.2.2.2.2.2.2.2.1 σ N x0  _ hc1) hRm kc1 rfl kw_1649 kw_14 kw_1646 kw_1648 kp_85 hyX10_tries (Nat.le_of_ble_eq_true rfl) (Nat.le_of_ble_eq_true rfl) rfl rfl (Nat.le_of_ble_eq_true rfl) dX10_handledWith_1 ?_
  refine z_aload_n C dX10_handledWith_4 rfl 0 rfl ?_
  refine z_iload_n C dX10_handledWith_5 rfl 1 rfl ?_
  obtain ⟨c2, hc2, hf⟩ := zbind hf
  obtain ⟨kc2, hc2⟩ := zck_ok hc2
  refine z_callVi (As := [.int x1]) (F0 := 8) (L0 := 181) C (mX10_rescales l D Ca B En C.2.2.2.2.2.2.2.1 c1 N x0 x1 _ hc2) hRm kc2 rfl kw_1611 kw_14 kw_1608 kw_1610 kp_80 hyX10_rescales (Nat.le_of_ble_eq_true rfl) (Nat.le_of_ble_eq_true rfl) rfl rfl (Nat.le_of_ble_eq_true rfl) dX10_handledWith_6 ?_
  refine z_istore_n (lv2 := [(3, .int c2.2), (0, .ref x0), (1, .int x1), (2, .int x2)]) C dX10_handledWith_9 rfl (by decide) rfl ?_
  refine z_iconst C (zi 0) dX10_handledWith_10 (by decide) ?_
  refine z_istore (lv2 := [(4, .int ((zi 0))), (3, .int c2.2), (0, .ref x0), (1, .int x1), (2, .int x2)]) C dX10_handledWith_11 (by decide) rfl ?_
  obtain ⟨o5, ho5, hf⟩ := zbind hf
  refine z_sub [2, 4, 0] rfl ?_
  refine wsX10_handledWith_13 C hRm _ _ zfuel (c2.1, (zi 0)) o5 ho5 ?_
  intro z9 e9
  subst e9
  refine z_aload_n C dX10_handledWith_29 rfl 0 rfl ?_
  refine z_aload_n C dX10_handledWith_30 rfl 0 rfl ?_
  obtain ⟨c6, hc6, hf⟩ := zbind hf
  obtain ⟨kc6, hc6⟩ := zck_ok hc6
  refine z_callVi (As := []) (F0 := 8) (L0 := 181) C (mX10_allHandled l D Ca B En C.2.2.2.2.2.2.2.1 o5 N x0  _ hc6) hRm kc6 rfl kw_1693 kw_14 kw_1690 kw_1692 kp_92 hyX10_allHandled (Nat.le_of_ble_eq_true rfl) (Nat.le_of_ble_eq_true rfl) rfl rfl (Nat.le_of_ble_eq_true rfl) dX10_handledWith_31 ?_
  obtain ⟨c7, hc7, hf⟩ := zbind hf
  obtain ⟨kc7, hc7⟩ := zck_ok hc7
  refine z_callVi (As := [.int c6.2]) (F0 := 8) (L0 := 181) C (mX10_laysBack l D Ca B En C.2.2.2.2.2.2.2.1 c6.1 N x0 c6.2 _ hc7) hRm kc7 rfl kw_1657 kw_14 kw_1654 kw_1656 kp_87 hyX10_laysBack (Nat.le_of_ble_eq_true rfl) (Nat.le_of_ble_eq_true rfl) rfl rfl (Nat.le_of_ble_eq_true rfl) dX10_handledWith_34 ?_
  cases hf
  exact hq _ _ dX10_handledWith_37

theorem mX10_handledWith (l : Launch) (D : va_G) (Ca : Nat → ClassId) (B : Nat) (En : State → Prop) (hE : zEk B En) (σ : zS) (N : Nat) (x0 : Nat) (x1 : Int32) (x2 : Int32) (X : zS × Int32) (hf : fX10_handledWith σ x0 x1 x2 = some X) : zMi l D Ca B En yX10_handledWith cX10_handledWith 5 (Option.some Jvm.ClassFile.FieldType.int) 8 181 [.ref x0, .int x1, .int x2] σ N X.1 X.2 :=
  zMet_i (own := RX10) hE (by decide +kernel) rfl (Nat.le_of_ble_eq_true rfl) (fun p e s m args below meth c C hr hRm => wfX10_handledWith C hRm σ x0 x1 x2 X.1 X.2 hf (fun pc lv hd => zfin_i C hr hd))
theorem dX10_bestInstances_0 : decode cX10_bestInstances 0 = .ok (.aload_n 0, 1) := by decide +kernel
theorem dX10_bestInstances_1 : decode cX10_bestInstances 1 = .ok (.iload_n 1, 1) := by decide +kernel
theorem dX10_bestInstances_2 : decode cX10_bestInstances 2 = .ok (.invokestatic 251, 3) := by decide +kernel
theorem dX10_bestInstances_5 : decode cX10_bestInstances 5 = .ok (.invokevirtual 96, 3) := by decide +kernel
theorem dX10_bestInstances_8 : decode cX10_bestInstances 8 = .ok (.ifCond .ne 5, 3) := by decide +kernel
theorem dX10_bestInstances_11 : decode cX10_bestInstances 11 = .ok (.iconst 0, 1) := by decide +kernel
theorem dX10_bestInstances_12 : decode cX10_bestInstances 12 = .ok (.ireturn, 1) := by decide +kernel
theorem dX10_bestInstances_13 : decode cX10_bestInstances 13 = .ok (.iconst 1, 1) := by decide +kernel
theorem dX10_bestInstances_14 : decode cX10_bestInstances 14 = .ok (.istore_n 2, 1) := by decide +kernel
theorem dX10_bestInstances_15 : decode cX10_bestInstances 15 = .ok (.iconst (-1), 1) := by decide +kernel
theorem dX10_bestInstances_16 : decode cX10_bestInstances 16 = .ok (.istore_n 3, 1) := by decide +kernel
theorem dX10_bestInstances_17 : decode cX10_bestInstances 17 = .ok (.iconst 1, 1) := by decide +kernel
theorem dX10_bestInstances_18 : decode cX10_bestInstances 18 = .ok (.istore 4, 2) := by decide +kernel
theorem dX10_bestInstances_20 : decode cX10_bestInstances 20 = .ok (.iload 4, 2) := by decide +kernel
theorem dX10_bestInstances_22 : decode cX10_bestInstances 22 = .ok (.iconst 4, 1) := by decide +kernel
theorem dX10_bestInstances_23 : decode cX10_bestInstances 23 = .ok (.if_icmp .gt 33, 3) := by decide +kernel
theorem dX10_bestInstances_26 : decode cX10_bestInstances 26 = .ok (.aload_n 0, 1) := by decide +kernel
theorem dX10_bestInstances_27 : decode cX10_bestInstances 27 = .ok (.iload 4, 2) := by decide +kernel
theorem dX10_bestInstances_29 : decode cX10_bestInstances 29 = .ok (.iload_n 1, 1) := by decide +kernel
theorem dX10_bestInstances_30 : decode cX10_bestInstances 30 = .ok (.invokevirtual 319, 3) := by decide +kernel
theorem dX10_bestInstances_33 : decode cX10_bestInstances 33 = .ok (.istore 5, 2) := by decide +kernel
theorem dX10_bestInstances_35 : decode cX10_bestInstances 35 = .ok (.iload 5, 2) := by decide +kernel
theorem dX10_bestInstances_37 : decode cX10_bestInstances 37 = .ok (.iload_n 3, 1) := by decide +kernel
theorem dX10_bestInstances_38 : decode cX10_bestInstances 38 = .ok (.if_icmp .gt 6, 3) := by decide +kernel
theorem dX10_bestInstances_41 : decode cX10_bestInstances 41 = .ok (.goto 9, 3) := by decide +kernel
theorem dX10_bestInstances_44 : decode cX10_bestInstances 44 = .ok (.iload 4, 2) := by decide +kernel
theorem dX10_bestInstances_46 : decode cX10_bestInstances 46 = .ok (.istore_n 2, 1) := by decide +kernel
theorem dX10_bestInstances_47 : decode cX10_bestInstances 47 = .ok (.iload 5, 2) := by decide +kernel
theorem dX10_bestInstances_49 : decode cX10_bestInstances 49 = .ok (.istore_n 3, 1) := by decide +kernel
theorem dX10_bestInstances_50 : decode cX10_bestInstances 50 = .ok (.iinc 4 1, 3) := by decide +kernel
theorem dX10_bestInstances_53 : decode cX10_bestInstances 53 = .ok (.goto (-33), 3) := by decide +kernel
theorem dX10_bestInstances_56 : decode cX10_bestInstances 56 = .ok (.iload_n 2, 1) := by decide +kernel
theorem dX10_bestInstances_57 : decode cX10_bestInstances 57 = .ok (.ireturn, 1) := by decide +kernel
theorem hyX10_bestInstances : yX10_bestInstances.cls ≠ "java/lang/invoke/MethodHandle" ∧ yX10_bestInstances.cls ≠ "java/lang/invoke/VarHandle" ∧ (parseMethodDescriptor yX10_bestInstances.desc).map (fun d => d.parameters.length) = some 1 := ⟨by decide +kernel, by decide +kernel, by decide +kernel⟩
set_option maxRecDepth 100000 in
set_option maxHeartbeats 4000000 in
theorem wjX10_bestInstances_50_L20 (C : zC p s m args meth c cX10_bestInstances RX10 6 D Ca B En) (hRm : zRm R 9 205 cells slots) (σ : zS) (x0 : Nat) (x1 : Int32) (x2 : Int32) (x3 : Int32) (x4 : Int32)  (y : (zS × Int32 × Int32 × Int32) ⊕ (zS × Int32)) (hf : jX10_bestInstances_50_L20 σ x0 x1 x2 x3 x4  = some y) (hk : (∀ z : (zS × Int32 × Int32 × Int32), y = .inl z → zW p l e R s m args below meth c cells slots Q D Ca B 6 z.1 N 20 [(0, .ref x0), (1, .int x1), (2, .int z.2.1), (3, .int z.2.2.1), (4, .int z.2.2.2)] []) ∧ (∀ z : (zS × Int32), y = .inr z → zW p l e R s m args below meth c cells slots Q D Ca B 6 z.1 N 56 [(2, .int z.2)] [])) : zW p l e R s m args below meth c cells slots Q D Ca B 6 σ N 50 [(0, .ref x0), (1, .int x1), (2, .int x2), (3, .int x3), (4, .int x4)] [] := by
  unfold jX10_bestInstances_50_L20 at hf
  refine z_iinc (lv2 := [(4, .int (x4 + (zi 1))), (0, .ref x0), (1, .int x1), (2, .int x2), (3, .int x3)]) C (x4 + (zi 1)) dX10_bestInstances_50 4 rfl rfl (by decide) rfl ?_
  refine z_goto C 20 dX10_bestInstances_53 (by decide) ?_
  cases hf
  refine z_sub [1, 2, 3, 4, 0] rfl ?_
  exact hk.1 _ rfl

set_option maxRecDepth 100000 in
set_option maxHeartbeats 4000000 in
theorem wsX10_bestInstances_20b (C : zC p s m args meth c cX10_bestInstances RX10 6 D Ca B En) (hRm : zRm R 9 205 cells slots) (x0 : Nat) (x1 : Int32) (σ : zS) (u2 : Int32) (u3 : Int32) (u4 : Int32) (y : (zS × Int32 × Int32 × Int32) ⊕ (zS × Int32)) (hf : sX10_bestInstances_20b x0 x1 σ u2 u3 u4 = some y) (hk : (∀ z : (zS × Int32 × Int32 × Int32), y = .inl z → zW p l e R s m args below meth c cells slots Q D Ca B 6 z.1 N 20 [(0, .ref x0), (1, .int x1), (2, .int z.2.1), (3, .int z.2.2.1), (4, .int z.2.2.2)] []) ∧ (∀ z : (zS × Int32), y = .inr z → zW p l e R s m args below meth c cells slots Q D Ca B 6 z.1 N 56 [(2, .int z.2)] [])) : zW p l e R s m args below meth c cells slots Q D Ca B 6 σ N 20 [(0, .ref x0), (1, .int x1), (2, .int u2), (3, .int u3), (4, .int u4)] [] := by
  unfold sX10_bestInstances_20b at hf
  refine z_iload C dX10_bestInstances_20 4 rfl ?_
  refine z_iconst C (zi 4) dX10_bestInstances_22 (by decide) ?_
  refine z_icmp_gt C 56 dX10_bestInstances_23 (by decide) (fun q5 => ?_) (fun q5 => ?_)
  · rw [if_pos q5] at hf
    cases hf
    refine z_sub [2] rfl ?_
    exact hk.2 _ rfl
  · rw [if_neg q5] at hf
    refine z_aload_n C dX10_bestInstances_26 rfl 0 rfl ?_
    refine z_iload C dX10_bestInstances_27 4 rfl ?_
    refine z_iload_n C dX10_bestInstances_29 rfl 1 rfl ?_
    obtain ⟨c3, hc3, hf⟩ := zbind hf
    obtain ⟨kc3, hc3⟩ := zck_ok hc3
    refine z_callVi (As := [.int u4, .int x1]) (F0 := 9) (L0 := 205) C (mX10_handledWith l D Ca B En C.2.2.2.2.2.2.2.1 σ N x0 u4 x1 _ hc3) hRm kc3 rfl kw_1689 kw_14 kw_1686 kw_1688 kp_91 hyX10_handledWith (Nat.le_of_ble_eq_true rfl) (Nat.le_of_ble_eq_true rfl) rfl rfl (Nat.le_of_ble_eq_true rfl) dX10_bestInstances_30 ?_
    refine z_istore (lv2 := [(5, .int c3.2), (0, .ref x0), (1, .int x1), (2, .int u2), (3, .int u3), (4, .int u4)]) C dX10_bestInstances_33 (by decide) rfl ?_
    refine z_iload C dX10_bestInstances_35 0 rfl ?_
    refine z_iload_n C dX10_bestInstances_37 rfl 4 rfl ?_
    refine z_icmp_gt C 44 dX10_bestInstances_38 (by decide) (fun q4 => ?_) (fun q4 => ?_)
    · rw [if_pos q4] at hf
      refine z_iload C dX10_bestInstances_44 5 rfl ?_
      refine z_istore_n (lv2 := [(2, .int u4), (5, .int c3.2), (0, .ref x0), (1, .int x1), (3, .int u3), (4, .int u4)]) C dX10_bestInstances_46 rfl (by decide) rfl ?_
      refine z_iload C dX10_bestInstances_47 1 rfl ?_
      refine z_istore_n (lv2 := [(3, .int c3.2), (2, .int u4), (5, .int c3.2), (0, .ref x0), (1, .int x1), (4, .int u4)]) C dX10_bestInstances_49 rfl (by decide) rfl ?_
      refine z_sub [3, 4, 1, 0, 5] rfl ?_
      exact wjX10_bestInstances_50_L20 C hRm _ _ _ _ _ _  _ hf hk
    · rw [if_neg q4] at hf
      refine z_goto C 50 dX10_bestInstances_41 (by decide) ?_
      refine z_sub [1, 2, 3, 4, 5] rfl ?_
      exact wjX10_bestInstances_50_L20 C hRm _ _ _ _ _ _  _ hf hk

theorem wsX10_bestInstances_20 (C : zC p s m args meth c cX10_bestInstances RX10 6 D Ca B En) (hRm : zRm R 9 205 cells slots) (x0 : Nat) (x1 : Int32) (n : Nat) (z : (zS × Int32 × Int32 × Int32)) (x : (zS × Int32)) (hf : zloop (sX10_bestInstances_20 x0 x1) n z = some x) (hk : (∀ o : (zS × Int32), x = o → zW p l e R s m args below meth c cells slots Q D Ca B 6 o.1 N 56 [(2, .int o.2)] [])) : zW p l e R s m args below meth c cells slots Q D Ca B 6 z.1 N 20 [(0, .ref x0), (1, .int x1), (2, .int z.2.1), (3, .int z.2.2.1), (4, .int z.2.2.2)] [] := by
  refine zloop_W (P := fun z : (zS × Int32 × Int32 × Int32) => zW p l e R s m args below meth c cells slots Q D Ca B 6 z.1 N 20 [(0, .ref x0), (1, .int x1), (2, .int z.2.1), (3, .int z.2.2.1), (4, .int z.2.2.2)] []) (K := fun x : (zS × Int32) => (∀ o : (zS × Int32), x = o → zW p l e R s m args below meth c cells slots Q D Ca B 6 o.1 N 56 [(2, .int o.2)] [])) ?_ n z x hf hk
  intro z y hy h1 h2
  refine wsX10_bestInstances_20b C hRm x0 x1 z.1 z.2.1 z.2.2.1 z.2.2.2 y hy ⟨fun z2 e => h1 z2 e, fun o e => (h2 _ e) o rfl⟩
set_option maxRecDepth 100000 in
set_option maxHeartbeats 4000000 in
theorem wfX10_bestInstances (C : zC p s m args meth c cX10_bestInstances RX10 6 D Ca B En) (hRm : zRm R 9 205 cells slots) (σ : zS) (x0 : Nat) (x1 : Int32) (τ : zS) (r : Int32) (hf : fX10_bestInstances σ x0 x1 = some (τ, r)) (hq : ∀ (pc : Nat) (lv : List (Nat × Value)), decode cX10_bestInstances pc = .ok (.ireturn, 1) → zW p l e R s m args below meth c cells slots Q D Ca B 6 τ N pc lv [.int r]) : zW p l e R s m args below meth c cells slots Q D Ca B 6 σ N 0 [(0, .ref x0), (1, .int x1)] [] := by
  unfold fX10_bestInstances at hf
  refine z_aload_n C dX10_bestInstances_0 rfl 0 rfl ?_
  refine z_iload_n C dX10_bestInstances_1 rfl 1 rfl ?_
  obtain ⟨c1, hc1, hf⟩ := zbind hf
  refine z_callSi (As := [.int x1]) (F0 := 9) (L0 := 205) C (mX10_isTicks l D Ca B En C.2.2.2.2.2.2.2.1 σ N x1 _ hc1) hRm kw_1388 kw_14 kw_1386 kw_1387 hyX10_isTicks (Nat.le_of_ble_eq_true rfl) (Nat.le_of_ble_eq_true rfl) rfl rfl (Nat.le_of_ble_eq_true rfl) dX10_bestInstances_2 ?_
  obtain ⟨c2, hc2, hf⟩ := zbind hf
  obtain ⟨kc2, hc2⟩ := zck_ok hc2
  refine z_callVi (As := [.int c1.2]) (F0 := 9) (L0 := 205) C (mX10_is l D Ca B En C.2.2.2.2.2.2.2.1 c1.1 N x0 c1.2 _ hc2) hRm kc2 rfl kw_1373 kw_14 kw_1370 kw_1372 kp_37 hyX10_is (Nat.le_of_ble_eq_true rfl) (Nat.le_of_ble_eq_true rfl) rfl rfl (Nat.le_of_ble_eq_true rfl) dX10_bestInstances_5 ?_
  refine z_if_ne C 13 dX10_bestInstances_8 (by decide) (fun q7 => ?_) (fun q7 => ?_)
  · rw [if_neg q7] at hf
    refine z_iconst C (zi 1) dX10_bestInstances_13 (by decide) ?_
    refine z_istore_n (lv2 := [(2, .int ((zi 1))), (0, .ref x0), (1, .int x1)]) C dX10_bestInstances_14 rfl (by decide) rfl ?_
    refine z_iconst C (zi (-1)) dX10_bestInstances_15 (by decide) ?_
    refine z_istore_n (lv2 := [(3, .int ((zi (-1)))), (2, .int ((zi 1))), (0, .ref x0), (1, .int x1)]) C dX10_bestInstances_16 rfl (by decide) rfl ?_
    refine z_iconst C (zi 1) dX10_bestInstances_17 (by decide) ?_
    refine z_istore (lv2 := [(4, .int ((zi 1))), (3, .int ((zi (-1)))), (2, .int ((zi 1))), (0, .ref x0), (1, .int x1)]) C dX10_bestInstances_18 (by decide) rfl ?_
    obtain ⟨o6, ho6, hf⟩ := zbind hf
    refine z_sub [3, 4, 2, 1, 0] rfl ?_
    refine wsX10_bestInstances_20 C hRm _ _ zfuel (c2.1, (zi 1), (zi (-1)), (zi 1)) o6 ho6 ?_
    intro z9 e9
    subst e9
    refine z_iload_n C dX10_bestInstances_56 rfl 0 rfl ?_
    cases hf
    exact hq _ _ dX10_bestInstances_57
  · rw [if_pos q7] at hf
    refine z_iconst C (zi 0) dX10_bestInstances_11 (by decide) ?_
    cases hf
    exact hq _ _ dX10_bestInstances_12

theorem mX10_bestInstances (l : Launch) (D : va_G) (Ca : Nat → ClassId) (B : Nat) (En : State → Prop) (hE : zEk B En) (σ : zS) (N : Nat) (x0 : Nat) (x1 : Int32) (X : zS × Int32) (hf : fX10_bestInstances σ x0 x1 = some X) : zMi l D Ca B En yX10_bestInstances cX10_bestInstances 6 (Option.some Jvm.ClassFile.FieldType.int) 9 205 [.ref x0, .int x1] σ N X.1 X.2 :=
  zMet_i (own := RX10) hE (by decide +kernel) rfl (Nat.le_of_ble_eq_true rfl) (fun p e s m args below meth c C hr hRm => wfX10_bestInstances C hRm σ x0 x1 X.1 X.2 hf (fun pc lv hd => zfin_i C hr hd))
theorem dX10_isInstance_0 : decode cX10_isInstance 0 = .ok (.iload_n 1, 1) := by decide +kernel
theorem dX10_isInstance_1 : decode cX10_isInstance 1 = .ok (.i2l, 1) := by decide +kernel
theorem dX10_isInstance_2 : decode cX10_isInstance 2 = .ok (.lconst 0, 1) := by decide +kernel
theorem dX10_isInstance_3 : decode cX10_isInstance 3 = .ok (.aload_n 0, 1) := by decide +kernel
theorem dX10_isInstance_4 : decode cX10_isInstance 4 = .ok (.getfield 21, 3) := by decide +kernel
theorem dX10_isInstance_7 : decode cX10_isInstance 7 = .ok (.iconst 1, 1) := by decide +kernel
theorem dX10_isInstance_8 : decode cX10_isInstance 8 = .ok (.iaload, 1) := by decide +kernel
theorem dX10_isInstance_9 : decode cX10_isInstance 9 = .ok (.iconst 1, 1) := by decide +kernel
theorem dX10_isInstance_10 : decode cX10_isInstance 10 = .ok (.isub, 1) := by decide +kernel
theorem dX10_isInstance_11 : decode cX10_isInstance 11 = .ok (.i2l, 1) := by decide +kernel
theorem dX10_isInstance_12 : decode cX10_isInstance 12 = .ok (.invokestatic 247, 3) := by decide +kernel
theorem dX10_isInstance_15 : decode cX10_isInstance 15 = .ok (.ireturn, 1) := by decide +kernel
theorem hyX10_isInstance : yX10_isInstance.cls ≠ "java/lang/invoke/MethodHandle" ∧ yX10_isInstance.cls ≠ "java/lang/invoke/VarHandle" ∧ (parseMethodDescriptor yX10_isInstance.desc).map (fun d => d.parameters.length) = some 1 := ⟨by decide +kernel, by decide +kernel, by decide +kernel⟩
set_option maxRecDepth 100000 in
set_option maxHeartbeats 4000000 in
theorem wfX10_isInstance (C : zC p s m args meth c cX10_isInstance RX10 2 D Ca B En) (hRm : zRm R 1 25 cells slots) (σ : zS) (x0 : Nat) (x1 : Int32) (τ : zS) (r : Int32) (hf : fX10_isInstance σ x0 x1 = some (τ, r)) (hq : ∀ (pc : Nat) (lv : List (Nat × Value)), (r = 0 ∨ r = 1) → decode cX10_isInstance pc = .ok (.ireturn, 1) → zW p l e R s m args below meth c cells slots Q D Ca B 2 τ N pc lv [.int r]) : zW p l e R s m args below meth c cells slots Q D Ca B 2 σ N 0 [(0, .ref x0), (1, .int x1)] [] := by
  unfold fX10_isInstance at hf
  refine z_iload_n C dX10_isInstance_0 rfl 1 rfl ?_
  refine z_i2l C dX10_isInstance_1 ?_
  refine z_lconst C 0 dX10_isInstance_2 (by decide) ?_
  refine z_aload_n C dX10_isInstance_3 rfl 0 rfl ?_
  obtain ⟨v1, hv1, hf⟩ := zbind hf
  refine gf_RX10_21 C hv1 dX10_isInstance_4 ?_
  refine z_iconst C (zi 1) dX10_isInstance_7 (by decide) ?_
  obtain ⟨v2, hv2, hf⟩ := zbind hf
  refine z_aI C hv2 dX10_isInstance_8 ?_
  refine z_iconst C (zi 1) dX10_isInstance_9 (by decide) ?_
  refine z_isub C dX10_isInstance_10 ?_
  refine z_i2l C dX10_isInstance_11 ?_
  obtain ⟨c3, hc3, hf⟩ := zbind hf
  refine z_callSi (As := [.long x1.toInt64, .long 0, .long ((v2 - ((zi 1)) : Int32).toInt64)]) (F0 := 1) (L0 := 25) C (mX10_isIn l D Ca B En C.2.2.2.2.2.2.2.1 σ N x1.toInt64 0 ((v2 - ((zi 1)) : Int32).toInt64) _ hc3) hRm kw_1392 kw_14 kw_1390 kw_1391 hyX10_isIn (Nat.le_of_ble_eq_true rfl) (Nat.le_of_ble_eq_true rfl) rfl rfl (Nat.le_of_ble_eq_true rfl) dX10_isInstance_12 ?_
  obtain ⟨e9, b9⟩ := zrZ_ok hf
  cases e9
  exact hq _ _ b9 dX10_isInstance_15

theorem mX10_isInstance (l : Launch) (D : va_G) (Ca : Nat → ClassId) (B : Nat) (En : State → Prop) (hE : zEk B En) (σ : zS) (N : Nat) (x0 : Nat) (x1 : Int32) (X : zS × Int32) (hf : fX10_isInstance σ x0 x1 = some X) : zMi l D Ca B En yX10_isInstance cX10_isInstance 2 (Option.some Jvm.ClassFile.FieldType.boolean) 1 25 [.ref x0, .int x1] σ N X.1 X.2 :=
  zMet_i (own := RX10) hE (by decide +kernel) rfl (Nat.le_of_ble_eq_true rfl) (fun p e s m args below meth c C hr hRm => wfX10_isInstance C hRm σ x0 x1 X.1 X.2 hf (fun pc lv hb hd => zfin_z C hb hr hd))
theorem dX10_isSink_0 : decode cX10_isSink 0 = .ok (.iload_n 1, 1) := by decide +kernel
theorem dX10_isSink_1 : decode cX10_isSink 1 = .ok (.i2l, 1) := by decide +kernel
theorem dX10_isSink_2 : decode cX10_isSink 2 = .ok (.lconst 0, 1) := by decide +kernel
theorem dX10_isSink_3 : decode cX10_isSink 3 = .ok (.aload_n 0, 1) := by decide +kernel
theorem dX10_isSink_4 : decode cX10_isSink 4 = .ok (.getfield 78, 3) := by decide +kernel
theorem dX10_isSink_7 : decode cX10_isSink 7 = .ok (.iconst 1, 1) := by decide +kernel
theorem dX10_isSink_8 : decode cX10_isSink 8 = .ok (.isub, 1) := by decide +kernel
theorem dX10_isSink_9 : decode cX10_isSink 9 = .ok (.i2l, 1) := by decide +kernel
theorem dX10_isSink_10 : decode cX10_isSink 10 = .ok (.invokestatic 247, 3) := by decide +kernel
theorem dX10_isSink_13 : decode cX10_isSink 13 = .ok (.ireturn, 1) := by decide +kernel
theorem hyX10_isSink : yX10_isSink.cls ≠ "java/lang/invoke/MethodHandle" ∧ yX10_isSink.cls ≠ "java/lang/invoke/VarHandle" ∧ (parseMethodDescriptor yX10_isSink.desc).map (fun d => d.parameters.length) = some 1 := ⟨by decide +kernel, by decide +kernel, by decide +kernel⟩
set_option maxRecDepth 100000 in
set_option maxHeartbeats 4000000 in
theorem wfX10_isSink (C : zC p s m args meth c cX10_isSink RX10 2 D Ca B En) (hRm : zRm R 1 25 cells slots) (σ : zS) (x0 : Nat) (x1 : Int32) (τ : zS) (r : Int32) (hf : fX10_isSink σ x0 x1 = some (τ, r)) (hq : ∀ (pc : Nat) (lv : List (Nat × Value)), (r = 0 ∨ r = 1) → decode cX10_isSink pc = .ok (.ireturn, 1) → zW p l e R s m args below meth c cells slots Q D Ca B 2 τ N pc lv [.int r]) : zW p l e R s m args below meth c cells slots Q D Ca B 2 σ N 0 [(0, .ref x0), (1, .int x1)] [] := by
  unfold fX10_isSink at hf
  refine z_iload_n C dX10_isSink_0 rfl 1 rfl ?_
  refine z_i2l C dX10_isSink_1 ?_
  refine z_lconst C 0 dX10_isSink_2 (by decide) ?_
  refine z_aload_n C dX10_isSink_3 rfl 0 rfl ?_
  obtain ⟨v1, hv1, hf⟩ := zbind hf
  refine gf_RX10_78 C hv1 dX10_isSink_4 ?_
  refine z_iconst C (zi 1) dX10_isSink_7 (by decide) ?_
  refine z_isub C dX10_isSink_8 ?_
  refine z_i2l C dX10_isSink_9 ?_
  obtain ⟨c2, hc2, hf⟩ := zbind hf
  refine z_callSi (As := [.long x1.toInt64, .long 0, .long ((v1 - ((zi 1)) : Int32).toInt64)]) (F0 := 1) (L0 := 25) C (mX10_isIn l D Ca B En C.2.2.2.2.2.2.2.1 σ N x1.toInt64 0 ((v1 - ((zi 1)) : Int32).toInt64) _ hc2) hRm kw_1392 kw_14 kw_1390 kw_1391 hyX10_isIn (Nat.le_of_ble_eq_true rfl) (Nat.le_of_ble_eq_true rfl) rfl rfl (Nat.le_of_ble_eq_true rfl) dX10_isSink_10 ?_
  obtain ⟨e9, b9⟩ := zrZ_ok hf
  cases e9
  exact hq _ _ b9 dX10_isSink_13

theorem mX10_isSink (l : Launch) (D : va_G) (Ca : Nat → ClassId) (B : Nat) (En : State → Prop) (hE : zEk B En) (σ : zS) (N : Nat) (x0 : Nat) (x1 : Int32) (X : zS × Int32) (hf : fX10_isSink σ x0 x1 = some X) : zMi l D Ca B En yX10_isSink cX10_isSink 2 (Option.some Jvm.ClassFile.FieldType.boolean) 1 25 [.ref x0, .int x1] σ N X.1 X.2 :=
  zMet_i (own := RX10) hE (by decide +kernel) rfl (Nat.le_of_ble_eq_true rfl) (fun p e s m args below meth c C hr hRm => wfX10_isSink C hRm σ x0 x1 X.1 X.2 hf (fun pc lv hb hd => zfin_z C hb hr hd))
theorem dX10_isKey_0 : decode cX10_isKey 0 = .ok (.iload_n 0, 1) := by decide +kernel
theorem dX10_isKey_1 : decode cX10_isKey 1 = .ok (.i2l, 1) := by decide +kernel
theorem dX10_isKey_2 : decode cX10_isKey 2 = .ok (.lconst 0, 1) := by decide +kernel
theorem dX10_isKey_3 : decode cX10_isKey 3 = .ok (.ldc2_w 322, 3) := by decide +kernel
theorem dX10_isKey_6 : decode cX10_isKey 6 = .ok (.invokestatic 247, 3) := by decide +kernel
theorem dX10_isKey_9 : decode cX10_isKey 9 = .ok (.ireturn, 1) := by decide +kernel
theorem hyX10_isKey : yX10_isKey.cls ≠ "java/lang/invoke/MethodHandle" ∧ yX10_isKey.cls ≠ "java/lang/invoke/VarHandle" ∧ (parseMethodDescriptor yX10_isKey.desc).map (fun d => d.parameters.length) = some 1 := ⟨by decide +kernel, by decide +kernel, by decide +kernel⟩
set_option maxRecDepth 100000 in
set_option maxHeartbeats 4000000 in
theorem wfX10_isKey (C : zC p s m args meth c cX10_isKey RX10 1 D Ca B En) (hRm : zRm R 1 25 cells slots) (σ : zS) (x0 : Int32) (τ : zS) (r : Int32) (hf : fX10_isKey σ x0 = some (τ, r)) (hq : ∀ (pc : Nat) (lv : List (Nat × Value)), (r = 0 ∨ r = 1) → decode cX10_isKey pc = .ok (.ireturn, 1) → zW p l e R s m args below meth c cells slots Q D Ca B 1 τ N pc lv [.int r]) : zW p l e R s m args below meth c cells slots Q D Ca B 1 σ N 0 [(0, .int x0)] [] := by
  unfold fX10_isKey at hf
  refine z_iload_n C dX10_isKey_0 rfl 0 rfl ?_
  refine z_i2l C dX10_isKey_1 ?_
  refine z_lconst C 0 dX10_isKey_2 (by decide) ?_
  refine z_ldc2 C kw_1714 dX10_isKey_3 ?_
  obtain ⟨c1, hc1, hf⟩ := zbind hf
  refine z_callSi (As := [.long x0.toInt64, .long 0, .long 15]) (F0 := 1) (L0 := 25) C (mX10_isIn l D Ca B En C.2.2.2.2.2.2.2.1 σ N x0.toInt64 0 15 _ hc1) hRm kw_1392 kw_14 kw_1390 kw_1391 hyX10_isIn (Nat.le_of_ble_eq_true rfl) (Nat.le_of_ble_eq_true rfl) rfl rfl (Nat.le_of_ble_eq_true rfl) dX10_isKey_6 ?_
  obtain ⟨e9, b9⟩ := zrZ_ok hf
  cases e9
  exact hq _ _ b9 dX10_isKey_9

theorem mX10_isKey (l : Launch) (D : va_G) (Ca : Nat → ClassId) (B : Nat) (En : State → Prop) (hE : zEk B En) (σ : zS) (N : Nat) (x0 : Int32) (X : zS × Int32) (hf : fX10_isKey σ x0 = some X) : zMi l D Ca B En yX10_isKey cX10_isKey 1 (Option.some Jvm.ClassFile.FieldType.boolean) 1 25 [.int x0] σ N X.1 X.2 :=
  zMet_i (own := RX10) hE (by decide +kernel) rfl (Nat.le_of_ble_eq_true rfl) (fun p e s m args below meth c C hr hRm => wfX10_isKey C hRm σ x0 X.1 X.2 hf (fun pc lv hb hd => zfin_z C hb hr hd))
theorem dX10_count_0 : decode cX10_count 0 = .ok (.aload_n 0, 1) := by decide +kernel
theorem dX10_count_1 : decode cX10_count 1 = .ok (.iconst 0, 1) := by decide +kernel
theorem dX10_count_2 : decode cX10_count 2 = .ok (.putfield 92, 3) := by decide +kernel
theorem dX10_count_5 : decode cX10_count 5 = .ok (.iload_n 1, 1) := by decide +kernel
theorem dX10_count_6 : decode cX10_count 6 = .ok (.tableswitch 132 0 10 #[58, 63, 70, 75, 82, 89, 96, 103, 111, 119, 127], 58) := by decide +kernel
theorem dX10_count_64 : decode cX10_count 64 = .ok (.aload_n 0, 1) := by decide +kernel
theorem dX10_count_65 : decode cX10_count 65 = .ok (.getfield 75, 3) := by decide +kernel
theorem dX10_count_68 : decode cX10_count 68 = .ok (.ireturn, 1) := by decide +kernel
theorem dX10_count_69 : decode cX10_count 69 = .ok (.aload_n 0, 1) := by decide +kernel
theorem dX10_count_70 : decode cX10_count 70 = .ok (.getfield 21, 3) := by decide +kernel
theorem dX10_count_73 : decode cX10_count 73 = .ok (.iconst 1, 1) := by decide +kernel
theorem dX10_count_74 : decode cX10_count 74 = .ok (.iaload, 1) := by decide +kernel
theorem dX10_count_75 : decode cX10_count 75 = .ok (.ireturn, 1) := by decide +kernel
theorem dX10_count_76 : decode cX10_count 76 = .ok (.aload_n 0, 1) := by decide +kernel
theorem dX10_count_77 : decode cX10_count 77 = .ok (.getfield 78, 3) := by decide +kernel
theorem dX10_count_80 : decode cX10_count 80 = .ok (.ireturn, 1) := by decide +kernel
theorem dX10_count_81 : decode cX10_count 81 = .ok (.aload_n 0, 1) := by decide +kernel
theorem dX10_count_82 : decode cX10_count 82 = .ok (.getfield 21, 3) := by decide +kernel
theorem dX10_count_85 : decode cX10_count 85 = .ok (.iconst 2, 1) := by decide +kernel
theorem dX10_count_86 : decode cX10_count 86 = .ok (.iaload, 1) := by decide +kernel
theorem dX10_count_87 : decode cX10_count 87 = .ok (.ireturn, 1) := by decide +kernel
theorem dX10_count_88 : decode cX10_count 88 = .ok (.aload_n 0, 1) := by decide +kernel
theorem dX10_count_89 : decode cX10_count 89 = .ok (.getfield 21, 3) := by decide +kernel
theorem dX10_count_92 : decode cX10_count 92 = .ok (.iconst 3, 1) := by decide +kernel
theorem dX10_count_93 : decode cX10_count 93 = .ok (.iaload, 1) := by decide +kernel
theorem dX10_count_94 : decode cX10_count 94 = .ok (.ireturn, 1) := by decide +kernel
theorem dX10_count_95 : decode cX10_count 95 = .ok (.aload_n 0, 1) := by decide +kernel
theorem dX10_count_96 : decode cX10_count 96 = .ok (.getfield 21, 3) := by decide +kernel
theorem dX10_count_99 : decode cX10_count 99 = .ok (.iconst 0, 1) := by decide +kernel
theorem dX10_count_100 : decode cX10_count 100 = .ok (.iaload, 1) := by decide +kernel
theorem dX10_count_101 : decode cX10_count 101 = .ok (.ireturn, 1) := by decide +kernel
theorem dX10_count_102 : decode cX10_count 102 = .ok (.aload_n 0, 1) := by decide +kernel
theorem dX10_count_103 : decode cX10_count 103 = .ok (.getfield 21, 3) := by decide +kernel
theorem dX10_count_106 : decode cX10_count 106 = .ok (.iconst 5, 1) := by decide +kernel
theorem dX10_count_107 : decode cX10_count 107 = .ok (.iaload, 1) := by decide +kernel
theorem dX10_count_108 : decode cX10_count 108 = .ok (.ireturn, 1) := by decide +kernel
theorem dX10_count_109 : decode cX10_count 109 = .ok (.aload_n 0, 1) := by decide +kernel
theorem dX10_count_110 : decode cX10_count 110 = .ok (.getfield 21, 3) := by decide +kernel
theorem dX10_count_113 : decode cX10_count 113 = .ok (.bipush 6, 2) := by decide +kernel
theorem dX10_count_115 : decode cX10_count 115 = .ok (.iaload, 1) := by decide +kernel
theorem dX10_count_116 : decode cX10_count 116 = .ok (.ireturn, 1) := by decide +kernel
theorem dX10_count_117 : decode cX10_count 117 = .ok (.aload_n 0, 1) := by decide +kernel
theorem dX10_count_118 : decode cX10_count 118 = .ok (.getfield 21, 3) := by decide +kernel
theorem dX10_count_121 : decode cX10_count 121 = .ok (.bipush 7, 2) := by decide +kernel
theorem dX10_count_123 : decode cX10_count 123 = .ok (.iaload, 1) := by decide +kernel
theorem dX10_count_124 : decode cX10_count 124 = .ok (.ireturn, 1) := by decide +kernel
theorem dX10_count_125 : decode cX10_count 125 = .ok (.aload_n 0, 1) := by decide +kernel
theorem dX10_count_126 : decode cX10_count 126 = .ok (.getfield 21, 3) := by decide +kernel
theorem dX10_count_129 : decode cX10_count 129 = .ok (.bipush 8, 2) := by decide +kernel
theorem dX10_count_131 : decode cX10_count 131 = .ok (.iaload, 1) := by decide +kernel
theorem dX10_count_132 : decode cX10_count 132 = .ok (.ireturn, 1) := by decide +kernel
theorem dX10_count_133 : decode cX10_count 133 = .ok (.aload_n 0, 1) := by decide +kernel
theorem dX10_count_134 : decode cX10_count 134 = .ok (.getfield 85, 3) := by decide +kernel
theorem dX10_count_137 : decode cX10_count 137 = .ok (.ireturn, 1) := by decide +kernel
theorem dX10_count_138 : decode cX10_count 138 = .ok (.iload_n 1, 1) := by decide +kernel
theorem dX10_count_139 : decode cX10_count 139 = .ok (.bipush 11, 2) := by decide +kernel
theorem dX10_count_141 : decode cX10_count 141 = .ok (.if_icmp .ne 12, 3) := by decide +kernel
theorem dX10_count_144 : decode cX10_count 144 = .ok (.aload_n 0, 1) := by decide +kernel
theorem dX10_count_145 : decode cX10_count 145 = .ok (.getfield 21, 3) := by decide +kernel
theorem dX10_count_148 : decode cX10_count 148 = .ok (.iconst 4, 1) := by decide +kernel
theorem dX10_count_149 : decode cX10_count 149 = .ok (.iaload, 1) := by decide +kernel
theorem dX10_count_150 : decode cX10_count 150 = .ok (.goto 4, 3) := by decide +kernel
theorem dX10_count_153 : decode cX10_count 153 = .ok (.iconst (-1), 1) := by decide +kernel
theorem dX10_count_154 : decode cX10_count 154 = .ok (.ireturn, 1) := by decide +kernel
theorem hyX10_count : yX10_count.cls ≠ "java/lang/invoke/MethodHandle" ∧ yX10_count.cls ≠ "java/lang/invoke/VarHandle" ∧ (parseMethodDescriptor yX10_count.desc).map (fun d => d.parameters.length) = some 1 := ⟨by decide +kernel, by decide +kernel, by decide +kernel⟩
set_option maxRecDepth 100000 in
set_option maxHeartbeats 4000000 in
theorem wfX10_count (C : zC p s m args meth c cX10_count RX10 2 D Ca B En) (hRm : zRm R 0 0 cells slots) (σ : zS) (x0 : Nat) (x1 : Int32) (τ : zS) (r : Int32) (hf : fX10_count σ x0 x1 = some (τ, r)) (hq : ∀ (pc : Nat) (lv : List (Nat × Value)), decode cX10_count pc = .ok (.ireturn, 1) → zW p l e R s m args below meth c cells slots Q D Ca B 2 τ N pc lv [.int r]) : zW p l e R s m args below meth c cells slots Q D Ca B 2 σ N 0 [(0, .ref x0), (1, .int x1)] [] := by
  unfold fX10_count at hf
  refine z_aload_n C dX10_count_0 rfl 0 rfl ?_
  refine z_iconst C (zi 0) dX10_count_1 (by decide) ?_
  obtain ⟨σ1, hσ1, hf⟩ := zbind hf
  refine gp_RX10_92 C hσ1 dX10_count_2 ?_
  refine z_iload_n C dX10_count_5 rfl 1 rfl ?_
  by_cases q2 : x1 = (zi 0)
  · rw [if_pos q2] at hf
    refine z_tableIn C 64 dX10_count_6 (by rw [q2]; decide) (by rw [q2]; decide) (by rw [q2]; rfl) (by decide) ?_
    refine z_aload_n C dX10_count_64 rfl 0 rfl ?_
    obtain ⟨v3, hv3, hf⟩ := zbind hf
    refine gf_RX10_75 C hv3 dX10_count_65 ?_
    cases hf
    exact hq _ _ dX10_count_68
  · rw [if_neg q2] at hf
    by_cases q4 : x1 = (zi 1)
    · rw [if_pos q4] at hf
      refine z_tableIn C 69 dX10_count_6 (by rw [q4]; decide) (by rw [q4]; decide) (by rw [q4]; rfl) (by decide) ?_
      refine z_aload_n C dX10_count_69 rfl 0 rfl ?_
      obtain ⟨v5, hv5, hf⟩ := zbind hf
      refine gf_RX10_21 C hv5 dX10_count_70 ?_
      refine z_iconst C (zi 1) dX10_count_73 (by decide) ?_
      obtain ⟨v6, hv6, hf⟩ := zbind hf
      refine z_aI C hv6 dX10_count_74 ?_
      cases hf
      exact hq _ _ dX10_count_75
    · rw [if_neg q4] at hf
      by_cases q7 : x1 = (zi 2)
      · rw [if_pos q7] at hf
        refine z_tableIn C 76 dX10_count_6 (by rw [q7]; decide) (by rw [q7]; decide) (by rw [q7]; rfl) (by decide) ?_
        refine z_aload_n C dX10_count_76 rfl 0 rfl ?_
        obtain ⟨v8, hv8, hf⟩ := zbind hf
        refine gf_RX10_78 C hv8 dX10_count_77 ?_
        cases hf
        exact hq _ _ dX10_count_80
      · rw [if_neg q7] at hf
        by_cases q9 : x1 = (zi 3)
        · rw [if_pos q9] at hf
          refine z_tableIn C 81 dX10_count_6 (by rw [q9]; decide) (by rw [q9]; decide) (by rw [q9]; rfl) (by decide) ?_
          refine z_aload_n C dX10_count_81 rfl 0 rfl ?_
          obtain ⟨v10, hv10, hf⟩ := zbind hf
          refine gf_RX10_21 C hv10 dX10_count_82 ?_
          refine z_iconst C (zi 2) dX10_count_85 (by decide) ?_
          obtain ⟨v11, hv11, hf⟩ := zbind hf
          refine z_aI C hv11 dX10_count_86 ?_
          cases hf
          exact hq _ _ dX10_count_87
        · rw [if_neg q9] at hf
          by_cases q12 : x1 = (zi 4)
          · rw [if_pos q12] at hf
            refine z_tableIn C 88 dX10_count_6 (by rw [q12]; decide) (by rw [q12]; decide) (by rw [q12]; rfl) (by decide) ?_
            refine z_aload_n C dX10_count_88 rfl 0 rfl ?_
            obtain ⟨v13, hv13, hf⟩ := zbind hf
            refine gf_RX10_21 C hv13 dX10_count_89 ?_
            refine z_iconst C (zi 3) dX10_count_92 (by decide) ?_
            obtain ⟨v14, hv14, hf⟩ := zbind hf
            refine z_aI C hv14 dX10_count_93 ?_
            cases hf
            exact hq _ _ dX10_count_94
          · rw [if_neg q12] at hf
            by_cases q15 : x1 = (zi 5)
            · rw [if_pos q15] at hf
              refine z_tableIn C 95 dX10_count_6 (by rw [q15]; decide) (by rw [q15]; decide) (by rw [q15]; rfl) (by decide) ?_
              refine z_aload_n C dX10_count_95 rfl 0 rfl ?_
              obtain ⟨v16, hv16, hf⟩ := zbind hf
              refine gf_RX10_21 C hv16 dX10_count_96 ?_
              refine z_iconst C (zi 0) dX10_count_99 (by decide) ?_
              obtain ⟨v17, hv17, hf⟩ := zbind hf
              refine z_aI C hv17 dX10_count_100 ?_
              cases hf
              exact hq _ _ dX10_count_101
            · rw [if_neg q15] at hf
              by_cases q18 : x1 = (zi 6)
              · rw [if_pos q18] at hf
                refine z_tableIn C 102 dX10_count_6 (by rw [q18]; decide) (by rw [q18]; decide) (by rw [q18]; rfl) (by decide) ?_
                refine z_aload_n C dX10_count_102 rfl 0 rfl ?_
                obtain ⟨v19, hv19, hf⟩ := zbind hf
                refine gf_RX10_21 C hv19 dX10_count_103 ?_
                refine z_iconst C (zi 5) dX10_count_106 (by decide) ?_
                obtain ⟨v20, hv20, hf⟩ := zbind hf
                refine z_aI C hv20 dX10_count_107 ?_
                cases hf
                exact hq _ _ dX10_count_108
              · rw [if_neg q18] at hf
                by_cases q21 : x1 = (zi 7)
                · rw [if_pos q21] at hf
                  refine z_tableIn C 109 dX10_count_6 (by rw [q21]; decide) (by rw [q21]; decide) (by rw [q21]; rfl) (by decide) ?_
                  refine z_aload_n C dX10_count_109 rfl 0 rfl ?_
                  obtain ⟨v22, hv22, hf⟩ := zbind hf
                  refine gf_RX10_21 C hv22 dX10_count_110 ?_
                  refine z_bipush C (zi 6) dX10_count_113 (by decide) ?_
                  obtain ⟨v23, hv23, hf⟩ := zbind hf
                  refine z_aI C hv23 dX10_count_115 ?_
                  cases hf
                  exact hq _ _ dX10_count_116
                · rw [if_neg q21] at hf
                  by_cases q24 : x1 = (zi 8)
                  · rw [if_pos q24] at hf
                    refine z_tableIn C 117 dX10_count_6 (by rw [q24]; decide) (by rw [q24]; decide) (by rw [q24]; rfl) (by decide) ?_
                    refine z_aload_n C dX10_count_117 rfl 0 rfl ?_
                    obtain ⟨v25, hv25, hf⟩ := zbind hf
                    refine gf_RX10_21 C hv25 dX10_count_118 ?_
                    refine z_bipush C (zi 7) dX10_count_121 (by decide) ?_
                    obtain ⟨v26, hv26, hf⟩ := zbind hf
                    refine z_aI C hv26 dX10_count_123 ?_
                    cases hf
                    exact hq _ _ dX10_count_124
                  · rw [if_neg q24] at hf
                    by_cases q27 : x1 = (zi 9)
                    · rw [if_pos q27] at hf
                      refine z_tableIn C 125 dX10_count_6 (by rw [q27]; decide) (by rw [q27]; decide) (by rw [q27]; rfl) (by decide) ?_
                      refine z_aload_n C dX10_count_125 rfl 0 rfl ?_
                      obtain ⟨v28, hv28, hf⟩ := zbind hf
                      refine gf_RX10_21 C hv28 dX10_count_126 ?_
                      refine z_bipush C (zi 8) dX10_count_129 (by decide) ?_
                      obtain ⟨v29, hv29, hf⟩ := zbind hf
                      refine z_aI C hv29 dX10_count_131 ?_
                      cases hf
                      exact hq _ _ dX10_count_132
                    · rw [if_neg q27] at hf
                      by_cases q30 : x1 = (zi 10)
                      · rw [if_pos q30] at hf
                        refine z_tableIn C 133 dX10_count_6 (by rw [q30]; decide) (by rw [q30]; decide) (by rw [q30]; rfl) (by decide) ?_
                        refine z_aload_n C dX10_count_133 rfl 0 rfl ?_
                        obtain ⟨v31, hv31, hf⟩ := zbind hf
                        refine gf_RX10_85 C hv31 dX10_count_134 ?_
                        cases hf
                        exact hq _ _ dX10_count_137
                      · rw [if_neg q30] at hf
                        have w9 : ∀ k : Nat, k < 11 → ¬ x1 = Int32.ofInt ((0 : Int) + k) := by
                          intro k hk
                          match k, hk with
                          | 0, _ => exact q2
                          | 1, _ => exact q4
                          | 2, _ => exact q7
                          | 3, _ => exact q9
                          | 4, _ => exact q12
                          | 5, _ => exact q15
                          | 6, _ => exact q18
                          | 7, _ => exact q21
                          | 8, _ => exact q24
                          | 9, _ => exact q27
                          | 10, _ => exact q30
                          | k + 11, hk => exact absurd hk (by omega)
                        refine z_tableOut C 138 dX10_count_6 (zsw 0 11 w9 (by decide)) (by decide) ?_
                        refine z_iload_n C dX10_count_138 rfl 1 rfl ?_
                        refine z_bipush C (zi 11) dX10_count_139 (by decide) ?_
                        refine z_icmp_ne C 153 dX10_count_141 (by decide) (fun q34 => ?_) (fun q34 => ?_)
                        · rw [if_neg q34] at hf
                          refine z_iconst C (zi (-1)) dX10_count_153 (by decide) ?_
                          cases hf
                          exact hq _ _ dX10_count_154
                        · rw [if_pos q34] at hf
                          refine z_aload_n C dX10_count_144 rfl 0 rfl ?_
                          obtain ⟨v32, hv32, hf⟩ := zbind hf
                          refine gf_RX10_21 C hv32 dX10_count_145 ?_
                          refine z_iconst C (zi 4) dX10_count_148 (by decide) ?_
                          obtain ⟨v33, hv33, hf⟩ := zbind hf
                          refine z_aI C hv33 dX10_count_149 ?_
                          refine z_goto C 154 dX10_count_150 (by decide) ?_
                          cases hf
                          exact hq _ _ dX10_count_154

theorem mX10_count (l : Launch) (D : va_G) (Ca : Nat → ClassId) (B : Nat) (En : State → Prop) (hE : zEk B En) (σ : zS) (N : Nat) (x0 : Nat) (x1 : Int32) (X : zS × Int32) (hf : fX10_count σ x0 x1 = some X) : zMi l D Ca B En yX10_count cX10_count 2 (Option.some Jvm.ClassFile.FieldType.int) 0 0 [.ref x0, .int x1] σ N X.1 X.2 :=
  zMet_i (own := RX10) hE (by decide +kernel) rfl (Nat.le_of_ble_eq_true rfl) (fun p e s m args below meth c C hr hRm => wfX10_count C hRm σ x0 x1 X.1 X.2 hf (fun pc lv hd => zfin_i C hr hd))
end ZM
