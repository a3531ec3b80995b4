/-! Methods: X9_undo, X9_completesIn, X9_restoreState -/
section ZM
variable {p : Program} {l : Launch} {e : Env} {R : Room} {s : State} {m : MethodId} {args : Array Value} {below : List Frame} {meth : Method} {c : Code} {cells slots : Nat} {Q : State → Prop} {D : va_G} {Ca : Nat → ClassId} {B : Nat} {En : State → Prop} {N : Nat}
theorem dX9_undo_0 : decode cX9_undo 0 = .ok (.aload_n 0, 1) := by decide +kernel
theorem dX9_undo_1 : decode cX9_undo 1 = .ok (.getfield 63, 3) := by decide +kernel
theorem dX9_undo_4 : decode cX9_undo 4 = .ok (.getfield 125, 3) := by decide +kernel
theorem dX9_undo_7 : decode cX9_undo 7 = .ok (.ifCond .ne 11, 3) := by decide +kernel
theorem dX9_undo_10 : decode cX9_undo 10 = .ok (.new 306, 3) := by decide +kernel
theorem dX9_undo_13 : decode cX9_undo 13 = .ok (.dup, 1) := by decide +kernel
theorem dX9_undo_14 : decode cX9_undo 14 = .ok (.invokespecial 308, 3) := by decide +kernel
theorem dX9_undo_17 : decode cX9_undo 17 = .ok (.athrow, 1) := by decide +kernel
theorem dX9_undo_18 : decode cX9_undo 18 = .ok (.aload_n 0, 1) := by decide +kernel
theorem dX9_undo_19 : decode cX9_undo 19 = .ok (.getfield 63, 3) := by decide +kernel
theorem dX9_undo_22 : decode cX9_undo 22 = .ok (.aload_n 0, 1) := by decide +kernel
theorem dX9_undo_23 : decode cX9_undo 23 = .ok (.getfield 50, 3) := by decide +kernel
theorem dX9_undo_26 : decode cX9_undo 26 = .ok (.invokevirtual 322, 3) := by decide +kernel
theorem dX9_undo_29 : decode cX9_undo 29 = .ok (.aload_n 0, 1) := by decide +kernel
theorem dX9_undo_30 : decode cX9_undo 30 = .ok (.getfield 63, 3) := by decide +kernel
theorem dX9_undo_33 : decode cX9_undo 33 = .ok (.getfield 125, 3) := by decide +kernel
theorem dX9_undo_36 : decode cX9_undo 36 = .ok (.ireturn, 1) := by decide +kernel
theorem hyX9_undo : yX9_undo.cls ≠ "java/lang/invoke/MethodHandle" ∧ yX9_undo.cls ≠ "java/lang/invoke/VarHandle" ∧ (parseMethodDescriptor yX9_undo.desc).map (fun d => d.parameters.length) = some 0 := ⟨by decide +kernel, by decide +kernel, by decide +kernel⟩
set_option maxRecDepth 100000 in
set_option maxHeartbeats 4000000 in
theorem wfX9_undo (C : zC p s m args meth c cX9_undo RX9 1 D Ca B En) (hRm : zRm R 6 170 cells slots) (σ : zS) (x0 : Nat) (τ : zS) (r : Int32) (hf : fX9_undo σ x0 = some (τ, r)) (hq : ∀ (pc : Nat) (lv : List (Nat × Value)), decode cX9_undo pc = .ok (.ireturn, 1) → zW p l e R s m args below meth c cells slots Q D Ca B 1 τ N pc lv [.int r]) : zW p l e R s m args below meth c cells slots Q D Ca B 1 σ N 0 [(0, .ref x0)] [] := by
  unfold fX9_undo at hf
  refine z_aload_n C dX9_undo_0 rfl 0 rfl ?_
  obtain ⟨v1, hv1, hf⟩ := zbind hf
  refine gf_RX9_63 C hv1 dX9_undo_1 ?_
  obtain ⟨v2, hv2, hf⟩ := zbind hf
  refine gf_RX9_125 C hv2 dX9_undo_4 ?_
  refine z_if_ne C 18 dX9_undo_7 (by decide) (fun q8 => ?_) (fun q8 => ?_)
  · rw [if_neg q8] at hf
    refine z_aload_n C dX9_undo_18 rfl 0 rfl ?_
    obtain ⟨v3, hv3, hf⟩ := zbind hf
    refine gf_RX9_63 C hv3 dX9_undo_19 ?_
    refine z_aload_n C dX9_undo_22 rfl 0 rfl ?_
    obtain ⟨v4, hv4, hf⟩ := zbind hf
    refine gf_RX9_50 C hv4 dX9_undo_23 ?_
    obtain ⟨c5, hc5, hf⟩ := zbind hf
    obtain ⟨kc5, hc5⟩ := zck_ok hc5
    refine z_callVv (As := [.ref v4]) (F0 := 6) (L0 := 170) C (mX6_giveBack l D Ca B En C.2.2.2.2.2.2.2.1 σ N v3 v4 _ hc5) hRm kc5 rfl kw_742 kw_13 kw_739 kw_740 kw_741 hyX6_giveBack (Nat.le_of_ble_eq_true rfl) (Nat.le_of_ble_eq_true rfl) rfl rfl (Nat.le_of_ble_eq_true rfl) dX9_undo_26 ?_
    refine z_aload_n C dX9_undo_29 rfl 0 rfl ?_
    obtain ⟨v6, hv6, hf⟩ := zbind hf
    refine gf_RX9_63 C hv6 dX9_undo_30 ?_
    obtain ⟨v7, hv7, hf⟩ := zbind hf
    refine gf_RX9_125 C hv7 dX9_undo_33 ?_
    cases hf
    exact hq _ _ dX9_undo_36
  · rw [if_pos q8] at hf
    cases hf

theorem mX9_undo (l : Launch) (D : va_G) (Ca : Nat → ClassId) (B : Nat) (En : State → Prop) (hE : zEk B En) (σ : zS) (N : Nat) (x0 : Nat) (X : zS × Int32) (hf : fX9_undo σ x0 = some X) : zMi l D Ca B En yX9_undo cX9_undo 1 (Option.some Jvm.ClassFile.FieldType.int) 6 170 [.ref x0] σ N X.1 X.2 :=
  zMet_i (own := RX9) hE (by decide +kernel) rfl (Nat.le_of_ble_eq_true rfl) (fun p e s m args below meth c C hr hRm => wfX9_undo C hRm σ x0 X.1 X.2 hf (fun pc lv hd => zfin_i C hr hd))
theorem dX9_completesIn_0 : decode cX9_completesIn 0 = .ok (.iload_n 1, 1) := by decide +kernel
theorem dX9_completesIn_1 : decode cX9_completesIn 1 = .ok (.invokestatic 296, 3) := by decide +kernel
theorem dX9_completesIn_4 : decode cX9_completesIn 4 = .ok (.aload_n 0, 1) := by decide +kernel
theorem dX9_completesIn_5 : decode cX9_completesIn 5 = .ok (.getfield 50, 3) := by decide +kernel
theorem dX9_completesIn_8 : decode cX9_completesIn 8 = .ok (.getfield 227, 3) := by decide +kernel
theorem dX9_completesIn_11 : decode cX9_completesIn 11 = .ok (.invokevirtual 231, 3) := by decide +kernel
theorem dX9_completesIn_14 : decode cX9_completesIn 14 = .ok (.ifCond .ne 5, 3) := by decide +kernel
theorem dX9_completesIn_17 : decode cX9_completesIn 17 = .ok (.iconst (-1), 1) := by decide +kernel
theorem dX9_completesIn_18 : decode cX9_completesIn 18 = .ok (.ireturn, 1) := by decide +kernel
theorem dX9_completesIn_19 : decode cX9_completesIn 19 = .ok (.aload_n 0, 1) := by decide +kernel
theorem dX9_completesIn_20 : decode cX9_completesIn 20 = .ok (.getfield 54, 3) := by decide +kernel
theorem dX9_completesIn_23 : decode cX9_completesIn 23 = .ok (.aload_n 0, 1) := by decide +kernel
theorem dX9_completesIn_24 : decode cX9_completesIn 24 = .ok (.getfield 50, 3) := by decide +kernel
theorem dX9_completesIn_27 : decode cX9_completesIn 27 = .ok (.invokevirtual 325, 3) := by decide +kernel
theorem dX9_completesIn_30 : decode cX9_completesIn 30 = .ok (.aload_n 0, 1) := by decide +kernel
theorem dX9_completesIn_31 : decode cX9_completesIn 31 = .ok (.getfield 54, 3) := by decide +kernel
theorem dX9_completesIn_34 : decode cX9_completesIn 34 = .ok (.iload_n 1, 1) := by decide +kernel
theorem dX9_completesIn_35 : decode cX9_completesIn 35 = .ok (.invokevirtual 328, 3) := by decide +kernel
theorem dX9_completesIn_38 : decode cX9_completesIn 38 = .ok (.ireturn, 1) := by decide +kernel
theorem hyX9_completesIn : yX9_completesIn.cls ≠ "java/lang/invoke/MethodHandle" ∧ yX9_completesIn.cls ≠ "java/lang/invoke/VarHandle" ∧ (parseMethodDescriptor yX9_completesIn.desc).map (fun d => d.parameters.length) = some 1 := ⟨by decide +kernel, by decide +kernel, by decide +kernel⟩
set_option maxRecDepth 100000 in
set_option maxHeartbeats 4000000 in
theorem wfX9_completesIn (C : zC p s m args meth c cX9_completesIn RX9 2 D Ca B En) (hRm : zRm R 7 160 cells slots) (σ : zS) (x0 : Nat) (x1 : Int32) (τ : zS) (r : Int32) (hf : fX9_completesIn σ x0 x1 = some (τ, r)) (hq : ∀ (pc : Nat) (lv : List (Nat × Value)), decode cX9_completesIn pc = .ok (.ireturn, 1) → zW p l e R s m args below meth c cells slots Q D Ca B 2 τ N pc lv [.int r]) : zW p l e R s m args below meth c cells slots Q D Ca B 2 σ N 0 [(0, .ref x0), (1, .int x1)] [] := by
  unfold fX9_completesIn at hf
  refine z_iload_n C dX9_completesIn_0 rfl 1 rfl ?_
  obtain ⟨c1, hc1, hf⟩ := zbind hf
  refine z_callSv (As := [.int x1]) (F0 := 7) (L0 := 160) C (mX9_needTicks l D Ca B En C.2.2.2.2.2.2.2.1 σ N x1 _ hc1) hRm kw_584 kw_1 kw_582 kw_583 hyX9_needTicks (Nat.le_of_ble_eq_true rfl) (Nat.le_of_ble_eq_true rfl) rfl rfl (Nat.le_of_ble_eq_true rfl) dX9_completesIn_1 ?_
  refine z_aload_n C dX9_completesIn_4 rfl 0 rfl ?_
  obtain ⟨v2, hv2, hf⟩ := zbind hf
  refine gf_RX9_50 C hv2 dX9_completesIn_5 ?_
  obtain ⟨v3, hv3, hf⟩ := zbind hf
  refine gf_RX9_227 C hv3 dX9_completesIn_8 ?_
  obtain ⟨c4, hc4, hf⟩ := zbind hf
  obtain ⟨kc4, hc4⟩ := zck_ok hc4
  refine z_callVi (As := []) (F0 := 7) (L0 := 160) C (mX0_exists l D Ca B En C.2.2.2.2.2.2.2.1 c1 N v3  _ hc4) hRm kc4 rfl kw_316 kw_10 kw_550 kw_314 kw_315 hyX0_exists (Nat.le_of_ble_eq_true rfl) (Nat.le_of_ble_eq_true rfl) rfl rfl (Nat.le_of_ble_eq_true rfl) dX9_completesIn_11 ?_
  refine z_if_ne C 19 dX9_completesIn_14 (by decide) (fun q10 => ?_) (fun q10 => ?_)
  · rw [if_neg q10] at hf
    refine z_aload_n C dX9_completesIn_19 rfl 0 rfl ?_
    obtain ⟨v5, hv5, hf⟩ := zbind hf
    refine gf_RX9_54 C hv5 dX9_completesIn_20 ?_
    refine z_aload_n C dX9_completesIn_23 rfl 0 rfl ?_
    obtain ⟨v6, hv6, hf⟩ := zbind hf
    refine gf_RX9_50 C hv6 dX9_completesIn_24 ?_
    obtain ⟨c7, hc7, hf⟩ := zbind hf
    obtain ⟨kc7, hc7⟩ := zck_ok hc7
    refine z_callVv (As := [.ref v6]) (F0 := 7) (L0 := 160) C (mX1_copyFrom l D Ca B En C.2.2.2.2.2.2.2.1 c4.1 N v5 v6 _ hc7) hRm kc7 rfl kw_593 kw_8 kw_747 kw_591 kw_592 hyX1_copyFrom (Nat.le_of_ble_eq_true rfl) (Nat.le_of_ble_eq_true rfl) rfl rfl (Nat.le_of_ble_eq_true rfl) dX9_completesIn_27 ?_
    refine z_aload_n C dX9_completesIn_30 rfl 0 rfl ?_
    obtain ⟨v8, hv8, hf⟩ := zbind hf
    refine gf_RX9_54 C hv8 dX9_completesIn_31 ?_
    refine z_iload_n C dX9_completesIn_34 rfl 1 rfl ?_
    obtain ⟨c9, hc9, hf⟩ := zbind hf
    obtain ⟨kc9, hc9⟩ := zck_ok hc9
    refine z_callVi (As := [.int x1]) (F0 := 7) (L0 := 160) C (mX1_ticksToCompletion l D Ca B En C.2.2.2.2.2.2.2.1 c7 N v8 x1 _ hc9) hRm kc9 rfl kw_751 kw_8 kw_748 kw_749 kw_750 hyX1_ticksToCompletion (Nat.le_of_ble_eq_true rfl) (Nat.le_of_ble_eq_true rfl) rfl rfl (Nat.le_of_ble_eq_true rfl) dX9_completesIn_35 ?_
    cases hf
    exact hq _ _ dX9_completesIn_38
  · rw [if_pos q10] at hf
    refine z_iconst C (zi (-1)) dX9_completesIn_17 (by decide) ?_
    cases hf
    exact hq _ _ dX9_completesIn_18

theorem mX9_completesIn (l : Launch) (D : va_G) (Ca : Nat → ClassId) (B : Nat) (En : State → Prop) (hE : zEk B En) (σ : zS) (N : Nat) (x0 : Nat) (x1 : Int32) (X : zS × Int32) (hf : fX9_completesIn σ x0 x1 = some X) : zMi l D Ca B En yX9_completesIn cX9_completesIn 2 (Option.some Jvm.ClassFile.FieldType.int) 7 160 [.ref x0, .int x1] σ N X.1 X.2 :=
  zMet_i (own := RX9) hE (by decide +kernel) rfl (Nat.le_of_ble_eq_true rfl) (fun p e s m args below meth c C hr hRm => wfX9_completesIn C hRm σ x0 x1 X.1 X.2 hf (fun pc lv hd => zfin_i C hr hd))
theorem dX9_restoreState_0 : decode cX9_restoreState 0 = .ok (.aload_n 0, 1) := by decide +kernel
theorem dX9_restoreState_1 : decode cX9_restoreState 1 = .ok (.getfield 85, 3) := by decide +kernel
theorem dX9_restoreState_4 : decode cX9_restoreState 4 = .ok (.ifCond .ne 11, 3) := by decide +kernel
theorem dX9_restoreState_7 : decode cX9_restoreState 7 = .ok (.new 306, 3) := by decide +kernel
theorem dX9_restoreState_10 : decode cX9_restoreState 10 = .ok (.dup, 1) := by decide +kernel
theorem dX9_restoreState_11 : decode cX9_restoreState 11 = .ok (.invokespecial 308, 3) := by decide +kernel
theorem dX9_restoreState_14 : decode cX9_restoreState 14 = .ok (.athrow, 1) := by decide +kernel
theorem dX9_restoreState_15 : decode cX9_restoreState 15 = .ok (.aload_n 0, 1) := by decide +kernel
theorem dX9_restoreState_16 : decode cX9_restoreState 16 = .ok (.getfield 50, 3) := by decide +kernel
theorem dX9_restoreState_19 : decode cX9_restoreState 19 = .ok (.aload_n 0, 1) := by decide +kernel
theorem dX9_restoreState_20 : decode cX9_restoreState 20 = .ok (.getfield 57, 3) := by decide +kernel
theorem dX9_restoreState_23 : decode cX9_restoreState 23 = .ok (.invokevirtual 325, 3) := by decide +kernel
theorem dX9_restoreState_26 : decode cX9_restoreState 26 = .ok (.aload_n 0, 1) := by decide +kernel
theorem dX9_restoreState_27 : decode cX9_restoreState 27 = .ok (.getfield 63, 3) := by decide +kernel
theorem dX9_restoreState_30 : decode cX9_restoreState 30 = .ok (.invokevirtual 82, 3) := by decide +kernel
theorem dX9_restoreState_33 : decode cX9_restoreState 33 = .ok (.aload_n 0, 1) := by decide +kernel
theorem dX9_restoreState_34 : decode cX9_restoreState 34 = .ok (.getfield 50, 3) := by decide +kernel
theorem dX9_restoreState_37 : decode cX9_restoreState 37 = .ok (.getfield 110, 3) := by decide +kernel
theorem dX9_restoreState_40 : decode cX9_restoreState 40 = .ok (.ireturn, 1) := by decide +kernel
theorem hyX9_restoreState : yX9_restoreState.cls ≠ "java/lang/invoke/MethodHandle" ∧ yX9_restoreState.cls ≠ "java/lang/invoke/VarHandle" ∧ (parseMethodDescriptor yX9_restoreState.desc).map (fun d => d.parameters.length) = some 0 := ⟨by decide +kernel, by decide +kernel, by decide +kernel⟩
set_option maxRecDepth 100000 in
set_option maxHeartbeats 4000000 in
theorem wfX9_restoreState (C : zC p s m args meth c cX9_restoreState RX9 1 D Ca B En) (hRm : zRm R 5 148 cells slots) (σ : zS) (x0 : Nat) (τ : zS) (r : Int32) (hf : fX9_restoreState σ x0 = some (τ, r)) (hq : ∀ (pc : Nat) (lv : List (Nat × Value)), decode cX9_restoreState pc = .ok (.ireturn, 1) → zW p l e R s m args below meth c cells slots Q D Ca B 1 τ N pc lv [.int r]) : zW p l e R s m args below meth c cells slots Q D Ca B 1 σ N 0 [(0, .ref x0)] [] := by
  unfold fX9_restoreState at hf
  refine z_aload_n C dX9_restoreState_0 rfl 0 rfl ?_
  obtain ⟨v1, hv1, hf⟩ := zbind hf
  refine gf_RX9_85 C hv1 dX9_restoreState_1 ?_
  refine z_if_ne C 15 dX9_restoreState_4 (by decide) (fun q9 => ?_) (fun q9 => ?_)
  · rw [if_neg q9] at hf
    refine z_aload_n C dX9_restoreState_15 rfl 0 rfl ?_
    obtain ⟨v2, hv2, hf⟩ := zbind hf
    refine gf_RX9_50 C hv2 dX9_restoreState_16 ?_
    refine z_aload_n C dX9_restoreState_19 rfl 0 rfl ?_
    obtain ⟨v3, hv3, hf⟩ := zbind hf
    refine gf_RX9_57 C hv3 dX9_restoreState_20 ?_
    obtain ⟨c4, hc4, hf⟩ := zbind hf
    obtain ⟨kc4, hc4⟩ := zck_ok hc4
    refine z_callVv (As := [.ref v3]) (F0 := 5) (L0 := 148) C (mX1_copyFrom l D Ca B En C.2.2.2.2.2.2.2.1 σ N v2 v3 _ hc4) hRm kc4 rfl kw_593 kw_8 kw_747 kw_591 kw_592 hyX1_copyFrom (Nat.le_of_ble_eq_true rfl) (Nat.le_of_ble_eq_true rfl) rfl rfl (Nat.le_of_ble_eq_true rfl) dX9_restoreState_23 ?_
    refine z_aload_n C dX9_restoreState_26 rfl 0 rfl ?_
    obtain ⟨v5, hv5, hf⟩ := zbind hf
    refine gf_RX9_63 C hv5 dX9_restoreState_27 ?_
    obtain ⟨c6, hc6, hf⟩ := zbind hf
    obtain ⟨kc6, hc6⟩ := zck_ok hc6
    refine z_callVv (As := []) (F0 := 5) (L0 := 148) C (mX6_forget l D Ca B En C.2.2.2.2.2.2.2.1 c4 N v5  _ hc6) hRm kc6 rfl kw_773 kw_13 kw_770 kw_771 kw_772 hyX6_forget (Nat.le_of_ble_eq_true rfl) (Nat.le_of_ble_eq_true rfl) rfl rfl (Nat.le_of_ble_eq_true rfl) dX9_restoreState_30 ?_
    refine z_aload_n C dX9_restoreState_33 rfl 0 rfl ?_
    obtain ⟨v7, hv7, hf⟩ := zbind hf
    refine gf_RX9_50 C hv7 dX9_restoreState_34 ?_
    obtain ⟨v8, hv8, hf⟩ := zbind hf
    refine gf_RX9_110 C hv8 dX9_restoreState_37 ?_
    cases hf
    exact hq _ _ dX9_restoreState_40
  · rw [if_pos q9] at hf
    cases hf

theorem mX9_restoreState (l : Launch) (D : va_G) (Ca : Nat → ClassId) (B : Nat) (En : State → Prop) (hE : zEk B En) (σ : zS) (N : Nat) (x0 : Nat) (X : zS × Int32) (hf : fX9_restoreState σ x0 = some X) : zMi l D Ca B En yX9_restoreState cX9_restoreState 1 (Option.some Jvm.ClassFile.FieldType.int) 5 148 [.ref x0] σ N X.1 X.2 :=
  zMet_i (own := RX9) hE (by decide +kernel) rfl (Nat.le_of_ble_eq_true rfl) (fun p e s m args below meth c C hr hRm => wfX9_restoreState C hRm σ x0 X.1 X.2 hf (fun pc lv hd => zfin_i C hr hd))
end ZM
