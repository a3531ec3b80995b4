/-! Methods: X9_wouldKeep, X9_saveState -/
section ZM
variable {p : Program} {l : Launch} {e : Env} {R : Room} {s : State} {m : MethodId} {args : Array Value} {below : List Frame} {meth : Method} {c : Code} {cells slots : Nat} {Q : State → Prop} {D : va_G} {Ca : Nat → ClassId} {B : Nat} {En : State → Prop} {N : Nat}
theorem dX9_wouldKeep_0 : decode cX9_wouldKeep 0 = .ok (.aload_n 0, 1) := by decide +kernel
theorem dX9_wouldKeep_1 : decode cX9_wouldKeep 1 = .ok (.getfield 50, 3) := by decide +kernel
theorem dX9_wouldKeep_4 : decode cX9_wouldKeep 4 = .ok (.getfield 227, 3) := by decide +kernel
theorem dX9_wouldKeep_7 : decode cX9_wouldKeep 7 = .ok (.invokevirtual 231, 3) := by decide +kernel
theorem dX9_wouldKeep_10 : decode cX9_wouldKeep 10 = .ok (.ifCond .eq 5, 3) := by decide +kernel
theorem dX9_wouldKeep_13 : decode cX9_wouldKeep 13 = .ok (.iconst (-1), 1) := by decide +kernel
theorem dX9_wouldKeep_14 : decode cX9_wouldKeep 14 = .ok (.ireturn, 1) := by decide +kernel
theorem dX9_wouldKeep_15 : decode cX9_wouldKeep 15 = .ok (.aload_n 0, 1) := by decide +kernel
theorem dX9_wouldKeep_16 : decode cX9_wouldKeep 16 = .ok (.getfield 54, 3) := by decide +kernel
theorem dX9_wouldKeep_19 : decode cX9_wouldKeep 19 = .ok (.aload_n 0, 1) := by decide +kernel
theorem dX9_wouldKeep_20 : decode cX9_wouldKeep 20 = .ok (.getfield 50, 3) := by decide +kernel
theorem dX9_wouldKeep_23 : decode cX9_wouldKeep 23 = .ok (.invokevirtual 325, 3) := by decide +kernel
theorem dX9_wouldKeep_26 : decode cX9_wouldKeep 26 = .ok (.aload_n 0, 1) := by decide +kernel
theorem dX9_wouldKeep_27 : decode cX9_wouldKeep 27 = .ok (.getfield 54, 3) := by decide +kernel
theorem dX9_wouldKeep_30 : decode cX9_wouldKeep 30 = .ok (.iconst 1, 1) := by decide +kernel
theorem dX9_wouldKeep_31 : decode cX9_wouldKeep 31 = .ok (.invokevirtual 309, 3) := by decide +kernel
theorem dX9_wouldKeep_34 : decode cX9_wouldKeep 34 = .ok (.aload_n 0, 1) := by decide +kernel
theorem dX9_wouldKeep_35 : decode cX9_wouldKeep 35 = .ok (.getfield 54, 3) := by decide +kernel
theorem dX9_wouldKeep_38 : decode cX9_wouldKeep 38 = .ok (.sipush 500, 3) := by decide +kernel
theorem dX9_wouldKeep_41 : decode cX9_wouldKeep 41 = .ok (.invokevirtual 328, 3) := by decide +kernel
theorem dX9_wouldKeep_44 : decode cX9_wouldKeep 44 = .ok (.iconst (-1), 1) := by decide +kernel
theorem dX9_wouldKeep_45 : decode cX9_wouldKeep 45 = .ok (.if_icmp .ne 7, 3) := by decide +kernel
theorem dX9_wouldKeep_48 : decode cX9_wouldKeep 48 = .ok (.iconst (-1), 1) := by decide +kernel
theorem dX9_wouldKeep_49 : decode cX9_wouldKeep 49 = .ok (.goto 13, 3) := by decide +kernel
theorem dX9_wouldKeep_52 : decode cX9_wouldKeep 52 = .ok (.aload_n 0, 1) := by decide +kernel
theorem dX9_wouldKeep_53 : decode cX9_wouldKeep 53 = .ok (.getfield 54, 3) := by decide +kernel
theorem dX9_wouldKeep_56 : decode cX9_wouldKeep 56 = .ok (.getfield 258, 3) := by decide +kernel
theorem dX9_wouldKeep_59 : decode cX9_wouldKeep 59 = .ok (.getfield 255, 3) := by decide +kernel
theorem dX9_wouldKeep_62 : decode cX9_wouldKeep 62 = .ok (.ireturn, 1) := by decide +kernel
theorem hyX9_wouldKeep : yX9_wouldKeep.cls ≠ "java/lang/invoke/MethodHandle" ∧ yX9_wouldKeep.cls ≠ "java/lang/invoke/VarHandle" ∧ (parseMethodDescriptor yX9_wouldKeep.desc).map (fun d => d.parameters.length) = some 0 := ⟨by decide +kernel, by decide +kernel, by decide +kernel⟩
set_option maxRecDepth 100000 in
set_option maxHeartbeats 4000000 in
theorem wfX9_wouldKeep (C : zC p s m args meth c cX9_wouldKeep RX9 1 D Ca B En) (hRm : zRm R 7 160 cells slots) (σ : zS) (x0 : Nat) (τ : zS) (r : Int32) (hf : fX9_wouldKeep σ x0 = some (τ, r)) (hq : ∀ (pc : Nat) (lv : List (Nat × Value)), decode cX9_wouldKeep pc = .ok (.ireturn, 1) → zW p l e R s m args below meth c cells slots Q D Ca B 1 τ N pc lv [.int r]) : zW p l e R s m args below meth c cells slots Q D Ca B 1 σ N 0 [(0, .ref x0)] [] := by
  unfold fX9_wouldKeep at hf
  refine z_aload_n C dX9_wouldKeep_0 rfl 0 rfl ?_
  obtain ⟨v1, hv1, hf⟩ := zbind hf
  refine gf_RX9_50 C hv1 dX9_wouldKeep_1 ?_
  obtain ⟨v2, hv2, hf⟩ := zbind hf
  refine gf_RX9_227 C hv2 dX9_wouldKeep_4 ?_
  obtain ⟨c3, hc3, hf⟩ := zbind hf
  obtain ⟨kc3, hc3⟩ := zck_ok hc3
  refine z_callVi (As := []) (F0 := 7) (L0 := 160) C (mX0_exists l D Ca B En C.2.2.2.2.2.2.2.1 σ N v2  _ hc3) hRm kc3 rfl kw_316 kw_10 kw_550 kw_314 kw_315 hyX0_exists (Nat.le_of_ble_eq_true rfl) (Nat.le_of_ble_eq_true rfl) rfl rfl (Nat.le_of_ble_eq_true rfl) dX9_wouldKeep_7 ?_
  refine z_if_eq C 15 dX9_wouldKeep_10 (by decide) (fun q15 => ?_) (fun q15 => ?_)
  · rw [if_pos q15] at hf
    refine z_aload_n C dX9_wouldKeep_15 rfl 0 rfl ?_
    obtain ⟨v4, hv4, hf⟩ := zbind hf
    refine gf_RX9_54 C hv4 dX9_wouldKeep_16 ?_
    refine z_aload_n C dX9_wouldKeep_19 rfl 0 rfl ?_
    obtain ⟨v5, hv5, hf⟩ := zbind hf
    refine gf_RX9_50 C hv5 dX9_wouldKeep_20 ?_
    obtain ⟨c6, hc6, hf⟩ := zbind hf
    obtain ⟨kc6, hc6⟩ := zck_ok hc6
    refine z_callVv (As := [.ref v5]) (F0 := 7) (L0 := 160) C (mX1_copyFrom l D Ca B En C.2.2.2.2.2.2.2.1 c3.1 N v4 v5 _ hc6) hRm kc6 rfl kw_593 kw_8 kw_747 kw_591 kw_592 hyX1_copyFrom (Nat.le_of_ble_eq_true rfl) (Nat.le_of_ble_eq_true rfl) rfl rfl (Nat.le_of_ble_eq_true rfl) dX9_wouldKeep_23 ?_
    refine z_aload_n C dX9_wouldKeep_26 rfl 0 rfl ?_
    obtain ⟨v7, hv7, hf⟩ := zbind hf
    refine gf_RX9_54 C hv7 dX9_wouldKeep_27 ?_
    refine z_iconst C (zi 1) dX9_wouldKeep_30 (by decide) ?_
    obtain ⟨c8, hc8, hf⟩ := zbind hf
    obtain ⟨kc8, hc8⟩ := zck_ok hc8
    refine z_callVv (As := [.int ((zi 1))]) (F0 := 7) (L0 := 160) C (mX1_startCheckpoint l D Ca B En C.2.2.2.2.2.2.2.1 c6 N v7 ((zi 1)) _ hc8) hRm kc8 rfl kw_612 kw_8 kw_757 kw_610 kw_611 hyX1_startCheckpoint (Nat.le_of_ble_eq_true rfl) (Nat.le_of_ble_eq_true rfl) rfl rfl (Nat.le_of_ble_eq_true rfl) dX9_wouldKeep_31 ?_
    refine z_aload_n C dX9_wouldKeep_34 rfl 0 rfl ?_
    obtain ⟨v9, hv9, hf⟩ := zbind hf
    refine gf_RX9_54 C hv9 dX9_wouldKeep_35 ?_
    refine z_sipush C (zi 500) dX9_wouldKeep_38 (by decide) ?_
    obtain ⟨c10, hc10, hf⟩ := zbind hf
    obtain ⟨kc10, hc10⟩ := zck_ok hc10
    refine z_callVi (As := [.int ((zi 500))]) (F0 := 7) (L0 := 160) C (mX1_ticksToCompletion l D Ca B En C.2.2.2.2.2.2.2.1 c8 N v9 ((zi 500)) _ hc10) hRm kc10 rfl kw_751 kw_8 kw_748 kw_749 kw_750 hyX1_ticksToCompletion (Nat.le_of_ble_eq_true rfl) (Nat.le_of_ble_eq_true rfl) rfl rfl (Nat.le_of_ble_eq_true rfl) dX9_wouldKeep_41 ?_
    refine z_iconst C (zi (-1)) dX9_wouldKeep_44 (by decide) ?_
    refine z_icmp_ne C 52 dX9_wouldKeep_45 (by decide) (fun q14 => ?_) (fun q14 => ?_)
    · rw [if_neg q14] at hf
      refine z_aload_n C dX9_wouldKeep_52 rfl 0 rfl ?_
      obtain ⟨v11, hv11, hf⟩ := zbind hf
      refine gf_RX9_54 C hv11 dX9_wouldKeep_53 ?_
      obtain ⟨v12, hv12, hf⟩ := zbind hf
      refine gf_RX9_258 C hv12 dX9_wouldKeep_56 ?_
      obtain ⟨v13, hv13, hf⟩ := zbind hf
      refine gf_RX9_255 C hv13 dX9_wouldKeep_59 ?_
      cases hf
      exact hq _ _ dX9_wouldKeep_62
    · rw [if_pos q14] at hf
      refine z_iconst C (zi (-1)) dX9_wouldKeep_48 (by decide) ?_
      refine z_goto C 62 dX9_wouldKeep_49 (by decide) ?_
      cases hf
      exact hq _ _ dX9_wouldKeep_62
  · rw [if_neg q15] at hf
    refine z_iconst C (zi (-1)) dX9_wouldKeep_13 (by decide) ?_
    cases hf
    exact hq _ _ dX9_wouldKeep_14

theorem mX9_wouldKeep (l : Launch) (D : va_G) (Ca : Nat → ClassId) (B : Nat) (En : State → Prop) (hE : zEk B En) (σ : zS) (N : Nat) (x0 : Nat) (X : zS × Int32) (hf : fX9_wouldKeep σ x0 = some X) : zMi l D Ca B En yX9_wouldKeep cX9_wouldKeep 1 (Option.some Jvm.ClassFile.FieldType.int) 7 160 [.ref x0] σ N X.1 X.2 :=
  zMet_i (own := RX9) hE (by decide +kernel) rfl (Nat.le_of_ble_eq_true rfl) (fun p e s m args below meth c C hr hRm => wfX9_wouldKeep C hRm σ x0 X.1 X.2 hf (fun pc lv hd => zfin_i C hr hd))
theorem dX9_saveState_0 : decode cX9_saveState 0 = .ok (.aload_n 0, 1) := by decide +kernel
theorem dX9_saveState_1 : decode cX9_saveState 1 = .ok (.getfield 57, 3) := by decide +kernel
theorem dX9_saveState_4 : decode cX9_saveState 4 = .ok (.aload_n 0, 1) := by decide +kernel
theorem dX9_saveState_5 : decode cX9_saveState 5 = .ok (.getfield 50, 3) := by decide +kernel
theorem dX9_saveState_8 : decode cX9_saveState 8 = .ok (.invokevirtual 325, 3) := by decide +kernel
theorem dX9_saveState_11 : decode cX9_saveState 11 = .ok (.aload_n 0, 1) := by decide +kernel
theorem dX9_saveState_12 : decode cX9_saveState 12 = .ok (.iconst 1, 1) := by decide +kernel
theorem dX9_saveState_13 : decode cX9_saveState 13 = .ok (.putfield 85, 3) := by decide +kernel
theorem dX9_saveState_16 : decode cX9_saveState 16 = .ok (.aload_n 0, 1) := by decide +kernel
theorem dX9_saveState_17 : decode cX9_saveState 17 = .ok (.getfield 50, 3) := by decide +kernel
theorem dX9_saveState_20 : decode cX9_saveState 20 = .ok (.getfield 110, 3) := by decide +kernel
theorem dX9_saveState_23 : decode cX9_saveState 23 = .ok (.ireturn, 1) := by decide +kernel
theorem hyX9_saveState : yX9_saveState.cls ≠ "java/lang/invoke/MethodHandle" ∧ yX9_saveState.cls ≠ "java/lang/invoke/VarHandle" ∧ (parseMethodDescriptor yX9_saveState.desc).map (fun d => d.parameters.length) = some 0 := ⟨by decide +kernel, by decide +kernel, by decide +kernel⟩
set_option maxRecDepth 100000 in
set_option maxHeartbeats 4000000 in
theorem wfX9_saveState (C : zC p s m args meth c cX9_saveState RX9 1 D Ca B En) (hRm : zRm R 5 148 cells slots) (σ : zS) (x0 : Nat) (τ : zS) (r : Int32) (hf : fX9_saveState σ x0 = some (τ, r)) (hq : ∀ (pc : Nat) (lv : List (Nat × Value)), decode cX9_saveState pc = .ok (.ireturn, 1) → zW p l e R s m args below meth c cells slots Q D Ca B 1 τ N pc lv [.int r]) : zW p l e R s m args below meth c cells slots Q D Ca B 1 σ N 0 [(0, .ref x0)] [] := by
  unfold fX9_saveState at hf
  refine z_aload_n C dX9_saveState_0 rfl 0 rfl ?_
  obtain ⟨v1, hv1, hf⟩ := zbind hf
  refine gf_RX9_57 C hv1 dX9_saveState_1 ?_
  refine z_aload_n C dX9_saveState_4 rfl 0 rfl ?_
  obtain ⟨v2, hv2, hf⟩ := zbind hf
  refine gf_RX9_50 C hv2 dX9_saveState_5 ?_
  obtain ⟨c3, hc3, hf⟩ := zbind hf
  obtain ⟨kc3, hc3⟩ := zck_ok hc3
  refine z_callVv (As := [.ref v2]) (F0 := 5) (L0 := 148) C (mX1_copyFrom l D Ca B En C.2.2.2.2.2.2.2.1 σ N v1 v2 _ hc3) hRm kc3 rfl kw_593 kw_8 kw_747 kw_591 kw_592 hyX1_copyFrom (Nat.le_of_ble_eq_true rfl) (Nat.le_of_ble_eq_true rfl) rfl rfl (Nat.le_of_ble_eq_true rfl) dX9_saveState_8 ?_
  refine z_aload_n C dX9_saveState_11 rfl 0 rfl ?_
  refine z_iconst C (zi 1) dX9_saveState_12 (by decide) ?_
  obtain ⟨σ4, hσ4, hf⟩ := zbind hf
  refine gp_RX9_85 C hσ4 dX9_saveState_13 ?_
  refine z_aload_n C dX9_saveState_16 rfl 0 rfl ?_
  obtain ⟨v5, hv5, hf⟩ := zbind hf
  refine gf_RX9_50 C hv5 dX9_saveState_17 ?_
  obtain ⟨v6, hv6, hf⟩ := zbind hf
  refine gf_RX9_110 C hv6 dX9_saveState_20 ?_
  cases hf
  exact hq _ _ dX9_saveState_23

theorem mX9_saveState (l : Launch) (D : va_G) (Ca : Nat → ClassId) (B : Nat) (En : State → Prop) (hE : zEk B En) (σ : zS) (N : Nat) (x0 : Nat) (X : zS × Int32) (hf : fX9_saveState σ x0 = some X) : zMi l D Ca B En yX9_saveState cX9_saveState 1 (Option.some Jvm.ClassFile.FieldType.int) 5 148 [.ref x0] σ N X.1 X.2 :=
  zMet_i (own := RX9) hE (by decide +kernel) rfl (Nat.le_of_ble_eq_true rfl) (fun p e s m args below meth c C hr hRm => wfX9_saveState C hRm σ x0 X.1 X.2 hf (fun pc lv hd => zfin_i C hr hd))
end ZM
