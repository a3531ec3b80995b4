/-! Methods: X9_begin, X9_rescale, X9_setRoom, X9_setLag, X9_setEvery, X9_undo, X9_completesIn, X9_bestInstances, X9_printSink, X9_restoreState, X10_repeated, X10_skew -/
section ZM
variable {p : Program} {l : Launch} {e : Env} {R : Room} {s : State} {m : MethodId} {args : Array Value} {below : List Frame} {meth : Method} {c : Code} {cells slots : Nat} {Q : State → Prop} {D : va_G} {Ca : Nat → ClassId} {B : Nat} {En : State → Prop} {N : Nat}
theorem dX9_begin_0 : decode cX9_begin 0 = .ok (.aload_n 0, 1) := by decide +kernel
theorem dX9_begin_1 : decode cX9_begin 1 = .ok (.getfield 50, 3) := by decide +kernel
theorem dX9_begin_4 : decode cX9_begin 4 = .ok (.getfield 227, 3) := by decide +kernel
theorem dX9_begin_7 : decode cX9_begin 7 = .ok (.invokevirtual 231, 3) := by decide +kernel
theorem dX9_begin_10 : decode cX9_begin 10 = .ok (.ifCond .eq 11, 3) := by decide +kernel
theorem dX9_begin_13 : decode cX9_begin 13 = .ok (.new 306, 3) := by decide +kernel
theorem dX9_begin_16 : decode cX9_begin 16 = .ok (.dup, 1) := by decide +kernel
theorem dX9_begin_17 : decode cX9_begin 17 = .ok (.invokespecial 308, 3) := by decide +kernel
theorem dX9_begin_20 : decode cX9_begin 20 = .ok (.athrow, 1) := by decide +kernel
theorem dX9_begin_21 : decode cX9_begin 21 = .ok (.aload_n 0, 1) := by decide +kernel
theorem dX9_begin_22 : decode cX9_begin 22 = .ok (.getfield 63, 3) := by decide +kernel
theorem dX9_begin_25 : decode cX9_begin 25 = .ok (.aload_n 0, 1) := by decide +kernel
theorem dX9_begin_26 : decode cX9_begin 26 = .ok (.getfield 50, 3) := by decide +kernel
theorem dX9_begin_29 : decode cX9_begin 29 = .ok (.invokevirtual 299, 3) := by decide +kernel
theorem dX9_begin_32 : decode cX9_begin 32 = .ok (.aload_n 0, 1) := by decide +kernel
theorem dX9_begin_33 : decode cX9_begin 33 = .ok (.getfield 50, 3) := by decide +kernel
theorem dX9_begin_36 : decode cX9_begin 36 = .ok (.iload_n 1, 1) := by decide +kernel
theorem dX9_begin_37 : decode cX9_begin 37 = .ok (.invokevirtual 309, 3) := by decide +kernel
theorem dX9_begin_40 : decode cX9_begin 40 = .ok (.aload_n 0, 1) := by decide +kernel
theorem dX9_begin_41 : decode cX9_begin 41 = .ok (.getfield 50, 3) := by decide +kernel
theorem dX9_begin_44 : decode cX9_begin 44 = .ok (.getfield 227, 3) := by decide +kernel
theorem dX9_begin_47 : decode cX9_begin 47 = .ok (.getfield 237, 3) := by decide +kernel
theorem dX9_begin_50 : decode cX9_begin 50 = .ok (.ireturn, 1) := by decide +kernel
theorem hyX9_begin : yX9_begin.cls ≠ "java/lang/invoke/MethodHandle" ∧ yX9_begin.cls ≠ "java/lang/invoke/VarHandle" ∧ (parseMethodDescriptor yX9_begin.desc).map (fun d => d.parameters.length) = some 1 := ⟨by decide +kernel, by decide +kernel, by decide +kernel⟩
set_option maxRecDepth 100000 in
set_option maxHeartbeats 4000000 in
theorem wfX9_begin (C : zC p s m args meth c cX9_begin RX9 2 D Ca B En) (hRm : zRm R 6 170 cells slots) (σ : zS) (x0 : Nat) (x1 : Int32) (τ : zS) (r : Int32) (hf : fX9_begin σ x0 x1 = some (τ, r)) (hq : ∀ (pc : Nat) (lv : List (Nat × Value)), decode cX9_begin pc = .ok (.ireturn, 1) → zW p l e R s m args below meth c cells slots Q D Ca B 2 τ N pc lv [.int r]) : zW p l e R s m args below meth c cells slots Q D Ca B 2 σ N 0 [(0, .ref x0), (1, .int x1)] [] := by
  unfold fX9_begin at hf
  refine z_aload_n C dX9_begin_0 rfl 0 rfl ?_
  obtain ⟨v1, hv1, hf⟩ := zbind hf
  refine gf_RX9_50 C hv1 dX9_begin_1 ?_
  obtain ⟨v2, hv2, hf⟩ := zbind hf
  refine gf_RX9_227 C hv2 dX9_begin_4 ?_
  obtain ⟨c3, hc3, hf⟩ := zbind hf
  obtain ⟨kc3, hc3⟩ := zck_ok hc3
  refine z_callVi (As := []) (F0 := 6) (L0 := 170) C (mX0_exists l D Ca B En C.2.2.2.2.2.2.2.1 σ N v2  _ hc3) hRm kc3 rfl kw_318 kw_10 kw_717 kw_316 kw_317 hyX0_exists (Nat.le_of_ble_eq_true rfl) (Nat.le_of_ble_eq_true rfl) rfl rfl (Nat.le_of_ble_eq_true rfl) dX9_begin_7 ?_
  refine z_if_eq C 21 dX9_begin_10 (by decide) (fun q12 => ?_) (fun q12 => ?_)
  · rw [if_pos q12] at hf
    refine z_aload_n C dX9_begin_21 rfl 0 rfl ?_
    obtain ⟨v4, hv4, hf⟩ := zbind hf
    refine gf_RX9_63 C hv4 dX9_begin_22 ?_
    refine z_aload_n C dX9_begin_25 rfl 0 rfl ?_
    obtain ⟨v5, hv5, hf⟩ := zbind hf
    refine gf_RX9_50 C hv5 dX9_begin_26 ?_
    obtain ⟨c6, hc6, hf⟩ := zbind hf
    obtain ⟨kc6, hc6⟩ := zck_ok hc6
    refine z_callVv (As := [.ref v5]) (F0 := 6) (L0 := 170) C (mX6_remember l D Ca B En C.2.2.2.2.2.2.2.1 c3.1 N v4 v5 _ hc6) hRm kc6 rfl kw_695 kw_13 kw_692 kw_693 kw_694 hyX6_remember (Nat.le_of_ble_eq_true rfl) (Nat.le_of_ble_eq_true rfl) rfl rfl (Nat.le_of_ble_eq_true rfl) dX9_begin_29 ?_
    refine z_aload_n C dX9_begin_32 rfl 0 rfl ?_
    obtain ⟨v7, hv7, hf⟩ := zbind hf
    refine gf_RX9_50 C hv7 dX9_begin_33 ?_
    refine z_iload_n C dX9_begin_36 rfl 1 rfl ?_
    obtain ⟨c8, hc8, hf⟩ := zbind hf
    obtain ⟨kc8, hc8⟩ := zck_ok hc8
    refine z_callVv (As := [.int x1]) (F0 := 6) (L0 := 170) C (mX1_startCheckpoint l D Ca B En C.2.2.2.2.2.2.2.1 c6 N v7 x1 _ hc8) hRm kc8 rfl kw_722 kw_8 kw_719 kw_720 kw_721 hyX1_startCheckpoint (Nat.le_of_ble_eq_true rfl) (Nat.le_of_ble_eq_true rfl) rfl rfl (Nat.le_of_ble_eq_true rfl) dX9_begin_37 ?_
    refine z_aload_n C dX9_begin_40 rfl 0 rfl ?_
    obtain ⟨v9, hv9, hf⟩ := zbind hf
    refine gf_RX9_50 C hv9 dX9_begin_41 ?_
    obtain ⟨v10, hv10, hf⟩ := zbind hf
    refine gf_RX9_227 C hv10 dX9_begin_44 ?_
    obtain ⟨v11, hv11, hf⟩ := zbind hf
    refine gf_RX9_237 C hv11 dX9_begin_47 ?_
    cases hf
    exact hq _ _ dX9_begin_50
  · rw [if_neg q12] at hf
    cases hf

theorem mX9_begin (l : Launch) (D : va_G) (Ca : Nat → ClassId) (B : Nat) (En : State → Prop) (hE : zEk B En) (σ : zS) (N : Nat) (x0 : Nat) (x1 : Int32) (X : zS × Int32) (hf : fX9_begin σ x0 x1 = some X) : zMi l D Ca B En yX9_begin cX9_begin 2 (Option.some Jvm.ClassFile.FieldType.int) 6 170 [.ref x0, .int x1] σ N X.1 X.2 :=
  zMet_i (own := RX9) hE (by decide +kernel) rfl (Nat.le_of_ble_eq_true rfl) (fun p e s m args below meth c C hr hRm => wfX9_begin C hRm σ x0 x1 X.1 X.2 hf (fun pc lv hd => zfin_i C hr hd))
theorem dX9_rescale_0 : decode cX9_rescale 0 = .ok (.iload_n 1, 1) := by decide +kernel
theorem dX9_rescale_1 : decode cX9_rescale 1 = .ok (.iconst 1, 1) := by decide +kernel
theorem dX9_rescale_2 : decode cX9_rescale 2 = .ok (.if_icmp .lt 8, 3) := by decide +kernel
theorem dX9_rescale_5 : decode cX9_rescale 5 = .ok (.iload_n 1, 1) := by decide +kernel
theorem dX9_rescale_6 : decode cX9_rescale 6 = .ok (.iconst 4, 1) := by decide +kernel
theorem dX9_rescale_7 : decode cX9_rescale 7 = .ok (.if_icmp .le 11, 3) := by decide +kernel
theorem dX9_rescale_10 : decode cX9_rescale 10 = .ok (.new 224, 3) := by decide +kernel
theorem dX9_rescale_13 : decode cX9_rescale 13 = .ok (.dup, 1) := by decide +kernel
theorem dX9_rescale_14 : decode cX9_rescale 14 = .ok (.invokespecial 226, 3) := by decide +kernel
theorem dX9_rescale_17 : decode cX9_rescale 17 = .ok (.athrow, 1) := by decide +kernel
theorem dX9_rescale_18 : decode cX9_rescale 18 = .ok (.aload_n 0, 1) := by decide +kernel
theorem dX9_rescale_19 : decode cX9_rescale 19 = .ok (.getfield 63, 3) := by decide +kernel
theorem dX9_rescale_22 : decode cX9_rescale 22 = .ok (.aload_n 0, 1) := by decide +kernel
theorem dX9_rescale_23 : decode cX9_rescale 23 = .ok (.getfield 50, 3) := by decide +kernel
theorem dX9_rescale_26 : decode cX9_rescale 26 = .ok (.invokevirtual 299, 3) := by decide +kernel
theorem dX9_rescale_29 : decode cX9_rescale 29 = .ok (.aload_n 0, 1) := by decide +kernel
theorem dX9_rescale_30 : decode cX9_rescale 30 = .ok (.getfield 50, 3) := by decide +kernel
theorem dX9_rescale_33 : decode cX9_rescale 33 = .ok (.getfield 98, 3) := by decide +kernel
theorem dX9_rescale_36 : decode cX9_rescale 36 = .ok (.iload_n 1, 1) := by decide +kernel
theorem dX9_rescale_37 : decode cX9_rescale 37 = .ok (.invokestatic 316, 3) := by decide +kernel
theorem dX9_rescale_40 : decode cX9_rescale 40 = .ok (.istore_n 2, 1) := by decide +kernel
theorem dX9_rescale_41 : decode cX9_rescale 41 = .ok (.aload_n 0, 1) := by decide +kernel
theorem dX9_rescale_42 : decode cX9_rescale 42 = .ok (.getfield 50, 3) := by decide +kernel
theorem dX9_rescale_45 : decode cX9_rescale 45 = .ok (.iload_n 1, 1) := by decide +kernel
theorem dX9_rescale_46 : decode cX9_rescale 46 = .ok (.invokevirtual 319, 3) := by decide +kernel
theorem dX9_rescale_49 : decode cX9_rescale 49 = .ok (.iload_n 2, 1) := by decide +kernel
theorem dX9_rescale_50 : decode cX9_rescale 50 = .ok (.ireturn, 1) := by decide +kernel
theorem hyX9_rescale : yX9_rescale.cls ≠ "java/lang/invoke/MethodHandle" ∧ yX9_rescale.cls ≠ "java/lang/invoke/VarHandle" ∧ (parseMethodDescriptor yX9_rescale.desc).map (fun d => d.parameters.length) = some 1 := ⟨by decide +kernel, by decide +kernel, by decide +kernel⟩
set_option maxRecDepth 100000 in
set_option maxHeartbeats 4000000 in
theorem wfX9_rescale (C : zC p s m args meth c cX9_rescale RX9 3 D Ca B En) (hRm : zRm R 6 170 cells slots) (σ : zS) (x0 : Nat) (x1 : Int32) (τ : zS) (r : Int32) (hf : fX9_rescale σ x0 x1 = some (τ, r)) (hq : ∀ (pc : Nat) (lv : List (Nat × Value)), decode cX9_rescale pc = .ok (.ireturn, 1) → zW p l e R s m args below meth c cells slots Q D Ca B 3 τ N pc lv [.int r]) : zW p l e R s m args below meth c cells slots Q D Ca B 3 σ N 0 [(0, .ref x0), (1, .int x1)] [] := by
  unfold fX9_rescale at hf
  refine z_iload_n C dX9_rescale_0 rfl 1 rfl ?_
  refine z_iconst C (zi 1) dX9_rescale_1 (by decide) ?_
  refine z_icmp_lt C 10 dX9_rescale_2 (by decide) (fun q10 => ?_) (fun q10 => ?_)
  · rw [if_pos q10] at hf
    cases hf
  · rw [if_neg q10] at hf
    refine z_iload_n C dX9_rescale_5 rfl 1 rfl ?_
    refine z_iconst C (zi 4) dX9_rescale_6 (by decide) ?_
    refine z_icmp_le C 18 dX9_rescale_7 (by decide) (fun q9 => ?_) (fun q9 => ?_)
    · rw [if_pos q9] at hf
      refine z_aload_n C dX9_rescale_18 rfl 0 rfl ?_
      obtain ⟨v1, hv1, hf⟩ := zbind hf
      refine gf_RX9_63 C hv1 dX9_rescale_19 ?_
      refine z_aload_n C dX9_rescale_22 rfl 0 rfl ?_
      obtain ⟨v2, hv2, hf⟩ := zbind hf
      refine gf_RX9_50 C hv2 dX9_rescale_23 ?_
      obtain ⟨c3, hc3, hf⟩ := zbind hf
      obtain ⟨kc3, hc3⟩ := zck_ok hc3
      refine z_callVv (As := [.ref v2]) (F0 := 6) (L0 := 170) C (mX6_remember l D Ca B En C.2.2.2.2.2.2.2.1 σ N v1 v2 _ hc3) hRm kc3 rfl kw_695 kw_13 kw_692 kw_693 kw_694 hyX6_remember (Nat.le_of_ble_eq_true rfl) (Nat.le_of_ble_eq_true rfl) rfl rfl (Nat.le_of_ble_eq_true rfl) dX9_rescale_26 ?_
      refine z_aload_n C dX9_rescale_29 rfl 0 rfl ?_
      obtain ⟨v4, hv4, hf⟩ := zbind hf
      refine gf_RX9_50 C hv4 dX9_rescale_30 ?_
      obtain ⟨v5, hv5, hf⟩ := zbind hf
      refine gf_RX9_98 C hv5 dX9_rescale_33 ?_
      refine z_iload_n C dX9_rescale_36 rfl 1 rfl ?_
      obtain ⟨c6, hc6, hf⟩ := zbind hf
      refine z_callSi (As := [.int v5, .int x1]) (F0 := 6) (L0 := 170) C (mX9_groupsMoved l D Ca B En C.2.2.2.2.2.2.2.1 c3 N v5 x1 _ hc6) hRm kw_1161 kw_1 kw_1159 kw_1160 hyX9_groupsMoved (Nat.le_of_ble_eq_true rfl) (Nat.le_of_ble_eq_true rfl) rfl rfl (Nat.le_of_ble_eq_true rfl) dX9_rescale_37 ?_
      refine z_istore_n (lv2 := [(2, .int c6.2), (0, .ref x0), (1, .int x1)]) C dX9_rescale_40 rfl (by decide) rfl ?_
      refine z_aload_n C dX9_rescale_41 rfl 1 rfl ?_
      obtain ⟨v7, hv7, hf⟩ := zbind hf
      refine gf_RX9_50 C hv7 dX9_rescale_42 ?_
      refine z_iload_n C dX9_rescale_45 rfl 2 rfl ?_
      obtain ⟨c8, hc8, hf⟩ := zbind hf
      obtain ⟨kc8, hc8⟩ := zck_ok hc8
      refine z_callVv (As := [.int x1]) (F0 := 6) (L0 := 170) C (mX1_recoverWith l D Ca B En C.2.2.2.2.2.2.2.1 c6.1 N v7 x1 _ hc8) hRm kc8 rfl kw_1165 kw_8 kw_1162 kw_1163 kw_1164 hyX1_recoverWith (Nat.le_of_ble_eq_true rfl) (Nat.le_of_ble_eq_true rfl) rfl rfl (Nat.le_of_ble_eq_true rfl) dX9_rescale_46 ?_
      refine z_iload_n C dX9_rescale_49 rfl 0 rfl ?_
      cases hf
      exact hq _ _ dX9_rescale_50
    · rw [if_neg q9] at hf
      cases hf

theorem mX9_rescale (l : Launch) (D : va_G) (Ca : Nat → ClassId) (B : Nat) (En : State → Prop) (hE : zEk B En) (σ : zS) (N : Nat) (x0 : Nat) (x1 : Int32) (X : zS × Int32) (hf : fX9_rescale σ x0 x1 = some X) : zMi l D Ca B En yX9_rescale cX9_rescale 3 (Option.some Jvm.ClassFile.FieldType.int) 6 170 [.ref x0, .int x1] σ N X.1 X.2 :=
  zMet_i (own := RX9) hE (by decide +kernel) rfl (Nat.le_of_ble_eq_true rfl) (fun p e s m args below meth c C hr hRm => wfX9_rescale C hRm σ x0 x1 X.1 X.2 hf (fun pc lv hd => zfin_i C hr hd))
theorem dX9_setRoom_0 : decode cX9_setRoom 0 = .ok (.iload_n 1, 1) := by decide +kernel
theorem dX9_setRoom_1 : decode cX9_setRoom 1 = .ok (.iconst 1, 1) := by decide +kernel
theorem dX9_setRoom_2 : decode cX9_setRoom 2 = .ok (.if_icmp .lt 9, 3) := by decide +kernel
theorem dX9_setRoom_5 : decode cX9_setRoom 5 = .ok (.iload_n 1, 1) := by decide +kernel
theorem dX9_setRoom_6 : decode cX9_setRoom 6 = .ok (.bipush 9, 2) := by decide +kernel
theorem dX9_setRoom_8 : decode cX9_setRoom 8 = .ok (.if_icmp .le 11, 3) := by decide +kernel
theorem dX9_setRoom_11 : decode cX9_setRoom 11 = .ok (.new 224, 3) := by decide +kernel
theorem dX9_setRoom_14 : decode cX9_setRoom 14 = .ok (.dup, 1) := by decide +kernel
theorem dX9_setRoom_15 : decode cX9_setRoom 15 = .ok (.invokespecial 226, 3) := by decide +kernel
theorem dX9_setRoom_18 : decode cX9_setRoom 18 = .ok (.athrow, 1) := by decide +kernel
theorem dX9_setRoom_19 : decode cX9_setRoom 19 = .ok (.aload_n 0, 1) := by decide +kernel
theorem dX9_setRoom_20 : decode cX9_setRoom 20 = .ok (.getfield 63, 3) := by decide +kernel
theorem dX9_setRoom_23 : decode cX9_setRoom 23 = .ok (.aload_n 0, 1) := by decide +kernel
theorem dX9_setRoom_24 : decode cX9_setRoom 24 = .ok (.getfield 50, 3) := by decide +kernel
theorem dX9_setRoom_27 : decode cX9_setRoom 27 = .ok (.invokevirtual 299, 3) := by decide +kernel
theorem dX9_setRoom_30 : decode cX9_setRoom 30 = .ok (.aload_n 0, 1) := by decide +kernel
theorem dX9_setRoom_31 : decode cX9_setRoom 31 = .ok (.getfield 50, 3) := by decide +kernel
theorem dX9_setRoom_34 : decode cX9_setRoom 34 = .ok (.getfield 104, 3) := by decide +kernel
theorem dX9_setRoom_37 : decode cX9_setRoom 37 = .ok (.istore_n 2, 1) := by decide +kernel
theorem dX9_setRoom_38 : decode cX9_setRoom 38 = .ok (.aload_n 0, 1) := by decide +kernel
theorem dX9_setRoom_39 : decode cX9_setRoom 39 = .ok (.getfield 50, 3) := by decide +kernel
theorem dX9_setRoom_42 : decode cX9_setRoom 42 = .ok (.iload_n 1, 1) := by decide +kernel
theorem dX9_setRoom_43 : decode cX9_setRoom 43 = .ok (.putfield 104, 3) := by decide +kernel
theorem dX9_setRoom_46 : decode cX9_setRoom 46 = .ok (.iload_n 2, 1) := by decide +kernel
theorem dX9_setRoom_47 : decode cX9_setRoom 47 = .ok (.ireturn, 1) := by decide +kernel
theorem hyX9_setRoom : yX9_setRoom.cls ≠ "java/lang/invoke/MethodHandle" ∧ yX9_setRoom.cls ≠ "java/lang/invoke/VarHandle" ∧ (parseMethodDescriptor yX9_setRoom.desc).map (fun d => d.parameters.length) = some 1 := ⟨by decide +kernel, by decide +kernel, by decide +kernel⟩
set_option maxRecDepth 100000 in
set_option maxHeartbeats 4000000 in
theorem wfX9_setRoom (C : zC p s m args meth c cX9_setRoom RX9 3 D Ca B En) (hRm : zRm R 6 170 cells slots) (σ : zS) (x0 : Nat) (x1 : Int32) (τ : zS) (r : Int32) (hf : fX9_setRoom σ x0 x1 = some (τ, r)) (hq : ∀ (pc : Nat) (lv : List (Nat × Value)), decode cX9_setRoom pc = .ok (.ireturn, 1) → zW p l e R s m args below meth c cells slots Q D Ca B 3 τ N pc lv [.int r]) : zW p l e R s m args below meth c cells slots Q D Ca B 3 σ N 0 [(0, .ref x0), (1, .int x1)] [] := by
  unfold fX9_setRoom at hf
  refine z_iload_n C dX9_setRoom_0 rfl 1 rfl ?_
  refine z_iconst C (zi 1) dX9_setRoom_1 (by decide) ?_
  refine z_icmp_lt C 11 dX9_setRoom_2 (by decide) (fun q9 => ?_) (fun q9 => ?_)
  · rw [if_pos q9] at hf
    cases hf
  · rw [if_neg q9] at hf
    refine z_iload_n C dX9_setRoom_5 rfl 1 rfl ?_
    refine z_bipush C (zi 9) dX9_setRoom_6 (by decide) ?_
    refine z_icmp_le C 19 dX9_setRoom_8 (by decide) (fun q8 => ?_) (fun q8 => ?_)
    · rw [if_pos q8] at hf
      refine z_aload_n C dX9_setRoom_19 rfl 0 rfl ?_
      obtain ⟨v1, hv1, hf⟩ := zbind hf
      refine gf_RX9_63 C hv1 dX9_setRoom_20 ?_
      refine z_aload_n C dX9_setRoom_23 rfl 0 rfl ?_
      obtain ⟨v2, hv2, hf⟩ := zbind hf
      refine gf_RX9_50 C hv2 dX9_setRoom_24 ?_
      obtain ⟨c3, hc3, hf⟩ := zbind hf
      obtain ⟨kc3, hc3⟩ := zck_ok hc3
      refine z_callVv (As := [.ref v2]) (F0 := 6) (L0 := 170) C (mX6_remember l D Ca B En C.2.2.2.2.2.2.2.1 σ N v1 v2 _ hc3) hRm kc3 rfl kw_695 kw_13 kw_692 kw_693 kw_694 hyX6_remember (Nat.le_of_ble_eq_true rfl) (Nat.le_of_ble_eq_true rfl) rfl rfl (Nat.le_of_ble_eq_true rfl) dX9_setRoom_27 ?_
      refine z_aload_n C dX9_setRoom_30 rfl 0 rfl ?_
      obtain ⟨v4, hv4, hf⟩ := zbind hf
      refine gf_RX9_50 C hv4 dX9_setRoom_31 ?_
      obtain ⟨v5, hv5, hf⟩ := zbind hf
      refine gf_RX9_104 C hv5 dX9_setRoom_34 ?_
      refine z_istore_n (lv2 := [(2, .int v5), (0, .ref x0), (1, .int x1)]) C dX9_setRoom_37 rfl (by decide) rfl ?_
      refine z_aload_n C dX9_setRoom_38 rfl 1 rfl ?_
      obtain ⟨v6, hv6, hf⟩ := zbind hf
      refine gf_RX9_50 C hv6 dX9_setRoom_39 ?_
      refine z_iload_n C dX9_setRoom_42 rfl 2 rfl ?_
      obtain ⟨σ7, hσ7, hf⟩ := zbind hf
      refine gp_RX9_104 C hσ7 dX9_setRoom_43 ?_
      refine z_iload_n C dX9_setRoom_46 rfl 0 rfl ?_
      cases hf
      exact hq _ _ dX9_setRoom_47
    · rw [if_neg q8] at hf
      cases hf

theorem mX9_setRoom (l : Launch) (D : va_G) (Ca : Nat → ClassId) (B : Nat) (En : State → Prop) (hE : zEk B En) (σ : zS) (N : Nat) (x0 : Nat) (x1 : Int32) (X : zS × Int32) (hf : fX9_setRoom σ x0 x1 = some X) : zMi l D Ca B En yX9_setRoom cX9_setRoom 3 (Option.some Jvm.ClassFile.FieldType.int) 6 170 [.ref x0, .int x1] σ N X.1 X.2 :=
  zMet_i (own := RX9) hE (by decide +kernel) rfl (Nat.le_of_ble_eq_true rfl) (fun p e s m args below meth c C hr hRm => wfX9_setRoom C hRm σ x0 x1 X.1 X.2 hf (fun pc lv hd => zfin_i C hr hd))
theorem dX9_setLag_0 : decode cX9_setLag 0 = .ok (.aload_n 0, 1) := by decide +kernel
theorem dX9_setLag_1 : decode cX9_setLag 1 = .ok (.iload_n 1, 1) := by decide +kernel
theorem dX9_setLag_2 : decode cX9_setLag 2 = .ok (.invokevirtual 139, 3) := by decide +kernel
theorem dX9_setLag_5 : decode cX9_setLag 5 = .ok (.iload_n 2, 1) := by decide +kernel
theorem dX9_setLag_6 : decode cX9_setLag 6 = .ok (.ifCond .lt 9, 3) := by decide +kernel
theorem dX9_setLag_9 : decode cX9_setLag 9 = .ok (.iload_n 2, 1) := by decide +kernel
theorem dX9_setLag_10 : decode cX9_setLag 10 = .ok (.bipush 9, 2) := by decide +kernel
theorem dX9_setLag_12 : decode cX9_setLag 12 = .ok (.if_icmp .le 11, 3) := by decide +kernel
theorem dX9_setLag_15 : decode cX9_setLag 15 = .ok (.new 224, 3) := by decide +kernel
theorem dX9_setLag_18 : decode cX9_setLag 18 = .ok (.dup, 1) := by decide +kernel
theorem dX9_setLag_19 : decode cX9_setLag 19 = .ok (.invokespecial 226, 3) := by decide +kernel
theorem dX9_setLag_22 : decode cX9_setLag 22 = .ok (.athrow, 1) := by decide +kernel
theorem dX9_setLag_23 : decode cX9_setLag 23 = .ok (.aload_n 0, 1) := by decide +kernel
theorem dX9_setLag_24 : decode cX9_setLag 24 = .ok (.getfield 63, 3) := by decide +kernel
theorem dX9_setLag_27 : decode cX9_setLag 27 = .ok (.aload_n 0, 1) := by decide +kernel
theorem dX9_setLag_28 : decode cX9_setLag 28 = .ok (.getfield 50, 3) := by decide +kernel
theorem dX9_setLag_31 : decode cX9_setLag 31 = .ok (.invokevirtual 299, 3) := by decide +kernel
theorem dX9_setLag_34 : decode cX9_setLag 34 = .ok (.aload_n 0, 1) := by decide +kernel
theorem dX9_setLag_35 : decode cX9_setLag 35 = .ok (.getfield 50, 3) := by decide +kernel
theorem dX9_setLag_38 : decode cX9_setLag 38 = .ok (.getfield 149, 3) := by decide +kernel
theorem dX9_setLag_41 : decode cX9_setLag 41 = .ok (.iload_n 1, 1) := by decide +kernel
theorem dX9_setLag_42 : decode cX9_setLag 42 = .ok (.iaload, 1) := by decide +kernel
theorem dX9_setLag_43 : decode cX9_setLag 43 = .ok (.istore_n 3, 1) := by decide +kernel
theorem dX9_setLag_44 : decode cX9_setLag 44 = .ok (.aload_n 0, 1) := by decide +kernel
theorem dX9_setLag_45 : decode cX9_setLag 45 = .ok (.getfield 50, 3) := by decide +kernel
theorem dX9_setLag_48 : decode cX9_setLag 48 = .ok (.getfield 149, 3) := by decide +kernel
theorem dX9_setLag_51 : decode cX9_setLag 51 = .ok (.iload_n 1, 1) := by decide +kernel
theorem dX9_setLag_52 : decode cX9_setLag 52 = .ok (.iload_n 2, 1) := by decide +kernel
theorem dX9_setLag_53 : decode cX9_setLag 53 = .ok (.iastore, 1) := by decide +kernel
theorem dX9_setLag_54 : decode cX9_setLag 54 = .ok (.iload_n 3, 1) := by decide +kernel
theorem dX9_setLag_55 : decode cX9_setLag 55 = .ok (.ireturn, 1) := by decide +kernel
theorem hyX9_setLag : yX9_setLag.cls ≠ "java/lang/invoke/MethodHandle" ∧ yX9_setLag.cls ≠ "java/lang/invoke/VarHandle" ∧ (parseMethodDescriptor yX9_setLag.desc).map (fun d => d.parameters.length) = some 2 := ⟨by decide +kernel, by decide +kernel, by decide +kernel⟩
set_option maxRecDepth 100000 in
set_option maxHeartbeats 4000000 in
theorem wfX9_setLag (C : zC p s m args meth c cX9_setLag RX9 4 D Ca B En) (hRm : zRm R 6 170 cells slots) (σ : zS) (x0 : Nat) (x1 : Int32) (x2 : Int32) (τ : zS) (r : Int32) (hf : fX9_setLag σ x0 x1 x2 = some (τ, r)) (hq : ∀ (pc : Nat) (lv : List (Nat × Value)), decode cX9_setLag pc = .ok (.ireturn, 1) → zW p l e R s m args below meth c cells slots Q D Ca B 4 τ N pc lv [.int r]) : zW p l e R s m args below meth c cells slots Q D Ca B 4 σ N 0 [(0, .ref x0), (1, .int x1), (2, .int x2)] [] := by
  unfold fX9_setLag at hf
  refine z_aload_n C dX9_setLag_0 rfl 0 rfl ?_
  refine z_iload_n C dX9_setLag_1 rfl 1 rfl ?_
  obtain ⟨c1, hc1, hf⟩ := zbind hf
  obtain ⟨kc1, hc1⟩ := zck_ok hc1
  refine z_callVv (As := [.int x1]) (F0 := 6) (L0 := 170) C (mX9_needSource l D Ca B En C.2.2.2.2.2.2.2.1 σ N x0 x1 _ hc1) hRm kc1 rfl kw_873 kw_1 kw_870 kw_872 kp_31 hyX9_needSource (Nat.le_of_ble_eq_true rfl) (Nat.le_of_ble_eq_true rfl) rfl rfl (Nat.le_of_ble_eq_true rfl) dX9_setLag_2 ?_
  refine z_iload_n C dX9_setLag_5 rfl 2 rfl ?_
  refine z_if_lt C 15 dX9_setLag_6 (by decide) (fun q12 => ?_) (fun q12 => ?_)
  · rw [if_pos q12] at hf
    cases hf
  · rw [if_neg q12] at hf
    refine z_iload_n C dX9_setLag_9 rfl 2 rfl ?_
    refine z_bipush C (zi 9) dX9_setLag_10 (by decide) ?_
    refine z_icmp_le C 23 dX9_setLag_12 (by decide) (fun q11 => ?_) (fun q11 => ?_)
    · rw [if_pos q11] at hf
      refine z_aload_n C dX9_setLag_23 rfl 0 rfl ?_
      obtain ⟨v2, hv2, hf⟩ := zbind hf
      refine gf_RX9_63 C hv2 dX9_setLag_24 ?_
      refine z_aload_n C dX9_setLag_27 rfl 0 rfl ?_
      obtain ⟨v3, hv3, hf⟩ := zbind hf
      refine gf_RX9_50 C hv3 dX9_setLag_28 ?_
      obtain ⟨c4, hc4, hf⟩ := zbind hf
      obtain ⟨kc4, hc4⟩ := zck_ok hc4
      refine z_callVv (As := [.ref v3]) (F0 := 6) (L0 := 170) C (mX6_remember l D Ca B En C.2.2.2.2.2.2.2.1 c1 N v2 v3 _ hc4) hRm kc4 rfl kw_695 kw_13 kw_692 kw_693 kw_694 hyX6_remember (Nat.le_of_ble_eq_true rfl) (Nat.le_of_ble_eq_true rfl) rfl rfl (Nat.le_of_ble_eq_true rfl) dX9_setLag_31 ?_
      refine z_aload_n C dX9_setLag_34 rfl 0 rfl ?_
      obtain ⟨v5, hv5, hf⟩ := zbind hf
      refine gf_RX9_50 C hv5 dX9_setLag_35 ?_
      obtain ⟨v6, hv6, hf⟩ := zbind hf
      refine gf_RX9_149 C hv6 dX9_setLag_38 ?_
      refine z_iload_n C dX9_setLag_41 rfl 1 rfl ?_
      obtain ⟨v7, hv7, hf⟩ := zbind hf
      refine z_aI C hv7 dX9_setLag_42 ?_
      refine z_istore_n (lv2 := [(3, .int v7), (0, .ref x0), (1, .int x1), (2, .int x2)]) C dX9_setLag_43 rfl (by decide) rfl ?_
      refine z_aload_n C dX9_setLag_44 rfl 1 rfl ?_
      obtain ⟨v8, hv8, hf⟩ := zbind hf
      refine gf_RX9_50 C hv8 dX9_setLag_45 ?_
      obtain ⟨v9, hv9, hf⟩ := zbind hf
      refine gf_RX9_149 C hv9 dX9_setLag_48 ?_
      refine z_iload_n C dX9_setLag_51 rfl 2 rfl ?_
      refine z_iload_n C dX9_setLag_52 rfl 3 rfl ?_
      obtain ⟨σ10, hσ10, hf⟩ := zbind hf
      refine z_sI C hσ10 dX9_setLag_53 ?_
      refine z_iload_n C dX9_setLag_54 rfl 0 rfl ?_
      cases hf
      exact hq _ _ dX9_setLag_55
    · rw [if_neg q11] at hf
      cases hf

theorem mX9_setLag (l : Launch) (D : va_G) (Ca : Nat → ClassId) (B : Nat) (En : State → Prop) (hE : zEk B En) (σ : zS) (N : Nat) (x0 : Nat) (x1 : Int32) (x2 : Int32) (X : zS × Int32) (hf : fX9_setLag σ x0 x1 x2 = some X) : zMi l D Ca B En yX9_setLag cX9_setLag 4 (Option.some Jvm.ClassFile.FieldType.int) 6 170 [.ref x0, .int x1, .int x2] σ N X.1 X.2 :=
  zMet_i (own := RX9) hE (by decide +kernel) rfl (Nat.le_of_ble_eq_true rfl) (fun p e s m args below meth c C hr hRm => wfX9_setLag C hRm σ x0 x1 x2 X.1 X.2 hf (fun pc lv hd => zfin_i C hr hd))
theorem dX9_setEvery_0 : decode cX9_setEvery 0 = .ok (.iload_n 1, 1) := by decide +kernel
theorem dX9_setEvery_1 : decode cX9_setEvery 1 = .ok (.ifCond .lt 9, 3) := by decide +kernel
theorem dX9_setEvery_4 : decode cX9_setEvery 4 = .ok (.iload_n 1, 1) := by decide +kernel
theorem dX9_setEvery_5 : decode cX9_setEvery 5 = .ok (.bipush 99, 2) := by decide +kernel
theorem dX9_setEvery_7 : decode cX9_setEvery 7 = .ok (.if_icmp .le 11, 3) := by decide +kernel
theorem dX9_setEvery_10 : decode cX9_setEvery 10 = .ok (.new 224, 3) := by decide +kernel
theorem dX9_setEvery_13 : decode cX9_setEvery 13 = .ok (.dup, 1) := by decide +kernel
theorem dX9_setEvery_14 : decode cX9_setEvery 14 = .ok (.invokespecial 226, 3) := by decide +kernel
theorem dX9_setEvery_17 : decode cX9_setEvery 17 = .ok (.athrow, 1) := by decide +kernel
theorem dX9_setEvery_18 : decode cX9_setEvery 18 = .ok (.aload_n 0, 1) := by decide +kernel
theorem dX9_setEvery_19 : decode cX9_setEvery 19 = .ok (.getfield 63, 3) := by decide +kernel
theorem dX9_setEvery_22 : decode cX9_setEvery 22 = .ok (.aload_n 0, 1) := by decide +kernel
theorem dX9_setEvery_23 : decode cX9_setEvery 23 = .ok (.getfield 50, 3) := by decide +kernel
theorem dX9_setEvery_26 : decode cX9_setEvery 26 = .ok (.invokevirtual 299, 3) := by decide +kernel
theorem dX9_setEvery_29 : decode cX9_setEvery 29 = .ok (.aload_n 0, 1) := by decide +kernel
theorem dX9_setEvery_30 : decode cX9_setEvery 30 = .ok (.getfield 50, 3) := by decide +kernel
theorem dX9_setEvery_33 : decode cX9_setEvery 33 = .ok (.getfield 107, 3) := by decide +kernel
theorem dX9_setEvery_36 : decode cX9_setEvery 36 = .ok (.istore_n 3, 1) := by decide +kernel
theorem dX9_setEvery_37 : decode cX9_setEvery 37 = .ok (.aload_n 0, 1) := by decide +kernel
theorem dX9_setEvery_38 : decode cX9_setEvery 38 = .ok (.getfield 50, 3) := by decide +kernel
theorem dX9_setEvery_41 : decode cX9_setEvery 41 = .ok (.iload_n 1, 1) := by decide +kernel
theorem dX9_setEvery_42 : decode cX9_setEvery 42 = .ok (.putfield 107, 3) := by decide +kernel
theorem dX9_setEvery_45 : decode cX9_setEvery 45 = .ok (.aload_n 0, 1) := by decide +kernel
theorem dX9_setEvery_46 : decode cX9_setEvery 46 = .ok (.getfield 50, 3) := by decide +kernel
theorem dX9_setEvery_49 : decode cX9_setEvery 49 = .ok (.iload_n 2, 1) := by decide +kernel
theorem dX9_setEvery_50 : decode cX9_setEvery 50 = .ok (.putfield 128, 3) := by decide +kernel
theorem dX9_setEvery_53 : decode cX9_setEvery 53 = .ok (.iload_n 3, 1) := by decide +kernel
theorem dX9_setEvery_54 : decode cX9_setEvery 54 = .ok (.ireturn, 1) := by decide +kernel
theorem hyX9_setEvery : yX9_setEvery.cls ≠ "java/lang/invoke/MethodHandle" ∧ yX9_setEvery.cls ≠ "java/lang/invoke/VarHandle" ∧ (parseMethodDescriptor yX9_setEvery.desc).map (fun d => d.parameters.length) = some 2 := ⟨by decide +kernel, by decide +kernel, by decide +kernel⟩
set_option maxRecDepth 100000 in
set_option maxHeartbeats 4000000 in
theorem wfX9_setEvery (C : zC p s m args meth c cX9_setEvery RX9 4 D Ca B En) (hRm : zRm R 6 170 cells slots) (σ : zS) (x0 : Nat) (x1 : Int32) (x2 : Int32) (τ : zS) (r : Int32) (hf : fX9_setEvery σ x0 x1 x2 = some (τ, r)) (hq : ∀ (pc : Nat) (lv : List (Nat × Value)), decode cX9_setEvery pc = .ok (.ireturn, 1) → zW p l e R s m args below meth c cells slots Q D Ca B 4 τ N pc lv [.int r]) : zW p l e R s m args below meth c cells slots Q D Ca B 4 σ N 0 [(0, .ref x0), (1, .int x1), (2, .int x2)] [] := by
  unfold fX9_setEvery at hf
  refine z_iload_n C dX9_setEvery_0 rfl 1 rfl ?_
  refine z_if_lt C 10 dX9_setEvery_1 (by decide) (fun q11 => ?_) (fun q11 => ?_)
  · rw [if_pos q11] at hf
    cases hf
  · rw [if_neg q11] at hf
    refine z_iload_n C dX9_setEvery_4 rfl 1 rfl ?_
    refine z_bipush C (zi 99) dX9_setEvery_5 (by decide) ?_
    refine z_icmp_le C 18 dX9_setEvery_7 (by decide) (fun q10 => ?_) (fun q10 => ?_)
    · rw [if_pos q10] at hf
      refine z_aload_n C dX9_setEvery_18 rfl 0 rfl ?_
      obtain ⟨v1, hv1, hf⟩ := zbind hf
      refine gf_RX9_63 C hv1 dX9_setEvery_19 ?_
      refine z_aload_n C dX9_setEvery_22 rfl 0 rfl ?_
      obtain ⟨v2, hv2, hf⟩ := zbind hf
      refine gf_RX9_50 C hv2 dX9_setEvery_23 ?_
      obtain ⟨c3, hc3, hf⟩ := zbind hf
      obtain ⟨kc3, hc3⟩ := zck_ok hc3
      refine z_callVv (As := [.ref v2]) (F0 := 6) (L0 := 170) C (mX6_remember l D Ca B En C.2.2.2.2.2.2.2.1 σ N v1 v2 _ hc3) hRm kc3 rfl kw_695 kw_13 kw_692 kw_693 kw_694 hyX6_remember (Nat.le_of_ble_eq_true rfl) (Nat.le_of_ble_eq_true rfl) rfl rfl (Nat.le_of_ble_eq_true rfl) dX9_setEvery_26 ?_
      refine z_aload_n C dX9_setEvery_29 rfl 0 rfl ?_
      obtain ⟨v4, hv4, hf⟩ := zbind hf
      refine gf_RX9_50 C hv4 dX9_setEvery_30 ?_
      obtain ⟨v5, hv5, hf⟩ := zbind hf
      refine gf_RX9_107 C hv5 dX9_setEvery_33 ?_
      refine z_istore_n (lv2 := [(3, .int v5), (0, .ref x0), (1, .int x1), (2, .int x2)]) C dX9_setEvery_36 rfl (by decide) rfl ?_
      refine z_aload_n C dX9_setEvery_37 rfl 1 rfl ?_
      obtain ⟨v6, hv6, hf⟩ := zbind hf
      refine gf_RX9_50 C hv6 dX9_setEvery_38 ?_
      refine z_iload_n C dX9_setEvery_41 rfl 2 rfl ?_
      obtain ⟨σ7, hσ7, hf⟩ := zbind hf
      refine gp_RX9_107 C hσ7 dX9_setEvery_42 ?_
      refine z_aload_n C dX9_setEvery_45 rfl 1 rfl ?_
      obtain ⟨v8, hv8, hf⟩ := zbind hf
      refine gf_RX9_50 C hv8 dX9_setEvery_46 ?_
      refine z_iload_n C dX9_setEvery_49 rfl 3 rfl ?_
      obtain ⟨σ9, hσ9, hf⟩ := zbind hf
      refine gp_RX9_128 C hσ9 dX9_setEvery_50 ?_
      refine z_iload_n C dX9_setEvery_53 rfl 0 rfl ?_
      cases hf
      exact hq _ _ dX9_setEvery_54
    · rw [if_neg q10] at hf
      cases hf

theorem mX9_setEvery (l : Launch) (D : va_G) (Ca : Nat → ClassId) (B : Nat) (En : State → Prop) (hE : zEk B En) (σ : zS) (N : Nat) (x0 : Nat) (x1 : Int32) (x2 : Int32) (X : zS × Int32) (hf : fX9_setEvery σ x0 x1 x2 = some X) : zMi l D Ca B En yX9_setEvery cX9_setEvery 4 (Option.some Jvm.ClassFile.FieldType.int) 6 170 [.ref x0, .int x1, .int x2] σ N X.1 X.2 :=
  zMet_i (own := RX9) hE (by decide +kernel) rfl (Nat.le_of_ble_eq_true rfl) (fun p e s m args below meth c C hr hRm => wfX9_setEvery C hRm σ x0 x1 x2 X.1 X.2 hf (fun pc lv hd => zfin_i C hr hd))
theorem dX9_undo_0 : decode cX9_undo 0 = .ok (.aload_n 0, 1) := by decide +kernel
theorem dX9_undo_1 : decode cX9_undo 1 = .ok (.getfield 63, 3) := by decide +kernel
theorem dX9_undo_4 : decode cX9_undo 4 = .ok (.getfield 125, 3) := by decide +kernel
theorem dX9_undo_7 : decode cX9_undo 7 = .ok (.ifCond .ne 11, 3) := by decide +kernel
theorem dX9_undo_10 : decode cX9_undo 10 = .ok (.new 306, 3) := by decide +kernel
theorem dX9_undo_13 : decode cX9_undo 13 = .ok (.dup, 1) := by decide +kernel
theorem dX9_undo_14 : decode cX9_undo 14 = .ok (.invokespecial 308, 3) := by decide +kernel
theorem dX9_undo_17 : decode cX9_undo 17 = .ok (.athrow, 1) := by decide +kernel
theorem dX9_undo_18 : decode cX9_undo 18 = .ok (.aload_n 0, 1) := by decide +kernel
theorem dX9_undo_19 : decode cX9_undo 19 = .ok (.getfield 63, 3) := by decide +kernel
theorem dX9_undo_22 : decode cX9_undo 22 = .ok (.aload_n 0, 1) := by decide +kernel
theorem dX9_undo_23 : decode cX9_undo 23 = .ok (.getfield 50, 3) := by decide +kernel
theorem dX9_undo_26 : decode cX9_undo 26 = .ok (.invokevirtual 322, 3) := by decide +kernel
theorem dX9_undo_29 : decode cX9_undo 29 = .ok (.aload_n 0, 1) := by decide +kernel
theorem dX9_undo_30 : decode cX9_undo 30 = .ok (.getfield 63, 3) := by decide +kernel
theorem dX9_undo_33 : decode cX9_undo 33 = .ok (.getfield 125, 3) := by decide +kernel
theorem dX9_undo_36 : decode cX9_undo 36 = .ok (.ireturn, 1) := by decide +kernel
theorem hyX9_undo : yX9_undo.cls ≠ "java/lang/invoke/MethodHandle" ∧ yX9_undo.cls ≠ "java/lang/invoke/VarHandle" ∧ (parseMethodDescriptor yX9_undo.desc).map (fun d => d.parameters.length) = some 0 := ⟨by decide +kernel, by decide +kernel, by decide +kernel⟩
set_option maxRecDepth 100000 in
set_option maxHeartbeats 4000000 in
theorem wfX9_undo (C : zC p s m args meth c cX9_undo RX9 1 D Ca B En) (hRm : zRm R 6 170 cells slots) (σ : zS) (x0 : Nat) (τ : zS) (r : Int32) (hf : fX9_undo σ x0 = some (τ, r)) (hq : ∀ (pc : Nat) (lv : List (Nat × Value)), decode cX9_undo pc = .ok (.ireturn, 1) → zW p l e R s m args below meth c cells slots Q D Ca B 1 τ N pc lv [.int r]) : zW p l e R s m args below meth c cells slots Q D Ca B 1 σ N 0 [(0, .ref x0)] [] := by
  unfold fX9_undo at hf
  refine z_aload_n C dX9_undo_0 rfl 0 rfl ?_
  obtain ⟨v1, hv1, hf⟩ := zbind hf
  refine gf_RX9_63 C hv1 dX9_undo_1 ?_
  obtain ⟨v2, hv2, hf⟩ := zbind hf
  refine gf_RX9_125 C hv2 dX9_undo_4 ?_
  refine z_if_ne C 18 dX9_undo_7 (by decide) (fun q8 => ?_) (fun q8 => ?_)
  · rw [if_neg q8] at hf
    refine z_aload_n C dX9_undo_18 rfl 0 rfl ?_
    obtain ⟨v3, hv3, hf⟩ := zbind hf
    refine gf_RX9_63 C hv3 dX9_undo_19 ?_
    refine z_aload_n C dX9_undo_22 rfl 0 rfl ?_
    obtain ⟨v4, hv4, hf⟩ := zbind hf
    refine gf_RX9_50 C hv4 dX9_undo_23 ?_
    obtain ⟨c5, hc5, hf⟩ := zbind hf
    obtain ⟨kc5, hc5⟩ := zck_ok hc5
    refine z_callVv (As := [.ref v4]) (F0 := 6) (L0 := 170) C (mX6_giveBack l D Ca B En C.2.2.2.2.2.2.2.1 σ N v3 v4 _ hc5) hRm kc5 rfl kw_1207 kw_13 kw_1204 kw_1205 kw_1206 hyX6_giveBack (Nat.le_of_ble_eq_true rfl) (Nat.le_of_ble_eq_true rfl) rfl rfl (Nat.le_of_ble_eq_true rfl) dX9_undo_26 ?_
    refine z_aload_n C dX9_undo_29 rfl 0 rfl ?_
    obtain ⟨v6, hv6, hf⟩ := zbind hf
    refine gf_RX9_63 C hv6 dX9_undo_30 ?_
    obtain ⟨v7, hv7, hf⟩ := zbind hf
    refine gf_RX9_125 C hv7 dX9_undo_33 ?_
    cases hf
    exact hq _ _ dX9_undo_36
  · rw [if_pos q8] at hf
    cases hf

theorem mX9_undo (l : Launch) (D : va_G) (Ca : Nat → ClassId) (B : Nat) (En : State → Prop) (hE : zEk B En) (σ : zS) (N : Nat) (x0 : Nat) (X : zS × Int32) (hf : fX9_undo σ x0 = some X) : zMi l D Ca B En yX9_undo cX9_undo 1 (Option.some Jvm.ClassFile.FieldType.int) 6 170 [.ref x0] σ N X.1 X.2 :=
  zMet_i (own := RX9) hE (by decide +kernel) rfl (Nat.le_of_ble_eq_true rfl) (fun p e s m args below meth c C hr hRm => wfX9_undo C hRm σ x0 X.1 X.2 hf (fun pc lv hd => zfin_i C hr hd))
theorem dX9_completesIn_0 : decode cX9_completesIn 0 = .ok (.iload_n 1, 1) := by decide +kernel
theorem dX9_completesIn_1 : decode cX9_completesIn 1 = .ok (.invokestatic 296, 3) := by decide +kernel
theorem dX9_completesIn_4 : decode cX9_completesIn 4 = .ok (.aload_n 0, 1) := by decide +kernel
theorem dX9_completesIn_5 : decode cX9_completesIn 5 = .ok (.getfield 50, 3) := by decide +kernel
theorem dX9_completesIn_8 : decode cX9_completesIn 8 = .ok (.getfield 227, 3) := by decide +kernel
theorem dX9_completesIn_11 : decode cX9_completesIn 11 = .ok (.invokevirtual 231, 3) := by decide +kernel
theorem dX9_completesIn_14 : decode cX9_completesIn 14 = .ok (.ifCond .ne 5, 3) := by decide +kernel
theorem dX9_completesIn_17 : decode cX9_completesIn 17 = .ok (.iconst (-1), 1) := by decide +kernel
theorem dX9_completesIn_18 : decode cX9_completesIn 18 = .ok (.ireturn, 1) := by decide +kernel
theorem dX9_completesIn_19 : decode cX9_completesIn 19 = .ok (.aload_n 0, 1) := by decide +kernel
theorem dX9_completesIn_20 : decode cX9_completesIn 20 = .ok (.getfield 54, 3) := by decide +kernel
theorem dX9_completesIn_23 : decode cX9_completesIn 23 = .ok (.aload_n 0, 1) := by decide +kernel
theorem dX9_completesIn_24 : decode cX9_completesIn 24 = .ok (.getfield 50, 3) := by decide +kernel
theorem dX9_completesIn_27 : decode cX9_completesIn 27 = .ok (.invokevirtual 325, 3) := by decide +kernel
theorem dX9_completesIn_30 : decode cX9_completesIn 30 = .ok (.aload_n 0, 1) := by decide +kernel
theorem dX9_completesIn_31 : decode cX9_completesIn 31 = .ok (.getfield 54, 3) := by decide +kernel
theorem dX9_completesIn_34 : decode cX9_completesIn 34 = .ok (.iload_n 1, 1) := by decide +kernel
theorem dX9_completesIn_35 : decode cX9_completesIn 35 = .ok (.invokevirtual 328, 3) := by decide +kernel
theorem dX9_completesIn_38 : decode cX9_completesIn 38 = .ok (.ireturn, 1) := by decide +kernel
theorem hyX9_completesIn : yX9_completesIn.cls ≠ "java/lang/invoke/MethodHandle" ∧ yX9_completesIn.cls ≠ "java/lang/invoke/VarHandle" ∧ (parseMethodDescriptor yX9_completesIn.desc).map (fun d => d.parameters.length) = some 1 := ⟨by decide +kernel, by decide +kernel, by decide +kernel⟩
set_option maxRecDepth 100000 in
set_option maxHeartbeats 4000000 in
theorem wfX9_completesIn (C : zC p s m args meth c cX9_completesIn RX9 2 D Ca B En) (hRm : zRm R 7 160 cells slots) (σ : zS) (x0 : Nat) (x1 : Int32) (τ : zS) (r : Int32) (hf : fX9_completesIn σ x0 x1 = some (τ, r)) (hq : ∀ (pc : Nat) (lv : List (Nat × Value)), decode cX9_completesIn pc = .ok (.ireturn, 1) → zW p l e R s m args below meth c cells slots Q D Ca B 2 τ N pc lv [.int r]) : zW p l e R s m args below meth c cells slots Q D Ca B 2 σ N 0 [(0, .ref x0), (1, .int x1)] [] := by
  unfold fX9_completesIn at hf
  refine z_iload_n C dX9_completesIn_0 rfl 1 rfl ?_
  obtain ⟨c1, hc1, hf⟩ := zbind hf
  refine z_callSv (As := [.int x1]) (F0 := 7) (L0 := 160) C (mX9_needTicks l D Ca B En C.2.2.2.2.2.2.2.1 σ N x1 _ hc1) hRm kw_1128 kw_1 kw_1126 kw_1127 hyX9_needTicks (Nat.le_of_ble_eq_true rfl) (Nat.le_of_ble_eq_true rfl) rfl rfl (Nat.le_of_ble_eq_true rfl) dX9_completesIn_1 ?_
  refine z_aload_n C dX9_completesIn_4 rfl 0 rfl ?_
  obtain ⟨v2, hv2, hf⟩ := zbind hf
  refine gf_RX9_50 C hv2 dX9_completesIn_5 ?_
  obtain ⟨v3, hv3, hf⟩ := zbind hf
  refine gf_RX9_227 C hv3 dX9_completesIn_8 ?_
  obtain ⟨c4, hc4, hf⟩ := zbind hf
  obtain ⟨kc4, hc4⟩ := zck_ok hc4
  refine z_callVi (As := []) (F0 := 7) (L0 := 160) C (mX0_exists l D Ca B En C.2.2.2.2.2.2.2.1 c1 N v3  _ hc4) hRm kc4 rfl kw_318 kw_10 kw_717 kw_316 kw_317 hyX0_exists (Nat.le_of_ble_eq_true rfl) (Nat.le_of_ble_eq_true rfl) rfl rfl (Nat.le_of_ble_eq_true rfl) dX9_completesIn_11 ?_
  refine z_if_ne C 19 dX9_completesIn_14 (by decide) (fun q10 => ?_) (fun q10 => ?_)
  · rw [if_neg q10] at hf
    refine z_aload_n C dX9_completesIn_19 rfl 0 rfl ?_
    obtain ⟨v5, hv5, hf⟩ := zbind hf
    refine gf_RX9_54 C hv5 dX9_completesIn_20 ?_
    refine z_aload_n C dX9_completesIn_23 rfl 0 rfl ?_
    obtain ⟨v6, hv6, hf⟩ := zbind hf
    refine gf_RX9_50 C hv6 dX9_completesIn_24 ?_
    obtain ⟨c7, hc7, hf⟩ := zbind hf
    obtain ⟨kc7, hc7⟩ := zck_ok hc7
    refine z_callVv (As := [.ref v6]) (F0 := 7) (L0 := 160) C (mX1_copyFrom l D Ca B En C.2.2.2.2.2.2.2.1 c4.1 N v5 v6 _ hc7) hRm kc7 rfl kw_700 kw_8 kw_718 kw_698 kw_699 hyX1_copyFrom (Nat.le_of_ble_eq_true rfl) (Nat.le_of_ble_eq_true rfl) rfl rfl (Nat.le_of_ble_eq_true rfl) dX9_completesIn_27 ?_
    refine z_aload_n C dX9_completesIn_30 rfl 0 rfl ?_
    obtain ⟨v8, hv8, hf⟩ := zbind hf
    refine gf_RX9_54 C hv8 dX9_completesIn_31 ?_
    refine z_iload_n C dX9_completesIn_34 rfl 1 rfl ?_
    obtain ⟨c9, hc9, hf⟩ := zbind hf
    obtain ⟨kc9, hc9⟩ := zck_ok hc9
    refine z_callVi (As := [.int x1]) (F0 := 7) (L0 := 160) C (mX1_ticksToCompletion l D Ca B En C.2.2.2.2.2.2.2.1 c7 N v8 x1 _ hc9) hRm kc9 rfl kw_732 kw_8 kw_729 kw_730 kw_731 hyX1_ticksToCompletion (Nat.le_of_ble_eq_true rfl) (Nat.le_of_ble_eq_true rfl) rfl rfl (Nat.le_of_ble_eq_true rfl) dX9_completesIn_35 ?_
    cases hf
    exact hq _ _ dX9_completesIn_38
  · rw [if_pos q10] at hf
    refine z_iconst C (zi (-1)) dX9_completesIn_17 (by decide) ?_
    cases hf
    exact hq _ _ dX9_completesIn_18

theorem mX9_completesIn (l : Launch) (D : va_G) (Ca : Nat → ClassId) (B : Nat) (En : State → Prop) (hE : zEk B En) (σ : zS) (N : Nat) (x0 : Nat) (x1 : Int32) (X : zS × Int32) (hf : fX9_completesIn σ x0 x1 = some X) : zMi l D Ca B En yX9_completesIn cX9_completesIn 2 (Option.some Jvm.ClassFile.FieldType.int) 7 160 [.ref x0, .int x1] σ N X.1 X.2 :=
  zMet_i (own := RX9) hE (by decide +kernel) rfl (Nat.le_of_ble_eq_true rfl) (fun p e s m args below meth c C hr hRm => wfX9_completesIn C hRm σ x0 x1 X.1 X.2 hf (fun pc lv hd => zfin_i C hr hd))
theorem dX9_bestInstances_0 : decode cX9_bestInstances 0 = .ok (.iload_n 1, 1) := by decide +kernel
theorem dX9_bestInstances_1 : decode cX9_bestInstances 1 = .ok (.invokestatic 296, 3) := by decide +kernel
theorem dX9_bestInstances_4 : decode cX9_bestInstances 4 = .ok (.iconst 1, 1) := by decide +kernel
theorem dX9_bestInstances_5 : decode cX9_bestInstances 5 = .ok (.istore_n 2, 1) := by decide +kernel
theorem dX9_bestInstances_6 : decode cX9_bestInstances 6 = .ok (.iconst (-1), 1) := by decide +kernel
theorem dX9_bestInstances_7 : decode cX9_bestInstances 7 = .ok (.istore_n 3, 1) := by decide +kernel
theorem dX9_bestInstances_8 : decode cX9_bestInstances 8 = .ok (.iconst 1, 1) := by decide +kernel
theorem dX9_bestInstances_9 : decode cX9_bestInstances 9 = .ok (.istore 4, 2) := by decide +kernel
theorem dX9_bestInstances_11 : decode cX9_bestInstances 11 = .ok (.iload 4, 2) := by decide +kernel
theorem dX9_bestInstances_13 : decode cX9_bestInstances 13 = .ok (.iconst 4, 1) := by decide +kernel
theorem dX9_bestInstances_14 : decode cX9_bestInstances 14 = .ok (.if_icmp .gt 72, 3) := by decide +kernel
theorem dX9_bestInstances_17 : decode cX9_bestInstances 17 = .ok (.aload_n 0, 1) := by decide +kernel
theorem dX9_bestInstances_18 : decode cX9_bestInstances 18 = .ok (.getfield 54, 3) := by decide +kernel
theorem dX9_bestInstances_21 : decode cX9_bestInstances 21 = .ok (.aload_n 0, 1) := by decide +kernel
theorem dX9_bestInstances_22 : decode cX9_bestInstances 22 = .ok (.getfield 50, 3) := by decide +kernel
theorem dX9_bestInstances_25 : decode cX9_bestInstances 25 = .ok (.invokevirtual 325, 3) := by decide +kernel
theorem dX9_bestInstances_28 : decode cX9_bestInstances 28 = .ok (.aload_n 0, 1) := by decide +kernel
theorem dX9_bestInstances_29 : decode cX9_bestInstances 29 = .ok (.getfield 54, 3) := by decide +kernel
theorem dX9_bestInstances_32 : decode cX9_bestInstances 32 = .ok (.iload 4, 2) := by decide +kernel
theorem dX9_bestInstances_34 : decode cX9_bestInstances 34 = .ok (.invokevirtual 319, 3) := by decide +kernel
theorem dX9_bestInstances_37 : decode cX9_bestInstances 37 = .ok (.iconst 0, 1) := by decide +kernel
theorem dX9_bestInstances_38 : decode cX9_bestInstances 38 = .ok (.istore 5, 2) := by decide +kernel
theorem dX9_bestInstances_40 : decode cX9_bestInstances 40 = .ok (.iload 5, 2) := by decide +kernel
theorem dX9_bestInstances_42 : decode cX9_bestInstances 42 = .ok (.iload_n 1, 1) := by decide +kernel
theorem dX9_bestInstances_43 : decode cX9_bestInstances 43 = .ok (.if_icmp .ge 16, 3) := by decide +kernel
theorem dX9_bestInstances_46 : decode cX9_bestInstances 46 = .ok (.aload_n 0, 1) := by decide +kernel
theorem dX9_bestInstances_47 : decode cX9_bestInstances 47 = .ok (.getfield 54, 3) := by decide +kernel
theorem dX9_bestInstances_50 : decode cX9_bestInstances 50 = .ok (.invokevirtual 303, 3) := by decide +kernel
theorem dX9_bestInstances_53 : decode cX9_bestInstances 53 = .ok (.iinc 5 1, 3) := by decide +kernel
theorem dX9_bestInstances_56 : decode cX9_bestInstances 56 = .ok (.goto (-16), 3) := by decide +kernel
theorem dX9_bestInstances_59 : decode cX9_bestInstances 59 = .ok (.aload_n 0, 1) := by decide +kernel
theorem dX9_bestInstances_60 : decode cX9_bestInstances 60 = .ok (.getfield 54, 3) := by decide +kernel
theorem dX9_bestInstances_63 : decode cX9_bestInstances 63 = .ok (.invokevirtual 293, 3) := by decide +kernel
theorem dX9_bestInstances_66 : decode cX9_bestInstances 66 = .ok (.istore 5, 2) := by decide +kernel
theorem dX9_bestInstances_68 : decode cX9_bestInstances 68 = .ok (.iload 5, 2) := by decide +kernel
theorem dX9_bestInstances_70 : decode cX9_bestInstances 70 = .ok (.iload_n 3, 1) := by decide +kernel
theorem dX9_bestInstances_71 : decode cX9_bestInstances 71 = .ok (.if_icmp .le 9, 3) := by decide +kernel
theorem dX9_bestInstances_74 : decode cX9_bestInstances 74 = .ok (.iload 5, 2) := by decide +kernel
theorem dX9_bestInstances_76 : decode cX9_bestInstances 76 = .ok (.istore_n 3, 1) := by decide +kernel
theorem dX9_bestInstances_77 : decode cX9_bestInstances 77 = .ok (.iload 4, 2) := by decide +kernel
theorem dX9_bestInstances_79 : decode cX9_bestInstances 79 = .ok (.istore_n 2, 1) := by decide +kernel
theorem dX9_bestInstances_80 : decode cX9_bestInstances 80 = .ok (.iinc 4 1, 3) := by decide +kernel
theorem dX9_bestInstances_83 : decode cX9_bestInstances 83 = .ok (.goto (-72), 3) := by decide +kernel
theorem dX9_bestInstances_86 : decode cX9_bestInstances 86 = .ok (.iload_n 2, 1) := by decide +kernel
theorem dX9_bestInstances_87 : decode cX9_bestInstances 87 = .ok (.ireturn, 1) := by decide +kernel
theorem hyX9_bestInstances : yX9_bestInstances.cls ≠ "java/lang/invoke/MethodHandle" ∧ yX9_bestInstances.cls ≠ "java/lang/invoke/VarHandle" ∧ (parseMethodDescriptor yX9_bestInstances.desc).map (fun d => d.parameters.length) = some 1 := ⟨by decide +kernel, by decide +kernel, by decide +kernel⟩
set_option maxRecDepth 100000 in
set_option maxHeartbeats 4000000 in
theorem wsX9_bestInstances_40b (C : zC p s m args meth c cX9_bestInstances RX9 6 D Ca B En) (hRm : zRm R 6 150 cells slots) (x0 : Nat) (x1 : Int32) (x2 : Int32) (x3 : Int32) (x4 : Int32) (σ : zS) (u5 : Int32) (y : (zS × Int32) ⊕ zS) (hf : sX9_bestInstances_40b x0 x1 x2 x3 x4 σ u5 = some y) (hk : (∀ z : (zS × Int32), y = .inl z → zW p l e R s m args below meth c cells slots Q D Ca B 6 z.1 N 40 [(0, .ref x0), (1, .int x1), (2, .int x2), (3, .int x3), (4, .int x4), (5, .int z.2)] []) ∧ (∀ z : zS, y = .inr z → zW p l e R s m args below meth c cells slots Q D Ca B 6 z N 59 [(0, .ref x0), (1, .int x1), (2, .int x2), (3, .int x3), (4, .int x4)] [])) : zW p l e R s m args below meth c cells slots Q D Ca B 6 σ N 40 [(0, .ref x0), (1, .int x1), (2, .int x2), (3, .int x3), (4, .int x4), (5, .int u5)] [] := by
  unfold sX9_bestInstances_40b at hf
  refine z_iload C dX9_bestInstances_40 5 rfl ?_
  refine z_iload_n C dX9_bestInstances_42 rfl 1 rfl ?_
  refine z_icmp_ge C 59 dX9_bestInstances_43 (by decide) (fun q9 => ?_) (fun q9 => ?_)
  · rw [if_pos q9] at hf
    cases hf
    refine z_sub [0, 1, 2, 3, 4] rfl ?_
    exact hk.2 _ rfl
  · rw [if_neg q9] at hf
    refine z_aload_n C dX9_bestInstances_46 rfl 0 rfl ?_
    obtain ⟨v7, hv7, hf⟩ := zbind hf
    refine gf_RX9_54 C hv7 dX9_bestInstances_47 ?_
    obtain ⟨c8, hc8, hf⟩ := zbind hf
    obtain ⟨kc8, hc8⟩ := zck_ok hc8
    refine z_callVv (As := []) (F0 := 6) (L0 := 150) C (mX1_tick l D Ca B En C.2.2.2.2.2.2.2.1 σ N v7  _ hc8) hRm kc8 rfl kw_736 kw_8 kw_853 kw_734 kw_735 hyX1_tick (Nat.le_of_ble_eq_true rfl) (Nat.le_of_ble_eq_true rfl) rfl rfl (Nat.le_of_ble_eq_true rfl) dX9_bestInstances_50 ?_
    refine z_iinc (lv2 := [(5, .int (u5 + (zi 1))), (0, .ref x0), (1, .int x1), (2, .int x2), (3, .int x3), (4, .int x4)]) C (u5 + (zi 1)) dX9_bestInstances_53 5 rfl rfl (by decide) rfl ?_
    refine z_goto C 40 dX9_bestInstances_56 (by decide) ?_
    cases hf
    refine z_sub [1, 2, 3, 4, 5, 0] rfl ?_
    exact hk.1 _ rfl

theorem wsX9_bestInstances_40 (C : zC p s m args meth c cX9_bestInstances RX9 6 D Ca B En) (hRm : zRm R 6 150 cells slots) (x0 : Nat) (x1 : Int32) (x2 : Int32) (x3 : Int32) (x4 : Int32) (n : Nat) (z : (zS × Int32)) (x : zS) (hf : zloop (sX9_bestInstances_40 x0 x1 x2 x3 x4) n z = some x) (hk : (∀ o : zS, x = o → zW p l e R s m args below meth c cells slots Q D Ca B 6 o N 59 [(0, .ref x0), (1, .int x1), (2, .int x2), (3, .int x3), (4, .int x4)] [])) : zW p l e R s m args below meth c cells slots Q D Ca B 6 z.1 N 40 [(0, .ref x0), (1, .int x1), (2, .int x2), (3, .int x3), (4, .int x4), (5, .int z.2)] [] := by
  refine zloop_W (P := fun z : (zS × Int32) => zW p l e R s m args below meth c cells slots Q D Ca B 6 z.1 N 40 [(0, .ref x0), (1, .int x1), (2, .int x2), (3, .int x3), (4, .int x4), (5, .int z.2)] []) (K := fun x : zS => (∀ o : zS, x = o → zW p l e R s m args below meth c cells slots Q D Ca B 6 o N 59 [(0, .ref x0), (1, .int x1), (2, .int x2), (3, .int x3), (4, .int x4)] [])) ?_ n z x hf hk
  intro z y hy h1 h2
  refine wsX9_bestInstances_40b C hRm x0 x1 x2 x3 x4 z.1 z.2 y hy ⟨fun z2 e => h1 z2 e, fun o e => (h2 _ e) o rfl⟩
set_option maxRecDepth 100000 in
set_option maxHeartbeats 4000000 in
theorem wjX9_bestInstances_80_L11 (C : zC p s m args meth c cX9_bestInstances RX9 6 D Ca B En) (hRm : zRm R 6 150 cells slots) (σ : zS) (x0 : Nat) (x1 : Int32) (x2 : Int32) (x3 : Int32) (x4 : Int32)  (y : (zS × Int32 × Int32 × Int32) ⊕ (zS × Int32)) (hf : jX9_bestInstances_80_L11 σ x0 x1 x2 x3 x4  = some y) (hk : (∀ z : (zS × Int32 × Int32 × Int32), y = .inl z → zW p l e R s m args below meth c cells slots Q D Ca B 6 z.1 N 11 [(0, .ref x0), (1, .int x1), (2, .int z.2.1), (3, .int z.2.2.1), (4, .int z.2.2.2)] []) ∧ (∀ z : (zS × Int32), y = .inr z → zW p l e R s m args below meth c cells slots Q D Ca B 6 z.1 N 86 [(2, .int z.2)] [])) : zW p l e R s m args below meth c cells slots Q D Ca B 6 σ N 80 [(0, .ref x0), (1, .int x1), (2, .int x2), (3, .int x3), (4, .int x4)] [] := by
  unfold jX9_bestInstances_80_L11 at hf
  refine z_iinc (lv2 := [(4, .int (x4 + (zi 1))), (0, .ref x0), (1, .int x1), (2, .int x2), (3, .int x3)]) C (x4 + (zi 1)) dX9_bestInstances_80 4 rfl rfl (by decide) rfl ?_
  refine z_goto C 11 dX9_bestInstances_83 (by decide) ?_
  cases hf
  refine z_sub [1, 2, 3, 4, 0] rfl ?_
  exact hk.1 _ rfl

set_option maxRecDepth 100000 in
set_option maxHeartbeats 4000000 in
theorem wsX9_bestInstances_11b (C : zC p s m args meth c cX9_bestInstances RX9 6 D Ca B En) (hRm : zRm R 6 150 cells slots) (x0 : Nat) (x1 : Int32) (σ : zS) (u2 : Int32) (u3 : Int32) (u4 : Int32) (y : (zS × Int32 × Int32 × Int32) ⊕ (zS × Int32)) (hf : sX9_bestInstances_11b x0 x1 σ u2 u3 u4 = some y) (hk : (∀ z : (zS × Int32 × Int32 × Int32), y = .inl z → zW p l e R s m args below meth c cells slots Q D Ca B 6 z.1 N 11 [(0, .ref x0), (1, .int x1), (2, .int z.2.1), (3, .int z.2.2.1), (4, .int z.2.2.2)] []) ∧ (∀ z : (zS × Int32), y = .inr z → zW p l e R s m args below meth c cells slots Q D Ca B 6 z.1 N 86 [(2, .int z.2)] [])) : zW p l e R s m args below meth c cells slots Q D Ca B 6 σ N 11 [(0, .ref x0), (1, .int x1), (2, .int u2), (3, .int u3), (4, .int u4)] [] := by
  unfold sX9_bestInstances_11b at hf
  refine z_iload C dX9_bestInstances_11 4 rfl ?_
  refine z_iconst C (zi 4) dX9_bestInstances_13 (by decide) ?_
  refine z_icmp_gt C 86 dX9_bestInstances_14 (by decide) (fun q14 => ?_) (fun q14 => ?_)
  · rw [if_pos q14] at hf
    cases hf
    refine z_sub [2] rfl ?_
    exact hk.2 _ rfl
  · rw [if_neg q14] at hf
    refine z_aload_n C dX9_bestInstances_17 rfl 0 rfl ?_
    obtain ⟨v2, hv2, hf⟩ := zbind hf
    refine gf_RX9_54 C hv2 dX9_bestInstances_18 ?_
    refine z_aload_n C dX9_bestInstances_21 rfl 0 rfl ?_
    obtain ⟨v3, hv3, hf⟩ := zbind hf
    refine gf_RX9_50 C hv3 dX9_bestInstances_22 ?_
    obtain ⟨c4, hc4, hf⟩ := zbind hf
    obtain ⟨kc4, hc4⟩ := zck_ok hc4
    refine z_callVv (As := [.ref v3]) (F0 := 6) (L0 := 150) C (mX1_copyFrom l D Ca B En C.2.2.2.2.2.2.2.1 σ N v2 v3 _ hc4) hRm kc4 rfl kw_700 kw_8 kw_718 kw_698 kw_699 hyX1_copyFrom (Nat.le_of_ble_eq_true rfl) (Nat.le_of_ble_eq_true rfl) rfl rfl (Nat.le_of_ble_eq_true rfl) dX9_bestInstances_25 ?_
    refine z_aload_n C dX9_bestInstances_28 rfl 0 rfl ?_
    obtain ⟨v5, hv5, hf⟩ := zbind hf
    refine gf_RX9_54 C hv5 dX9_bestInstances_29 ?_
    refine z_iload C dX9_bestInstances_32 4 rfl ?_
    obtain ⟨c6, hc6, hf⟩ := zbind hf
    obtain ⟨kc6, hc6⟩ := zck_ok hc6
    refine z_callVv (As := [.int u4]) (F0 := 6) (L0 := 150) C (mX1_recoverWith l D Ca B En C.2.2.2.2.2.2.2.1 c4 N v5 u4 _ hc6) hRm kc6 rfl kw_1165 kw_8 kw_1162 kw_1163 kw_1164 hyX1_recoverWith (Nat.le_of_ble_eq_true rfl) (Nat.le_of_ble_eq_true rfl) rfl rfl (Nat.le_of_ble_eq_true rfl) dX9_bestInstances_34 ?_
    refine z_iconst C (zi 0) dX9_bestInstances_37 (by decide) ?_
    refine z_istore (lv2 := [(5, .int ((zi 0))), (0, .ref x0), (1, .int x1), (2, .int u2), (3, .int u3), (4, .int u4)]) C dX9_bestInstances_38 (by decide) rfl ?_
    obtain ⟨o10, ho10, hf⟩ := zbind hf
    refine z_sub [1, 2, 3, 4, 5, 0] rfl ?_
    refine wsX9_bestInstances_40 C hRm _ _ _ _ _ zfuel (c6, (zi 0)) o10 ho10 ?_
    intro z9 e9
    subst e9
    refine z_aload_n C dX9_bestInstances_59 rfl 0 rfl ?_
    obtain ⟨v11, hv11, hf⟩ := zbind hf
    refine gf_RX9_54 C hv11 dX9_bestInstances_60 ?_
    obtain ⟨c12, hc12, hf⟩ := zbind hf
    obtain ⟨kc12, hc12⟩ := zck_ok hc12
    refine z_callVi (As := []) (F0 := 6) (L0 := 150) C (mX1_handledInAll l D Ca B En C.2.2.2.2.2.2.2.1 o10 N v11  _ hc12) hRm kc12 rfl kw_679 kw_8 kw_676 kw_677 kw_678 hyX1_handledInAll (Nat.le_of_ble_eq_true rfl) (Nat.le_of_ble_eq_true rfl) rfl rfl (Nat.le_of_ble_eq_true rfl) dX9_bestInstances_63 ?_
    refine z_istore (lv2 := [(5, .int c12.2), (0, .ref x0), (1, .int x1), (2, .int u2), (3, .int u3), (4, .int u4)]) C dX9_bestInstances_66 (by decide) rfl ?_
    refine z_iload C dX9_bestInstances_68 0 rfl ?_
    refine z_iload_n C dX9_bestInstances_70 rfl 4 rfl ?_
    refine z_icmp_le C 80 dX9_bestInstances_71 (by decide) (fun q13 => ?_) (fun q13 => ?_)
    · rw [if_pos q13] at hf
      refine z_sub [1, 2, 3, 4, 5] rfl ?_
      exact wjX9_bestInstances_80_L11 C hRm _ _ _ _ _ _  _ hf hk
    · rw [if_neg q13] at hf
      refine z_iload C dX9_bestInstances_74 0 rfl ?_
      refine z_istore_n (lv2 := [(3, .int c12.2), (5, .int c12.2), (0, .ref x0), (1, .int x1), (2, .int u2), (4, .int u4)]) C dX9_bestInstances_76 rfl (by decide) rfl ?_
      refine z_iload C dX9_bestInstances_77 5 rfl ?_
      refine z_istore_n (lv2 := [(2, .int u4), (3, .int c12.2), (5, .int c12.2), (0, .ref x0), (1, .int x1), (4, .int u4)]) C dX9_bestInstances_79 rfl (by decide) rfl ?_
      refine z_sub [3, 4, 0, 1, 5] rfl ?_
      exact wjX9_bestInstances_80_L11 C hRm _ _ _ _ _ _  _ hf hk

theorem wsX9_bestInstances_11 (C : zC p s m args meth c cX9_bestInstances RX9 6 D Ca B En) (hRm : zRm R 6 150 cells slots) (x0 : Nat) (x1 : Int32) (n : Nat) (z : (zS × Int32 × Int32 × Int32)) (x : (zS × Int32)) (hf : zloop (sX9_bestInstances_11 x0 x1) n z = some x) (hk : (∀ o : (zS × Int32), x = o → zW p l e R s m args below meth c cells slots Q D Ca B 6 o.1 N 86 [(2, .int o.2)] [])) : zW p l e R s m args below meth c cells slots Q D Ca B 6 z.1 N 11 [(0, .ref x0), (1, .int x1), (2, .int z.2.1), (3, .int z.2.2.1), (4, .int z.2.2.2)] [] := by
  refine zloop_W (P := fun z : (zS × Int32 × Int32 × Int32) => zW p l e R s m args below meth c cells slots Q D Ca B 6 z.1 N 11 [(0, .ref x0), (1, .int x1), (2, .int z.2.1), (3, .int z.2.2.1), (4, .int z.2.2.2)] []) (K := fun x : (zS × Int32) => (∀ o : (zS × Int32), x = o → zW p l e R s m args below meth c cells slots Q D Ca B 6 o.1 N 86 [(2, .int o.2)] [])) ?_ n z x hf hk
  intro z y hy h1 h2
  refine wsX9_bestInstances_11b C hRm x0 x1 z.1 z.2.1 z.2.2.1 z.2.2.2 y hy ⟨fun z2 e => h1 z2 e, fun o e => (h2 _ e) o rfl⟩
set_option maxRecDepth 100000 in
set_option maxHeartbeats 4000000 in
theorem wfX9_bestInstances (C : zC p s m args meth c cX9_bestInstances RX9 6 D Ca B En) (hRm : zRm R 6 150 cells slots) (σ : zS) (x0 : Nat) (x1 : Int32) (τ : zS) (r : Int32) (hf : fX9_bestInstances σ x0 x1 = some (τ, r)) (hq : ∀ (pc : Nat) (lv : List (Nat × Value)), decode cX9_bestInstances pc = .ok (.ireturn, 1) → zW p l e R s m args below meth c cells slots Q D Ca B 6 τ N pc lv [.int r]) : zW p l e R s m args below meth c cells slots Q D Ca B 6 σ N 0 [(0, .ref x0), (1, .int x1)] [] := by
  unfold fX9_bestInstances at hf
  refine z_iload_n C dX9_bestInstances_0 rfl 1 rfl ?_
  obtain ⟨c1, hc1, hf⟩ := zbind hf
  refine z_callSv (As := [.int x1]) (F0 := 6) (L0 := 150) C (mX9_needTicks l D Ca B En C.2.2.2.2.2.2.2.1 σ N x1 _ hc1) hRm kw_1128 kw_1 kw_1126 kw_1127 hyX9_needTicks (Nat.le_of_ble_eq_true rfl) (Nat.le_of_ble_eq_true rfl) rfl rfl (Nat.le_of_ble_eq_true rfl) dX9_bestInstances_1 ?_
  refine z_iconst C (zi 1) dX9_bestInstances_4 (by decide) ?_
  refine z_istore_n (lv2 := [(2, .int ((zi 1))), (0, .ref x0), (1, .int x1)]) C dX9_bestInstances_5 rfl (by decide) rfl ?_
  refine z_iconst C (zi (-1)) dX9_bestInstances_6 (by decide) ?_
  refine z_istore_n (lv2 := [(3, .int ((zi (-1)))), (2, .int ((zi 1))), (0, .ref x0), (1, .int x1)]) C dX9_bestInstances_7 rfl (by decide) rfl ?_
  refine z_iconst C (zi 1) dX9_bestInstances_8 (by decide) ?_
  refine z_istore (lv2 := [(4, .int ((zi 1))), (3, .int ((zi (-1)))), (2, .int ((zi 1))), (0, .ref x0), (1, .int x1)]) C dX9_bestInstances_9 (by decide) rfl ?_
  obtain ⟨o15, ho15, hf⟩ := zbind hf
  refine z_sub [3, 4, 2, 1, 0] rfl ?_
  refine wsX9_bestInstances_11 C hRm _ _ zfuel (c1, (zi 1), (zi (-1)), (zi 1)) o15 ho15 ?_
  intro z9 e9
  subst e9
  refine z_iload_n C dX9_bestInstances_86 rfl 0 rfl ?_
  cases hf
  exact hq _ _ dX9_bestInstances_87

theorem mX9_bestInstances (l : Launch) (D : va_G) (Ca : Nat → ClassId) (B : Nat) (En : State → Prop) (hE : zEk B En) (σ : zS) (N : Nat) (x0 : Nat) (x1 : Int32) (X : zS × Int32) (hf : fX9_bestInstances σ x0 x1 = some X) : zMi l D Ca B En yX9_bestInstances cX9_bestInstances 6 (Option.some Jvm.ClassFile.FieldType.int) 6 150 [.ref x0, .int x1] σ N X.1 X.2 :=
  zMet_i (own := RX9) hE (by decide +kernel) rfl (Nat.le_of_ble_eq_true rfl) (fun p e s m args below meth c C hr hRm => wfX9_bestInstances C hRm σ x0 x1 X.1 X.2 hf (fun pc lv hd => zfin_i C hr hd))
theorem dX9_printSink_0 : decode cX9_printSink 0 = .ok (.aload_n 0, 1) := by decide +kernel
theorem dX9_printSink_1 : decode cX9_printSink 1 = .ok (.iload_n 1, 1) := by decide +kernel
theorem dX9_printSink_2 : decode cX9_printSink 2 = .ok (.invokevirtual 196, 3) := by decide +kernel
theorem dX9_printSink_5 : decode cX9_printSink 5 = .ok (.aload_n 0, 1) := by decide +kernel
theorem dX9_printSink_6 : decode cX9_printSink 6 = .ok (.getfield 28, 3) := by decide +kernel
theorem dX9_printSink_9 : decode cX9_printSink 9 = .ok (.iconst 0, 1) := by decide +kernel
theorem dX9_printSink_10 : decode cX9_printSink 10 = .ok (.putfield 334, 3) := by decide +kernel
theorem dX9_printSink_13 : decode cX9_printSink 13 = .ok (.aload_n 0, 1) := by decide +kernel
theorem dX9_printSink_14 : decode cX9_printSink 14 = .ok (.getfield 50, 3) := by decide +kernel
theorem dX9_printSink_17 : decode cX9_printSink 17 = .ok (.getfield 199, 3) := by decide +kernel
theorem dX9_printSink_20 : decode cX9_printSink 20 = .ok (.bipush 28, 2) := by decide +kernel
theorem dX9_printSink_22 : decode cX9_printSink 22 = .ok (.iload_n 1, 1) := by decide +kernel
theorem dX9_printSink_23 : decode cX9_printSink 23 = .ok (.iadd, 1) := by decide +kernel
theorem dX9_printSink_24 : decode cX9_printSink 24 = .ok (.invokevirtual 272, 3) := by decide +kernel
theorem dX9_printSink_27 : decode cX9_printSink 27 = .ok (.istore_n 2, 1) := by decide +kernel
theorem dX9_printSink_28 : decode cX9_printSink 28 = .ok (.aload_n 0, 1) := by decide +kernel
theorem dX9_printSink_29 : decode cX9_printSink 29 = .ok (.getfield 50, 3) := by decide +kernel
theorem dX9_printSink_32 : decode cX9_printSink 32 = .ok (.getfield 199, 3) := by decide +kernel
theorem dX9_printSink_35 : decode cX9_printSink 35 = .ok (.bipush 28, 2) := by decide +kernel
theorem dX9_printSink_37 : decode cX9_printSink 37 = .ok (.iload_n 1, 1) := by decide +kernel
theorem dX9_printSink_38 : decode cX9_printSink 38 = .ok (.iadd, 1) := by decide +kernel
theorem dX9_printSink_39 : decode cX9_printSink 39 = .ok (.invokevirtual 203, 3) := by decide +kernel
theorem dX9_printSink_42 : decode cX9_printSink 42 = .ok (.istore_n 3, 1) := by decide +kernel
theorem dX9_printSink_43 : decode cX9_printSink 43 = .ok (.iload_n 3, 1) := by decide +kernel
theorem dX9_printSink_44 : decode cX9_printSink 44 = .ok (.ifCond .le 78, 3) := by decide +kernel
theorem dX9_printSink_47 : decode cX9_printSink 47 = .ok (.aload_n 0, 1) := by decide +kernel
theorem dX9_printSink_48 : decode cX9_printSink 48 = .ok (.getfield 28, 3) := by decide +kernel
theorem dX9_printSink_51 : decode cX9_printSink 51 = .ok (.bipush 107, 2) := by decide +kernel
theorem dX9_printSink_53 : decode cX9_printSink 53 = .ok (.invokevirtual 335, 3) := by decide +kernel
theorem dX9_printSink_56 : decode cX9_printSink 56 = .ok (.aload_n 0, 1) := by decide +kernel
theorem dX9_printSink_57 : decode cX9_printSink 57 = .ok (.getfield 28, 3) := by decide +kernel
theorem dX9_printSink_60 : decode cX9_printSink 60 = .ok (.aload_n 0, 1) := by decide +kernel
theorem dX9_printSink_61 : decode cX9_printSink 61 = .ok (.getfield 35, 3) := by decide +kernel
theorem dX9_printSink_64 : decode cX9_printSink 64 = .ok (.iload_n 2, 1) := by decide +kernel
theorem dX9_printSink_65 : decode cX9_printSink 65 = .ok (.invokevirtual 162, 3) := by decide +kernel
theorem dX9_printSink_68 : decode cX9_printSink 68 = .ok (.invokevirtual 338, 3) := by decide +kernel
theorem dX9_printSink_71 : decode cX9_printSink 71 = .ok (.aload_n 0, 1) := by decide +kernel
theorem dX9_printSink_72 : decode cX9_printSink 72 = .ok (.getfield 28, 3) := by decide +kernel
theorem dX9_printSink_75 : decode cX9_printSink 75 = .ok (.bipush 61, 2) := by decide +kernel
theorem dX9_printSink_77 : decode cX9_printSink 77 = .ok (.invokevirtual 335, 3) := by decide +kernel
theorem dX9_printSink_80 : decode cX9_printSink 80 = .ok (.aload_n 0, 1) := by decide +kernel
theorem dX9_printSink_81 : decode cX9_printSink 81 = .ok (.getfield 28, 3) := by decide +kernel
theorem dX9_printSink_84 : decode cX9_printSink 84 = .ok (.aload_n 0, 1) := by decide +kernel
theorem dX9_printSink_85 : decode cX9_printSink 85 = .ok (.getfield 35, 3) := by decide +kernel
theorem dX9_printSink_88 : decode cX9_printSink 88 = .ok (.iload_n 2, 1) := by decide +kernel
theorem dX9_printSink_89 : decode cX9_printSink 89 = .ok (.invokevirtual 214, 3) := by decide +kernel
theorem dX9_printSink_92 : decode cX9_printSink 92 = .ok (.invokevirtual 338, 3) := by decide +kernel
theorem dX9_printSink_95 : decode cX9_printSink 95 = .ok (.aload_n 0, 1) := by decide +kernel
theorem dX9_printSink_96 : decode cX9_printSink 96 = .ok (.getfield 28, 3) := by decide +kernel
theorem dX9_printSink_99 : decode cX9_printSink 99 = .ok (.bipush 10, 2) := by decide +kernel
theorem dX9_printSink_101 : decode cX9_printSink 101 = .ok (.invokevirtual 335, 3) := by decide +kernel
theorem dX9_printSink_104 : decode cX9_printSink 104 = .ok (.aload_n 0, 1) := by decide +kernel
theorem dX9_printSink_105 : decode cX9_printSink 105 = .ok (.getfield 50, 3) := by decide +kernel
theorem dX9_printSink_108 : decode cX9_printSink 108 = .ok (.getfield 199, 3) := by decide +kernel
theorem dX9_printSink_111 : decode cX9_printSink 111 = .ok (.iload_n 2, 1) := by decide +kernel
theorem dX9_printSink_112 : decode cX9_printSink 112 = .ok (.invokevirtual 275, 3) := by decide +kernel
theorem dX9_printSink_115 : decode cX9_printSink 115 = .ok (.istore_n 2, 1) := by decide +kernel
theorem dX9_printSink_116 : decode cX9_printSink 116 = .ok (.iinc 3 (-1), 3) := by decide +kernel
theorem dX9_printSink_119 : decode cX9_printSink 119 = .ok (.goto (-76), 3) := by decide +kernel
theorem dX9_printSink_122 : decode cX9_printSink 122 = .ok (.aload_n 0, 1) := by decide +kernel
theorem dX9_printSink_123 : decode cX9_printSink 123 = .ok (.getfield 28, 3) := by decide +kernel
theorem dX9_printSink_126 : decode cX9_printSink 126 = .ok (.getfield 334, 3) := by decide +kernel
theorem dX9_printSink_129 : decode cX9_printSink 129 = .ok (.ireturn, 1) := by decide +kernel
theorem hyX9_printSink : yX9_printSink.cls ≠ "java/lang/invoke/MethodHandle" ∧ yX9_printSink.cls ≠ "java/lang/invoke/VarHandle" ∧ (parseMethodDescriptor yX9_printSink.desc).map (fun d => d.parameters.length) = some 1 := ⟨by decide +kernel, by decide +kernel, by decide +kernel⟩
set_option maxRecDepth 100000 in
set_option maxHeartbeats 4000000 in
theorem wsX9_printSink_43b (C : zC p s m args meth c cX9_printSink RX9 4 D Ca B En) (hRm : zRm R 2 44 cells slots) (x0 : Nat) (σ : zS) (u2 : Int32) (u3 : Int32) (y : (zS × Int32 × Int32) ⊕ zS) (hf : sX9_printSink_43b x0 σ u2 u3 = some y) (hk : (∀ z : (zS × Int32 × Int32), y = .inl z → zW p l e R s m args below meth c cells slots Q D Ca B 4 z.1 N 43 [(0, .ref x0), (2, .int z.2.1), (3, .int z.2.2)] []) ∧ (∀ z : zS, y = .inr z → zW p l e R s m args below meth c cells slots Q D Ca B 4 z N 122 [(0, .ref x0)] [])) : zW p l e R s m args below meth c cells slots Q D Ca B 4 σ N 43 [(0, .ref x0), (2, .int u2), (3, .int u3)] [] := by
  unfold sX9_printSink_43b at hf
  refine z_iload_n C dX9_printSink_43 rfl 2 rfl ?_
  refine z_if_le C 122 dX9_printSink_44 (by decide) (fun q27 => ?_) (fun q27 => ?_)
  · rw [if_pos q27] at hf
    cases hf
    refine z_sub [0] rfl ?_
    exact hk.2 _ rfl
  · rw [if_neg q27] at hf
    refine z_aload_n C dX9_printSink_47 rfl 0 rfl ?_
    obtain ⟨v10, hv10, hf⟩ := zbind hf
    refine gf_RX9_28 C hv10 dX9_printSink_48 ?_
    refine z_bipush C (zi 107) dX9_printSink_51 (by decide) ?_
    obtain ⟨c11, hc11, hf⟩ := zbind hf
    obtain ⟨kc11, hc11⟩ := zck_ok hc11
    refine z_callVv (As := [.int ((zi 107))]) (F0 := 2) (L0 := 44) C (mX4_add l D Ca B En C.2.2.2.2.2.2.2.1 σ N v10 ((zi 107)) _ hc11) hRm kc11 rfl kw_1232 kw_4 kw_1229 kw_1230 kw_1231 hyX4_add (Nat.le_of_ble_eq_true rfl) (Nat.le_of_ble_eq_true rfl) rfl rfl (Nat.le_of_ble_eq_true rfl) dX9_printSink_53 ?_
    refine z_aload_n C dX9_printSink_56 rfl 0 rfl ?_
    obtain ⟨v12, hv12, hf⟩ := zbind hf
    refine gf_RX9_28 C hv12 dX9_printSink_57 ?_
    refine z_aload_n C dX9_printSink_60 rfl 0 rfl ?_
    obtain ⟨v13, hv13, hf⟩ := zbind hf
    refine gf_RX9_35 C hv13 dX9_printSink_61 ?_
    refine z_iload_n C dX9_printSink_64 rfl 1 rfl ?_
    obtain ⟨c14, hc14, hf⟩ := zbind hf
    obtain ⟨kc14, hc14⟩ := zck_ok hc14
    refine z_callVi (As := [.int u2]) (F0 := 2) (L0 := 44) C (mX7_keyOf l D Ca B En C.2.2.2.2.2.2.2.1 c11 N v13 u2 _ hc14) hRm kc14 rfl kw_755 kw_5 kw_946 kw_753 kw_754 hyX7_keyOf (Nat.le_of_ble_eq_true rfl) (Nat.le_of_ble_eq_true rfl) rfl rfl (Nat.le_of_ble_eq_true rfl) dX9_printSink_65 ?_
    obtain ⟨c15, hc15, hf⟩ := zbind hf
    obtain ⟨kc15, hc15⟩ := zck_ok hc15
    refine z_callVv (As := [.int c14.2]) (F0 := 2) (L0 := 44) C (mX4_addNumber l D Ca B En C.2.2.2.2.2.2.2.1 c14.1 N v12 c14.2 _ hc15) hRm kc15 rfl kw_1236 kw_4 kw_1233 kw_1234 kw_1235 hyX4_addNumber (Nat.le_of_ble_eq_true rfl) (Nat.le_of_ble_eq_true rfl) rfl rfl (Nat.le_of_ble_eq_true rfl) dX9_printSink_68 ?_
    refine z_aload_n C dX9_printSink_71 rfl 0 rfl ?_
    obtain ⟨v16, hv16, hf⟩ := zbind hf
    refine gf_RX9_28 C hv16 dX9_printSink_72 ?_
    refine z_bipush C (zi 61) dX9_printSink_75 (by decide) ?_
    obtain ⟨c17, hc17, hf⟩ := zbind hf
    obtain ⟨kc17, hc17⟩ := zck_ok hc17
    refine z_callVv (As := [.int ((zi 61))]) (F0 := 2) (L0 := 44) C (mX4_add l D Ca B En C.2.2.2.2.2.2.2.1 c15 N v16 ((zi 61)) _ hc17) hRm kc17 rfl kw_1232 kw_4 kw_1229 kw_1230 kw_1231 hyX4_add (Nat.le_of_ble_eq_true rfl) (Nat.le_of_ble_eq_true rfl) rfl rfl (Nat.le_of_ble_eq_true rfl) dX9_printSink_77 ?_
    refine z_aload_n C dX9_printSink_80 rfl 0 rfl ?_
    obtain ⟨v18, hv18, hf⟩ := zbind hf
    refine gf_RX9_28 C hv18 dX9_printSink_81 ?_
    refine z_aload_n C dX9_printSink_84 rfl 0 rfl ?_
    obtain ⟨v19, hv19, hf⟩ := zbind hf
    refine gf_RX9_35 C hv19 dX9_printSink_85 ?_
    refine z_iload_n C dX9_printSink_88 rfl 1 rfl ?_
    obtain ⟨c20, hc20, hf⟩ := zbind hf
    obtain ⟨kc20, hc20⟩ := zck_ok hc20
    refine z_callVi (As := [.int u2]) (F0 := 2) (L0 := 44) C (mX7_resultOf l D Ca B En C.2.2.2.2.2.2.2.1 c17 N v19 u2 _ hc20) hRm kc20 rfl kw_1047 kw_5 kw_1044 kw_1045 kw_1046 hyX7_resultOf (Nat.le_of_ble_eq_true rfl) (Nat.le_of_ble_eq_true rfl) rfl rfl (Nat.le_of_ble_eq_true rfl) dX9_printSink_89 ?_
    obtain ⟨c21, hc21, hf⟩ := zbind hf
    obtain ⟨kc21, hc21⟩ := zck_ok hc21
    refine z_callVv (As := [.int c20.2]) (F0 := 2) (L0 := 44) C (mX4_addNumber l D Ca B En C.2.2.2.2.2.2.2.1 c20.1 N v18 c20.2 _ hc21) hRm kc21 rfl kw_1236 kw_4 kw_1233 kw_1234 kw_1235 hyX4_addNumber (Nat.le_of_ble_eq_true rfl) (Nat.le_of_ble_eq_true rfl) rfl rfl (Nat.le_of_ble_eq_true rfl) dX9_printSink_92 ?_
    refine z_aload_n C dX9_printSink_95 rfl 0 rfl ?_
    obtain ⟨v22, hv22, hf⟩ := zbind hf
    refine gf_RX9_28 C hv22 dX9_printSink_96 ?_
    refine z_bipush C (zi 10) dX9_printSink_99 (by decide) ?_
    obtain ⟨c23, hc23, hf⟩ := zbind hf
    obtain ⟨kc23, hc23⟩ := zck_ok hc23
    refine z_callVv (As := [.int ((zi 10))]) (F0 := 2) (L0 := 44) C (mX4_add l D Ca B En C.2.2.2.2.2.2.2.1 c21 N v22 ((zi 10)) _ hc23) hRm kc23 rfl kw_1232 kw_4 kw_1229 kw_1230 kw_1231 hyX4_add (Nat.le_of_ble_eq_true rfl) (Nat.le_of_ble_eq_true rfl) rfl rfl (Nat.le_of_ble_eq_true rfl) dX9_printSink_101 ?_
    refine z_aload_n C dX9_printSink_104 rfl 0 rfl ?_
    obtain ⟨v24, hv24, hf⟩ := zbind hf
    refine gf_RX9_50 C hv24 dX9_printSink_105 ?_
    obtain ⟨v25, hv25, hf⟩ := zbind hf
    refine gf_RX9_199 C hv25 dX9_printSink_108 ?_
    refine z_iload_n C dX9_printSink_111 rfl 1 rfl ?_
    obtain ⟨c26, hc26, hf⟩ := zbind hf
    obtain ⟨kc26, hc26⟩ := zck_ok hc26
    refine z_callVi (As := [.int u2]) (F0 := 2) (L0 := 44) C (mX3_behind l D Ca B En C.2.2.2.2.2.2.2.1 c23 N v25 u2 _ hc26) hRm kc26 rfl kw_350 kw_9 kw_1105 kw_348 kw_349 hyX3_behind (Nat.le_of_ble_eq_true rfl) (Nat.le_of_ble_eq_true rfl) rfl rfl (Nat.le_of_ble_eq_true rfl) dX9_printSink_112 ?_
    refine z_istore_n (lv2 := [(2, .int c26.2), (0, .ref x0), (3, .int u3)]) C dX9_printSink_115 rfl (by decide) rfl ?_
    refine z_iinc (lv2 := [(3, .int (u3 + (zi (-1)))), (2, .int c26.2), (0, .ref x0)]) C (u3 + (zi (-1))) dX9_printSink_116 2 rfl rfl (by decide) rfl ?_
    refine z_goto C 43 dX9_printSink_119 (by decide) ?_
    cases hf
    refine z_sub [2, 1, 0] rfl ?_
    exact hk.1 _ rfl

theorem wsX9_printSink_43 (C : zC p s m args meth c cX9_printSink RX9 4 D Ca B En) (hRm : zRm R 2 44 cells slots) (x0 : Nat) (n : Nat) (z : (zS × Int32 × Int32)) (x : zS) (hf : zloop (sX9_printSink_43 x0) n z = some x) (hk : (∀ o : zS, x = o → zW p l e R s m args below meth c cells slots Q D Ca B 4 o N 122 [(0, .ref x0)] [])) : zW p l e R s m args below meth c cells slots Q D Ca B 4 z.1 N 43 [(0, .ref x0), (2, .int z.2.1), (3, .int z.2.2)] [] := by
  refine zloop_W (P := fun z : (zS × Int32 × Int32) => zW p l e R s m args below meth c cells slots Q D Ca B 4 z.1 N 43 [(0, .ref x0), (2, .int z.2.1), (3, .int z.2.2)] []) (K := fun x : zS => (∀ o : zS, x = o → zW p l e R s m args below meth c cells slots Q D Ca B 4 o N 122 [(0, .ref x0)] [])) ?_ n z x hf hk
  intro z y hy h1 h2
  refine wsX9_printSink_43b C hRm x0 z.1 z.2.1 z.2.2 y hy ⟨fun z2 e => h1 z2 e, fun o e => (h2 _ e) o rfl⟩
set_option maxRecDepth 100000 in
set_option maxHeartbeats 4000000 in
theorem wfX9_printSink (C : zC p s m args meth c cX9_printSink RX9 4 D Ca B En) (hRm : zRm R 2 44 cells slots) (σ : zS) (x0 : Nat) (x1 : Int32) (τ : zS) (r : Int32) (hf : fX9_printSink σ x0 x1 = some (τ, r)) (hq : ∀ (pc : Nat) (lv : List (Nat × Value)), decode cX9_printSink pc = .ok (.ireturn, 1) → zW p l e R s m args below meth c cells slots Q D Ca B 4 τ N pc lv [.int r]) : zW p l e R s m args below meth c cells slots Q D Ca B 4 σ N 0 [(0, .ref x0), (1, .int x1)] [] := by
  unfold fX9_printSink at hf
  refine z_aload_n C dX9_printSink_0 rfl 0 rfl ?_
  refine z_iload_n C dX9_printSink_1 rfl 1 rfl ?_
  obtain ⟨c1, hc1, hf⟩ := zbind hf
  obtain ⟨kc1, hc1⟩ := zck_ok hc1
  refine z_callVv (As := [.int x1]) (F0 := 2) (L0 := 44) C (mX9_needSink l D Ca B En C.2.2.2.2.2.2.2.1 σ N x0 x1 _ hc1) hRm kc1 rfl kw_1014 kw_1 kw_1011 kw_1013 kp_34 hyX9_needSink (Nat.le_of_ble_eq_true rfl) (Nat.le_of_ble_eq_true rfl) rfl rfl (Nat.le_of_ble_eq_true rfl) dX9_printSink_2 ?_
  refine z_aload_n C dX9_printSink_5 rfl 0 rfl ?_
  obtain ⟨v2, hv2, hf⟩ := zbind hf
  refine gf_RX9_28 C hv2 dX9_printSink_6 ?_
  refine z_iconst C (zi 0) dX9_printSink_9 (by decide) ?_
  obtain ⟨σ3, hσ3, hf⟩ := zbind hf
  refine gp_RX9_334 C hσ3 dX9_printSink_10 ?_
  refine z_aload_n C dX9_printSink_13 rfl 0 rfl ?_
  obtain ⟨v4, hv4, hf⟩ := zbind hf
  refine gf_RX9_50 C hv4 dX9_printSink_14 ?_
  obtain ⟨v5, hv5, hf⟩ := zbind hf
  refine gf_RX9_199 C hv5 dX9_printSink_17 ?_
  refine z_bipush C (zi 28) dX9_printSink_20 (by decide) ?_
  refine z_iload_n C dX9_printSink_22 rfl 1 rfl ?_
  refine z_iadd C dX9_printSink_23 ?_
  obtain ⟨c6, hc6, hf⟩ := zbind hf
  obtain ⟨kc6, hc6⟩ := zck_ok hc6
  refine z_callVi (As := [.int (((zi 28)) + x1)]) (F0 := 2) (L0 := 44) C (mX3_firstOf l D Ca B En C.2.2.2.2.2.2.2.1 σ3 N v5 (((zi 28)) + x1) _ hc6) hRm kc6 rfl kw_338 kw_9 kw_1104 kw_336 kw_337 hyX3_firstOf (Nat.le_of_ble_eq_true rfl) (Nat.le_of_ble_eq_true rfl) rfl rfl (Nat.le_of_ble_eq_true rfl) dX9_printSink_24 ?_
  refine z_istore_n (lv2 := [(2, .int c6.2), (0, .ref x0), (1, .int x1)]) C dX9_printSink_27 rfl (by decide) rfl ?_
  refine z_aload_n C dX9_printSink_28 rfl 1 rfl ?_
  obtain ⟨v7, hv7, hf⟩ := zbind hf
  refine gf_RX9_50 C hv7 dX9_printSink_29 ?_
  obtain ⟨v8, hv8, hf⟩ := zbind hf
  refine gf_RX9_199 C hv8 dX9_printSink_32 ?_
  refine z_bipush C (zi 28) dX9_printSink_35 (by decide) ?_
  refine z_iload_n C dX9_printSink_37 rfl 2 rfl ?_
  refine z_iadd C dX9_printSink_38 ?_
  obtain ⟨c9, hc9, hf⟩ := zbind hf
  obtain ⟨kc9, hc9⟩ := zck_ok hc9
  refine z_callVi (As := [.int (((zi 28)) + x1)]) (F0 := 2) (L0 := 44) C (mX3_sizeOf l D Ca B En C.2.2.2.2.2.2.2.1 c6.1 N v8 (((zi 28)) + x1) _ hc9) hRm kc9 rfl kw_342 kw_9 kw_687 kw_340 kw_341 hyX3_sizeOf (Nat.le_of_ble_eq_true rfl) (Nat.le_of_ble_eq_true rfl) rfl rfl (Nat.le_of_ble_eq_true rfl) dX9_printSink_39 ?_
  refine z_istore_n (lv2 := [(3, .int c9.2), (2, .int c6.2), (0, .ref x0), (1, .int x1)]) C dX9_printSink_42 rfl (by decide) rfl ?_
  obtain ⟨o28, ho28, hf⟩ := zbind hf
  refine z_sub [2, 1, 0] rfl ?_
  refine wsX9_printSink_43 C hRm _ zfuel (c9.1, c6.2, c9.2) o28 ho28 ?_
  intro z9 e9
  subst e9
  refine z_aload_n C dX9_printSink_122 rfl 0 rfl ?_
  obtain ⟨v29, hv29, hf⟩ := zbind hf
  refine gf_RX9_28 C hv29 dX9_printSink_123 ?_
  obtain ⟨v30, hv30, hf⟩ := zbind hf
  refine gf_RX9_334 C hv30 dX9_printSink_126 ?_
  cases hf
  exact hq _ _ dX9_printSink_129

theorem mX9_printSink (l : Launch) (D : va_G) (Ca : Nat → ClassId) (B : Nat) (En : State → Prop) (hE : zEk B En) (σ : zS) (N : Nat) (x0 : Nat) (x1 : Int32) (X : zS × Int32) (hf : fX9_printSink σ x0 x1 = some X) : zMi l D Ca B En yX9_printSink cX9_printSink 4 (Option.some Jvm.ClassFile.FieldType.int) 2 44 [.ref x0, .int x1] σ N X.1 X.2 :=
  zMet_i (own := RX9) hE (by decide +kernel) rfl (Nat.le_of_ble_eq_true rfl) (fun p e s m args below meth c C hr hRm => wfX9_printSink C hRm σ x0 x1 X.1 X.2 hf (fun pc lv hd => zfin_i C hr hd))
theorem dX9_restoreState_0 : decode cX9_restoreState 0 = .ok (.aload_n 0, 1) := by decide +kernel
theorem dX9_restoreState_1 : decode cX9_restoreState 1 = .ok (.getfield 85, 3) := by decide +kernel
theorem dX9_restoreState_4 : decode cX9_restoreState 4 = .ok (.ifCond .ne 11, 3) := by decide +kernel
theorem dX9_restoreState_7 : decode cX9_restoreState 7 = .ok (.new 306, 3) := by decide +kernel
theorem dX9_restoreState_10 : decode cX9_restoreState 10 = .ok (.dup, 1) := by decide +kernel
theorem dX9_restoreState_11 : decode cX9_restoreState 11 = .ok (.invokespecial 308, 3) := by decide +kernel
theorem dX9_restoreState_14 : decode cX9_restoreState 14 = .ok (.athrow, 1) := by decide +kernel
theorem dX9_restoreState_15 : decode cX9_restoreState 15 = .ok (.aload_n 0, 1) := by decide +kernel
theorem dX9_restoreState_16 : decode cX9_restoreState 16 = .ok (.getfield 50, 3) := by decide +kernel
theorem dX9_restoreState_19 : decode cX9_restoreState 19 = .ok (.aload_n 0, 1) := by decide +kernel
theorem dX9_restoreState_20 : decode cX9_restoreState 20 = .ok (.getfield 57, 3) := by decide +kernel
theorem dX9_restoreState_23 : decode cX9_restoreState 23 = .ok (.invokevirtual 325, 3) := by decide +kernel
theorem dX9_restoreState_26 : decode cX9_restoreState 26 = .ok (.aload_n 0, 1) := by decide +kernel
theorem dX9_restoreState_27 : decode cX9_restoreState 27 = .ok (.getfield 63, 3) := by decide +kernel
theorem dX9_restoreState_30 : decode cX9_restoreState 30 = .ok (.invokevirtual 82, 3) := by decide +kernel
theorem dX9_restoreState_33 : decode cX9_restoreState 33 = .ok (.aload_n 0, 1) := by decide +kernel
theorem dX9_restoreState_34 : decode cX9_restoreState 34 = .ok (.getfield 50, 3) := by decide +kernel
theorem dX9_restoreState_37 : decode cX9_restoreState 37 = .ok (.getfield 110, 3) := by decide +kernel
theorem dX9_restoreState_40 : decode cX9_restoreState 40 = .ok (.ireturn, 1) := by decide +kernel
theorem hyX9_restoreState : yX9_restoreState.cls ≠ "java/lang/invoke/MethodHandle" ∧ yX9_restoreState.cls ≠ "java/lang/invoke/VarHandle" ∧ (parseMethodDescriptor yX9_restoreState.desc).map (fun d => d.parameters.length) = some 0 := ⟨by decide +kernel, by decide +kernel, by decide +kernel⟩
set_option maxRecDepth 100000 in
set_option maxHeartbeats 4000000 in
theorem wfX9_restoreState (C : zC p s m args meth c cX9_restoreState RX9 1 D Ca B En) (hRm : zRm R 5 148 cells slots) (σ : zS) (x0 : Nat) (τ : zS) (r : Int32) (hf : fX9_restoreState σ x0 = some (τ, r)) (hq : ∀ (pc : Nat) (lv : List (Nat × Value)), decode cX9_restoreState pc = .ok (.ireturn, 1) → zW p l e R s m args below meth c cells slots Q D Ca B 1 τ N pc lv [.int r]) : zW p l e R s m args below meth c cells slots Q D Ca B 1 σ N 0 [(0, .ref x0)] [] := by
  unfold fX9_restoreState at hf
  refine z_aload_n C dX9_restoreState_0 rfl 0 rfl ?_
  obtain ⟨v1, hv1, hf⟩ := zbind hf
  refine gf_RX9_85 C hv1 dX9_restoreState_1 ?_
  refine z_if_ne C 15 dX9_restoreState_4 (by decide) (fun q9 => ?_) (fun q9 => ?_)
  · rw [if_neg q9] at hf
    refine z_aload_n C dX9_restoreState_15 rfl 0 rfl ?_
    obtain ⟨v2, hv2, hf⟩ := zbind hf
    refine gf_RX9_50 C hv2 dX9_restoreState_16 ?_
    refine z_aload_n C dX9_restoreState_19 rfl 0 rfl ?_
    obtain ⟨v3, hv3, hf⟩ := zbind hf
    refine gf_RX9_57 C hv3 dX9_restoreState_20 ?_
    obtain ⟨c4, hc4, hf⟩ := zbind hf
    obtain ⟨kc4, hc4⟩ := zck_ok hc4
    refine z_callVv (As := [.ref v3]) (F0 := 5) (L0 := 148) C (mX1_copyFrom l D Ca B En C.2.2.2.2.2.2.2.1 σ N v2 v3 _ hc4) hRm kc4 rfl kw_700 kw_8 kw_718 kw_698 kw_699 hyX1_copyFrom (Nat.le_of_ble_eq_true rfl) (Nat.le_of_ble_eq_true rfl) rfl rfl (Nat.le_of_ble_eq_true rfl) dX9_restoreState_23 ?_
    refine z_aload_n C dX9_restoreState_26 rfl 0 rfl ?_
    obtain ⟨v5, hv5, hf⟩ := zbind hf
    refine gf_RX9_63 C hv5 dX9_restoreState_27 ?_
    obtain ⟨c6, hc6, hf⟩ := zbind hf
    obtain ⟨kc6, hc6⟩ := zck_ok hc6
    refine z_callVv (As := []) (F0 := 5) (L0 := 148) C (mX6_forget l D Ca B En C.2.2.2.2.2.2.2.1 c4 N v5  _ hc6) hRm kc6 rfl kw_634 kw_13 kw_631 kw_632 kw_633 hyX6_forget (Nat.le_of_ble_eq_true rfl) (Nat.le_of_ble_eq_true rfl) rfl rfl (Nat.le_of_ble_eq_true rfl) dX9_restoreState_30 ?_
    refine z_aload_n C dX9_restoreState_33 rfl 0 rfl ?_
    obtain ⟨v7, hv7, hf⟩ := zbind hf
    refine gf_RX9_50 C hv7 dX9_restoreState_34 ?_
    obtain ⟨v8, hv8, hf⟩ := zbind hf
    refine gf_RX9_110 C hv8 dX9_restoreState_37 ?_
    cases hf
    exact hq _ _ dX9_restoreState_40
  · rw [if_pos q9] at hf
    cases hf

theorem mX9_restoreState (l : Launch) (D : va_G) (Ca : Nat → ClassId) (B : Nat) (En : State → Prop) (hE : zEk B En) (σ : zS) (N : Nat) (x0 : Nat) (X : zS × Int32) (hf : fX9_restoreState σ x0 = some X) : zMi l D Ca B En yX9_restoreState cX9_restoreState 1 (Option.some Jvm.ClassFile.FieldType.int) 5 148 [.ref x0] σ N X.1 X.2 :=
  zMet_i (own := RX9) hE (by decide +kernel) rfl (Nat.le_of_ble_eq_true rfl) (fun p e s m args below meth c C hr hRm => wfX9_restoreState C hRm σ x0 X.1 X.2 hf (fun pc lv hd => zfin_i C hr hd))
theorem dX10_repeated_0 : decode cX10_repeated 0 = .ok (.aload_n 0, 1) := by decide +kernel
theorem dX10_repeated_1 : decode cX10_repeated 1 = .ok (.iconst 0, 1) := by decide +kernel
theorem dX10_repeated_2 : decode cX10_repeated 2 = .ok (.putfield 92, 3) := by decide +kernel
theorem dX10_repeated_5 : decode cX10_repeated 5 = .ok (.aload_n 0, 1) := by decide +kernel
theorem dX10_repeated_6 : decode cX10_repeated 6 = .ok (.getfield 21, 3) := by decide +kernel
theorem dX10_repeated_9 : decode cX10_repeated 9 = .ok (.bipush 8, 2) := by decide +kernel
theorem dX10_repeated_11 : decode cX10_repeated 11 = .ok (.iaload, 1) := by decide +kernel
theorem dX10_repeated_12 : decode cX10_repeated 12 = .ok (.istore_n 1, 1) := by decide +kernel
theorem dX10_repeated_13 : decode cX10_repeated 13 = .ok (.iload_n 1, 1) := by decide +kernel
theorem dX10_repeated_14 : decode cX10_repeated 14 = .ok (.ifCond .ne 7, 3) := by decide +kernel
theorem dX10_repeated_17 : decode cX10_repeated 17 = .ok (.fconst 0, 1) := by decide +kernel
theorem dX10_repeated_18 : decode cX10_repeated 18 = .ok (.goto 16, 3) := by decide +kernel
theorem dX10_repeated_21 : decode cX10_repeated 21 = .ok (.iload_n 1, 1) := by decide +kernel
theorem dX10_repeated_22 : decode cX10_repeated 22 = .ok (.aload_n 0, 1) := by decide +kernel
theorem dX10_repeated_23 : decode cX10_repeated 23 = .ok (.bipush 13, 2) := by decide +kernel
theorem dX10_repeated_25 : decode cX10_repeated 25 = .ok (.iconst 4, 1) := by decide +kernel
theorem dX10_repeated_26 : decode cX10_repeated 26 = .ok (.invokevirtual 352, 3) := by decide +kernel
theorem dX10_repeated_29 : decode cX10_repeated 29 = .ok (.isub, 1) := by decide +kernel
theorem dX10_repeated_30 : decode cX10_repeated 30 = .ok (.i2f, 1) := by decide +kernel
theorem dX10_repeated_31 : decode cX10_repeated 31 = .ok (.iload_n 1, 1) := by decide +kernel
theorem dX10_repeated_32 : decode cX10_repeated 32 = .ok (.i2f, 1) := by decide +kernel
theorem dX10_repeated_33 : decode cX10_repeated 33 = .ok (.fdiv, 1) := by decide +kernel
theorem dX10_repeated_34 : decode cX10_repeated 34 = .ok (.freturn, 1) := by decide +kernel
theorem hyX10_repeated : yX10_repeated.cls ≠ "java/lang/invoke/MethodHandle" ∧ yX10_repeated.cls ≠ "java/lang/invoke/VarHandle" ∧ (parseMethodDescriptor yX10_repeated.desc).map (fun d => d.parameters.length) = some 0 := ⟨by decide +kernel, by decide +kernel, by decide +kernel⟩
set_option maxRecDepth 100000 in
set_option maxHeartbeats 4000000 in
theorem wfX10_repeated (C : zC p s m args meth c cX10_repeated RX10 2 D Ca B En) (hRm : zRm R 1 24 cells slots) (σ : zS) (x0 : Nat) (τ : zS) (r : UInt32) (hf : fX10_repeated σ x0 = some (τ, r)) (hq : ∀ (pc : Nat) (lv : List (Nat × Value)), decode cX10_repeated pc = .ok (.freturn, 1) → zW p l e R s m args below meth c cells slots Q D Ca B 2 τ N pc lv [.float r]) : zW p l e R s m args below meth c cells slots Q D Ca B 2 σ N 0 [(0, .ref x0)] [] := by
  unfold fX10_repeated at hf
  refine z_aload_n C dX10_repeated_0 rfl 0 rfl ?_
  refine z_iconst C (zi 0) dX10_repeated_1 (by decide) ?_
  obtain ⟨σ1, hσ1, hf⟩ := zbind hf
  refine gp_RX10_92 C hσ1 dX10_repeated_2 ?_
  refine z_aload_n C dX10_repeated_5 rfl 0 rfl ?_
  obtain ⟨v2, hv2, hf⟩ := zbind hf
  refine gf_RX10_21 C hv2 dX10_repeated_6 ?_
  refine z_bipush C (zi 8) dX10_repeated_9 (by decide) ?_
  obtain ⟨v3, hv3, hf⟩ := zbind hf
  refine z_aI C hv3 dX10_repeated_11 ?_
  refine z_istore_n (lv2 := [(1, .int v3), (0, .ref x0)]) C dX10_repeated_12 rfl (by decide) rfl ?_
  refine z_iload_n C dX10_repeated_13 rfl 0 rfl ?_
  refine z_if_ne C 21 dX10_repeated_14 (by decide) (fun q6 => ?_) (fun q6 => ?_)
  · rw [if_neg q6] at hf
    refine z_iload_n C dX10_repeated_21 rfl 0 rfl ?_
    refine z_aload_n C dX10_repeated_22 rfl 1 rfl ?_
    refine z_bipush C (zi 13) dX10_repeated_23 (by decide) ?_
    refine z_iconst C (zi 4) dX10_repeated_25 (by decide) ?_
    obtain ⟨c4, hc4, hf⟩ := zbind hf
    obtain ⟨kc4, hc4⟩ := zck_ok hc4
    refine z_callVi (As := [.int ((zi 13)), .int ((zi 4))]) (F0 := 1) (L0 := 24) C (mX10_sumOf l D Ca B En C.2.2.2.2.2.2.2.1 σ1 N x0 ((zi 13)) ((zi 4)) _ hc4) hRm kc4 rfl kw_1775 kw_14 kw_1772 kw_1774 kp_100 hyX10_sumOf (Nat.le_of_ble_eq_true rfl) (Nat.le_of_ble_eq_true rfl) rfl rfl (Nat.le_of_ble_eq_true rfl) dX10_repeated_26 ?_
    refine z_isub C dX10_repeated_29 ?_
    refine z_i2f C dX10_repeated_30 ?_
    refine z_iload_n C dX10_repeated_31 rfl 0 rfl ?_
    refine z_i2f C dX10_repeated_32 ?_
    obtain ⟨v5, hv5, hf⟩ := zbind hf
    obtain ⟨hnv5, ev5⟩ := zn32_ok hv5
    refine z_fdiv C dX10_repeated_33 hnv5 ?_
    rw [ev5]
    cases hf
    exact hq _ _ dX10_repeated_34
  · rw [if_pos q6] at hf
    refine z_fconst0 C dX10_repeated_17 ?_
    refine z_goto C 34 dX10_repeated_18 (by decide) ?_
    cases hf
    exact hq _ _ dX10_repeated_34

theorem mX10_repeated (l : Launch) (D : va_G) (Ca : Nat → ClassId) (B : Nat) (En : State → Prop) (hE : zEk B En) (σ : zS) (N : Nat) (x0 : Nat) (X : zS × UInt32) (hf : fX10_repeated σ x0 = some X) : zMf l D Ca B En yX10_repeated cX10_repeated 2 (Option.some Jvm.ClassFile.FieldType.float) 1 24 [.ref x0] σ N X.1 X.2 :=
  zMet_f (own := RX10) hE (by decide +kernel) rfl (Nat.le_of_ble_eq_true rfl) (fun p e s m args below meth c C hr hRm => wfX10_repeated C hRm σ x0 X.1 X.2 hf (fun pc lv hd => zfin_f C hr hd))
theorem dX10_skew_0 : decode cX10_skew 0 = .ok (.aload_n 0, 1) := by decide +kernel
theorem dX10_skew_1 : decode cX10_skew 1 = .ok (.iconst 0, 1) := by decide +kernel
theorem dX10_skew_2 : decode cX10_skew 2 = .ok (.putfield 92, 3) := by decide +kernel
theorem dX10_skew_5 : decode cX10_skew 5 = .ok (.iconst 0, 1) := by decide +kernel
theorem dX10_skew_6 : decode cX10_skew 6 = .ok (.istore_n 1, 1) := by decide +kernel
theorem dX10_skew_7 : decode cX10_skew 7 = .ok (.iconst 0, 1) := by decide +kernel
theorem dX10_skew_8 : decode cX10_skew 8 = .ok (.istore_n 2, 1) := by decide +kernel
theorem dX10_skew_9 : decode cX10_skew 9 = .ok (.iload_n 2, 1) := by decide +kernel
theorem dX10_skew_10 : decode cX10_skew 10 = .ok (.aload_n 0, 1) := by decide +kernel
theorem dX10_skew_11 : decode cX10_skew 11 = .ok (.getfield 21, 3) := by decide +kernel
theorem dX10_skew_14 : decode cX10_skew 14 = .ok (.iconst 1, 1) := by decide +kernel
theorem dX10_skew_15 : decode cX10_skew 15 = .ok (.iaload, 1) := by decide +kernel
theorem dX10_skew_16 : decode cX10_skew 16 = .ok (.if_icmp .ge 32, 3) := by decide +kernel
theorem dX10_skew_19 : decode cX10_skew 19 = .ok (.aload_n 0, 1) := by decide +kernel
theorem dX10_skew_20 : decode cX10_skew 20 = .ok (.getfield 21, 3) := by decide +kernel
theorem dX10_skew_23 : decode cX10_skew 23 = .ok (.bipush 33, 2) := by decide +kernel
theorem dX10_skew_25 : decode cX10_skew 25 = .ok (.iload_n 2, 1) := by decide +kernel
theorem dX10_skew_26 : decode cX10_skew 26 = .ok (.iadd, 1) := by decide +kernel
theorem dX10_skew_27 : decode cX10_skew 27 = .ok (.iaload, 1) := by decide +kernel
theorem dX10_skew_28 : decode cX10_skew 28 = .ok (.iload_n 1, 1) := by decide +kernel
theorem dX10_skew_29 : decode cX10_skew 29 = .ok (.if_icmp .le 13, 3) := by decide +kernel
theorem dX10_skew_32 : decode cX10_skew 32 = .ok (.aload_n 0, 1) := by decide +kernel
theorem dX10_skew_33 : decode cX10_skew 33 = .ok (.getfield 21, 3) := by decide +kernel
theorem dX10_skew_36 : decode cX10_skew 36 = .ok (.bipush 33, 2) := by decide +kernel
theorem dX10_skew_38 : decode cX10_skew 38 = .ok (.iload_n 2, 1) := by decide +kernel
theorem dX10_skew_39 : decode cX10_skew 39 = .ok (.iadd, 1) := by decide +kernel
theorem dX10_skew_40 : decode cX10_skew 40 = .ok (.iaload, 1) := by decide +kernel
theorem dX10_skew_41 : decode cX10_skew 41 = .ok (.istore_n 1, 1) := by decide +kernel
theorem dX10_skew_42 : decode cX10_skew 42 = .ok (.iinc 2 1, 3) := by decide +kernel
theorem dX10_skew_45 : decode cX10_skew 45 = .ok (.goto (-36), 3) := by decide +kernel
theorem dX10_skew_48 : decode cX10_skew 48 = .ok (.iload_n 1, 1) := by decide +kernel
theorem dX10_skew_49 : decode cX10_skew 49 = .ok (.ifCond .ne 7, 3) := by decide +kernel
theorem dX10_skew_52 : decode cX10_skew 52 = .ok (.dconst 0, 1) := by decide +kernel
theorem dX10_skew_53 : decode cX10_skew 53 = .ok (.goto 19, 3) := by decide +kernel
theorem dX10_skew_56 : decode cX10_skew 56 = .ok (.iload_n 1, 1) := by decide +kernel
theorem dX10_skew_57 : decode cX10_skew 57 = .ok (.i2d, 1) := by decide +kernel
theorem dX10_skew_58 : decode cX10_skew 58 = .ok (.aload_n 0, 1) := by decide +kernel
theorem dX10_skew_59 : decode cX10_skew 59 = .ok (.invokevirtual 316, 3) := by decide +kernel
theorem dX10_skew_62 : decode cX10_skew 62 = .ok (.i2d, 1) := by decide +kernel
theorem dX10_skew_63 : decode cX10_skew 63 = .ok (.aload_n 0, 1) := by decide +kernel
theorem dX10_skew_64 : decode cX10_skew 64 = .ok (.getfield 21, 3) := by decide +kernel
theorem dX10_skew_67 : decode cX10_skew 67 = .ok (.iconst 1, 1) := by decide +kernel
theorem dX10_skew_68 : decode cX10_skew 68 = .ok (.iaload, 1) := by decide +kernel
theorem dX10_skew_69 : decode cX10_skew 69 = .ok (.i2d, 1) := by decide +kernel
theorem dX10_skew_70 : decode cX10_skew 70 = .ok (.ddiv, 1) := by decide +kernel
theorem dX10_skew_71 : decode cX10_skew 71 = .ok (.ddiv, 1) := by decide +kernel
theorem dX10_skew_72 : decode cX10_skew 72 = .ok (.dreturn, 1) := by decide +kernel
theorem hyX10_skew : yX10_skew.cls ≠ "java/lang/invoke/MethodHandle" ∧ yX10_skew.cls ≠ "java/lang/invoke/VarHandle" ∧ (parseMethodDescriptor yX10_skew.desc).map (fun d => d.parameters.length) = some 0 := ⟨by decide +kernel, by decide +kernel, by decide +kernel⟩
set_option maxRecDepth 100000 in
set_option maxHeartbeats 4000000 in
theorem wjX10_skew_42_L9 (C : zC p s m args meth c cX10_skew RX10 3 D Ca B En) (hRm : zRm R 1 22 cells slots) (σ : zS) (x0 : Nat) (x1 : Int32) (x2 : Int32)  (y : (zS × Int32 × Int32) ⊕ (zS × Int32)) (hf : jX10_skew_42_L9 σ x0 x1 x2  = some y) (hk : (∀ z : (zS × Int32 × Int32), y = .inl z → zW p l e R s m args below meth c cells slots Q D Ca B 3 z.1 N 9 [(0, .ref x0), (1, .int z.2.1), (2, .int z.2.2)] []) ∧ (∀ z : (zS × Int32), y = .inr z → zW p l e R s m args below meth c cells slots Q D Ca B 3 z.1 N 48 [(0, .ref x0), (1, .int z.2)] [])) : zW p l e R s m args below meth c cells slots Q D Ca B 3 σ N 42 [(0, .ref x0), (1, .int x1), (2, .int x2)] [] := by
  unfold jX10_skew_42_L9 at hf
  refine z_iinc (lv2 := [(2, .int (x2 + (zi 1))), (0, .ref x0), (1, .int x1)]) C (x2 + (zi 1)) dX10_skew_42 2 rfl rfl (by decide) rfl ?_
  refine z_goto C 9 dX10_skew_45 (by decide) ?_
  cases hf
  refine z_sub [1, 2, 0] rfl ?_
  exact hk.1 _ rfl

set_option maxRecDepth 100000 in
set_option maxHeartbeats 4000000 in
theorem wsX10_skew_9b (C : zC p s m args meth c cX10_skew RX10 3 D Ca B En) (hRm : zRm R 1 22 cells slots) (x0 : Nat) (σ : zS) (u1 : Int32) (u2 : Int32) (y : (zS × Int32 × Int32) ⊕ (zS × Int32)) (hf : sX10_skew_9b x0 σ u1 u2 = some y) (hk : (∀ z : (zS × Int32 × Int32), y = .inl z → zW p l e R s m args below meth c cells slots Q D Ca B 3 z.1 N 9 [(0, .ref x0), (1, .int z.2.1), (2, .int z.2.2)] []) ∧ (∀ z : (zS × Int32), y = .inr z → zW p l e R s m args below meth c cells slots Q D Ca B 3 z.1 N 48 [(0, .ref x0), (1, .int z.2)] [])) : zW p l e R s m args below meth c cells slots Q D Ca B 3 σ N 9 [(0, .ref x0), (1, .int u1), (2, .int u2)] [] := by
  unfold sX10_skew_9b at hf
  refine z_iload_n C dX10_skew_9 rfl 2 rfl ?_
  refine z_aload_n C dX10_skew_10 rfl 0 rfl ?_
  obtain ⟨v2, hv2, hf⟩ := zbind hf
  refine gf_RX10_21 C hv2 dX10_skew_11 ?_
  refine z_iconst C (zi 1) dX10_skew_14 (by decide) ?_
  obtain ⟨v3, hv3, hf⟩ := zbind hf
  refine z_aI C hv3 dX10_skew_15 ?_
  refine z_icmp_ge C 48 dX10_skew_16 (by decide) (fun q9 => ?_) (fun q9 => ?_)
  · rw [if_pos q9] at hf
    cases hf
    refine z_sub [0, 1] rfl ?_
    exact hk.2 _ rfl
  · rw [if_neg q9] at hf
    refine z_aload_n C dX10_skew_19 rfl 0 rfl ?_
    obtain ⟨v4, hv4, hf⟩ := zbind hf
    refine gf_RX10_21 C hv4 dX10_skew_20 ?_
    refine z_bipush C (zi 33) dX10_skew_23 (by decide) ?_
    refine z_iload_n C dX10_skew_25 rfl 2 rfl ?_
    refine z_iadd C dX10_skew_26 ?_
    obtain ⟨v5, hv5, hf⟩ := zbind hf
    refine z_aI C hv5 dX10_skew_27 ?_
    refine z_iload_n C dX10_skew_28 rfl 1 rfl ?_
    refine z_icmp_le C 42 dX10_skew_29 (by decide) (fun q8 => ?_) (fun q8 => ?_)
    · rw [if_pos q8] at hf
      refine z_sub [0, 1, 2] rfl ?_
      exact wjX10_skew_42_L9 C hRm _ _ _ _  _ hf hk
    · rw [if_neg q8] at hf
      refine z_aload_n C dX10_skew_32 rfl 0 rfl ?_
      obtain ⟨v6, hv6, hf⟩ := zbind hf
      refine gf_RX10_21 C hv6 dX10_skew_33 ?_
      refine z_bipush C (zi 33) dX10_skew_36 (by decide) ?_
      refine z_iload_n C dX10_skew_38 rfl 2 rfl ?_
      refine z_iadd C dX10_skew_39 ?_
      obtain ⟨v7, hv7, hf⟩ := zbind hf
      refine z_aI C hv7 dX10_skew_40 ?_
      refine z_istore_n (lv2 := [(1, .int v7), (0, .ref x0), (2, .int u2)]) C dX10_skew_41 rfl (by decide) rfl ?_
      refine z_sub [1, 0, 2] rfl ?_
      exact wjX10_skew_42_L9 C hRm _ _ _ _  _ hf hk

theorem wsX10_skew_9 (C : zC p s m args meth c cX10_skew RX10 3 D Ca B En) (hRm : zRm R 1 22 cells slots) (x0 : Nat) (n : Nat) (z : (zS × Int32 × Int32)) (x : (zS × Int32)) (hf : zloop (sX10_skew_9 x0) n z = some x) (hk : (∀ o : (zS × Int32), x = o → zW p l e R s m args below meth c cells slots Q D Ca B 3 o.1 N 48 [(0, .ref x0), (1, .int o.2)] [])) : zW p l e R s m args below meth c cells slots Q D Ca B 3 z.1 N 9 [(0, .ref x0), (1, .int z.2.1), (2, .int z.2.2)] [] := by
  refine zloop_W (P := fun z : (zS × Int32 × Int32) => zW p l e R s m args below meth c cells slots Q D Ca B 3 z.1 N 9 [(0, .ref x0), (1, .int z.2.1), (2, .int z.2.2)] []) (K := fun x : (zS × Int32) => (∀ o : (zS × Int32), x = o → zW p l e R s m args below meth c cells slots Q D Ca B 3 o.1 N 48 [(0, .ref x0), (1, .int o.2)] [])) ?_ n z x hf hk
  intro z y hy h1 h2
  refine wsX10_skew_9b C hRm x0 z.1 z.2.1 z.2.2 y hy ⟨fun z2 e => h1 z2 e, fun o e => (h2 _ e) o rfl⟩
set_option maxRecDepth 100000 in
set_option maxHeartbeats 4000000 in
theorem wfX10_skew (C : zC p s m args meth c cX10_skew RX10 3 D Ca B En) (hRm : zRm R 1 22 cells slots) (σ : zS) (x0 : Nat) (τ : zS) (r : UInt64) (hf : fX10_skew σ x0 = some (τ, r)) (hq : ∀ (pc : Nat) (lv : List (Nat × Value)), decode cX10_skew pc = .ok (.dreturn, 1) → zW p l e R s m args below meth c cells slots Q D Ca B 3 τ N pc lv [.double r]) : zW p l e R s m args below meth c cells slots Q D Ca B 3 σ N 0 [(0, .ref x0)] [] := by
  unfold fX10_skew at hf
  refine z_aload_n C dX10_skew_0 rfl 0 rfl ?_
  refine z_iconst C (zi 0) dX10_skew_1 (by decide) ?_
  obtain ⟨σ1, hσ1, hf⟩ := zbind hf
  refine gp_RX10_92 C hσ1 dX10_skew_2 ?_
  refine z_iconst C (zi 0) dX10_skew_5 (by decide) ?_
  refine z_istore_n (lv2 := [(1, .int ((zi 0))), (0, .ref x0)]) C dX10_skew_6 rfl (by decide) rfl ?_
  refine z_iconst C (zi 0) dX10_skew_7 (by decide) ?_
  refine z_istore_n (lv2 := [(2, .int ((zi 0))), (1, .int ((zi 0))), (0, .ref x0)]) C dX10_skew_8 rfl (by decide) rfl ?_
  obtain ⟨o10, ho10, hf⟩ := zbind hf
  refine z_sub [2, 1, 0] rfl ?_
  refine wsX10_skew_9 C hRm _ zfuel (σ1, (zi 0), (zi 0)) o10 ho10 ?_
  intro z9 e9
  subst e9
  refine z_iload_n C dX10_skew_48 rfl 1 rfl ?_
  refine z_if_ne C 56 dX10_skew_49 (by decide) (fun q16 => ?_) (fun q16 => ?_)
  · rw [if_neg q16] at hf
    refine z_iload_n C dX10_skew_56 rfl 1 rfl ?_
    refine z_i2d C dX10_skew_57 ?_
    refine z_aload_n C dX10_skew_58 rfl 0 rfl ?_
    obtain ⟨c11, hc11, hf⟩ := zbind hf
    obtain ⟨kc11, hc11⟩ := zck_ok hc11
    refine z_callVi (As := []) (F0 := 1) (L0 := 22) C (mX10_allHandled l D Ca B En C.2.2.2.2.2.2.2.1 o10.1 N x0  _ hc11) hRm kc11 rfl kw_1693 kw_14 kw_1690 kw_1692 kp_92 hyX10_allHandled (Nat.le_of_ble_eq_true rfl) (Nat.le_of_ble_eq_true rfl) rfl rfl (Nat.le_of_ble_eq_true rfl) dX10_skew_59 ?_
    refine z_i2d C dX10_skew_62 ?_
    refine z_aload_n C dX10_skew_63 rfl 0 rfl ?_
    obtain ⟨v12, hv12, hf⟩ := zbind hf
    refine gf_RX10_21 C hv12 dX10_skew_64 ?_
    refine z_iconst C (zi 1) dX10_skew_67 (by decide) ?_
    obtain ⟨v13, hv13, hf⟩ := zbind hf
    refine z_aI C hv13 dX10_skew_68 ?_
    refine z_i2d C dX10_skew_69 ?_
    obtain ⟨v14, hv14, hf⟩ := zbind hf
    obtain ⟨hnv14, ev14⟩ := zn64_ok hv14
    refine z_ddiv C dX10_skew_70 hnv14 ?_
    rw [ev14]
    obtain ⟨v15, hv15, hf⟩ := zbind hf
    obtain ⟨hnv15, ev15⟩ := zn64_ok hv15
    refine z_ddiv C dX10_skew_71 hnv15 ?_
    rw [ev15]
    cases hf
    exact hq _ _ dX10_skew_72
  · rw [if_pos q16] at hf
    refine z_dconst0 C dX10_skew_52 ?_
    refine z_goto C 72 dX10_skew_53 (by decide) ?_
    cases hf
    exact hq _ _ dX10_skew_72

theorem mX10_skew (l : Launch) (D : va_G) (Ca : Nat → ClassId) (B : Nat) (En : State → Prop) (hE : zEk B En) (σ : zS) (N : Nat) (x0 : Nat) (X : zS × UInt64) (hf : fX10_skew σ x0 = some X) : zMd l D Ca B En yX10_skew cX10_skew 3 (Option.some Jvm.ClassFile.FieldType.double) 1 22 [.ref x0] σ N X.1 X.2 :=
  zMet_d (own := RX10) hE (by decide +kernel) rfl (Nat.le_of_ble_eq_true rfl) (fun p e s m args below meth c C hr hRm => wfX10_skew C hRm σ x0 X.1 X.2 hf (fun pc lv hd => zfin_d C hr hd))
end ZM
