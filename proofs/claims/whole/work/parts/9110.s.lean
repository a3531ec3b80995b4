/-! saysNumber, by the depth of its recursion; printSink. -/
theorem kw_1917 : (Jvm.Cond.methodLink "BarrierFlowModel" (458 : Nat) ({ cls := "BarrierFlowModel", name := "saysNumber", desc := "(I)V" } : Jvm.MethodName)) ∈ zTb := zTb_of 1917 (by decide +kernel) (by decide +kernel)
theorem kw_1919 : (Jvm.Cond.instanceMethod ({ cls := "BarrierFlowModel", name := "saysNumber", desc := "(I)V" } : Jvm.MethodName)) ∈ zTb := zTb_of 1919 (by decide +kernel) (by decide +kernel)
theorem kw_1920 : (Jvm.Cond.code ({ cls := "BarrierFlowModel", name := "saysNumber", desc := "(I)V" } : Jvm.MethodName) prog_12_method_142_code (2 : Nat) (Option.none : Option Jvm.ClassFile.FieldType)) ∈ zTb := zTb_of 1920 (by decide +kernel) (by decide +kernel)
theorem kp_117 : Jvm.Cond.selects yX10_saysNumber.cls yX10_saysNumber yX10_saysNumber ∈ zTb := zTb_ofP 117 (by decide +kernel) (by decide +kernel)
section ZM
variable {p : Program} {l : Launch} {e : Env} {R : Room} {s : State} {m : MethodId} {args : Array Value} {below : List Frame} {meth : Method} {c : Code} {cells slots : Nat} {Q : State → Prop} {D : va_G} {Ca : Nat → ClassId} {B : Nat} {En : State → Prop} {N : Nat}
theorem dX10_saysNumber_0 : decode cX10_saysNumber 0 = .ok (.iload_n 1, 1) := by decide +kernel
theorem dX10_saysNumber_1 : decode cX10_saysNumber 1 = .ok (.bipush 9, 2) := by decide +kernel
theorem dX10_saysNumber_3 : decode cX10_saysNumber 3 = .ok (.if_icmp .le 11, 3) := by decide +kernel
theorem dX10_saysNumber_6 : decode cX10_saysNumber 6 = .ok (.aload_n 0, 1) := by decide +kernel
theorem dX10_saysNumber_7 : decode cX10_saysNumber 7 = .ok (.iload_n 1, 1) := by decide +kernel
theorem dX10_saysNumber_8 : decode cX10_saysNumber 8 = .ok (.bipush 10, 2) := by decide +kernel
theorem dX10_saysNumber_10 : decode cX10_saysNumber 10 = .ok (.idiv, 1) := by decide +kernel
theorem dX10_saysNumber_11 : decode cX10_saysNumber 11 = .ok (.invokevirtual 458, 3) := by decide +kernel
theorem dX10_saysNumber_14 : decode cX10_saysNumber 14 = .ok (.aload_n 0, 1) := by decide +kernel
theorem dX10_saysNumber_15 : decode cX10_saysNumber 15 = .ok (.bipush 48, 2) := by decide +kernel
theorem dX10_saysNumber_17 : decode cX10_saysNumber 17 = .ok (.iload_n 1, 1) := by decide +kernel
theorem dX10_saysNumber_18 : decode cX10_saysNumber 18 = .ok (.bipush 10, 2) := by decide +kernel
theorem dX10_saysNumber_20 : decode cX10_saysNumber 20 = .ok (.irem, 1) := by decide +kernel
theorem dX10_saysNumber_21 : decode cX10_saysNumber 21 = .ok (.iadd, 1) := by decide +kernel
theorem dX10_saysNumber_22 : decode cX10_saysNumber 22 = .ok (.invokevirtual 461, 3) := by decide +kernel
theorem dX10_saysNumber_25 : decode cX10_saysNumber 25 = .ok (.return_, 1) := by decide +kernel
theorem hyX10_saysNumber : yX10_saysNumber.cls ≠ "java/lang/invoke/MethodHandle" ∧ yX10_saysNumber.cls ≠ "java/lang/invoke/VarHandle" ∧ (parseMethodDescriptor yX10_saysNumber.desc).map (fun d => d.parameters.length) = some 1 := ⟨by decide +kernel, by decide +kernel, by decide +kernel⟩
set_option maxRecDepth 100000 in
set_option maxHeartbeats 4000000 in
theorem wjX10_saysNumber_14 {n : Nat} (C : zC p s m args meth c cX10_saysNumber RX10 2 D Ca B En) (hRm : zRm R (n + 1) (21 * (n + 1)) cells slots) (σ : zS) (x0 : Nat) (x1 : Int32)  (τ : zS) (hf : jX10_saysNumber_14 σ x0 x1  = some τ) (hq : ∀ (pc : Nat) (lv : List (Nat × Value)), decode cX10_saysNumber pc = .ok (.return_, 1) → zW p l e R s m args below meth c cells slots Q D Ca B 2 τ N pc lv []) : zW p l e R s m args below meth c cells slots Q D Ca B 2 σ N 14 [(0, .ref x0), (1, .int x1)] [] := by
  unfold jX10_saysNumber_14 at hf
  refine z_aload_n C dX10_saysNumber_14 rfl 0 rfl ?_
  refine z_bipush C (zi 48) dX10_saysNumber_15 (by decide) ?_
  refine z_iload_n C dX10_saysNumber_17 rfl 1 rfl ?_
  refine z_bipush C (zi 10) dX10_saysNumber_18 (by decide) ?_
  refine z_irem C dX10_saysNumber_20 (by decide) ?_
  refine z_iadd C dX10_saysNumber_21 ?_
  obtain ⟨c1, hc1, hf⟩ := zbind hf
  obtain ⟨kc1, hc1⟩ := zck_ok hc1
  refine z_callVv (As := [.int (((zi 48)) + (x1 - x1 / ((zi 10)) * ((zi 10))))]) (F0 := n + 1) (L0 := 21 * (n + 1)) C (mX10_says l D Ca B En C.2.2.2.2.2.2.2.1 σ N x0 (((zi 48)) + (x1 - x1 / ((zi 10)) * ((zi 10)))) _ hc1) hRm kc1 rfl kw_1916 kw_14 kw_1913 kw_1915 kp_116 hyX10_says (by omega) (by omega) rfl rfl (Nat.le_of_ble_eq_true rfl) dX10_saysNumber_22 ?_
  cases hf
  exact hq _ _ dX10_saysNumber_25

set_option maxRecDepth 100000 in
set_option maxHeartbeats 4000000 in
theorem wgX10_saysNumber {n : Nat} (ih : ∀ (σ : zS) (x0 : Nat) (x1 : Int32) (X : zS), gX10_saysNumber n σ x0 x1 = some X → zMv l D Ca B En yX10_saysNumber cX10_saysNumber 2 (Option.none : Option Jvm.ClassFile.FieldType) n (21 * n) [.ref x0, .int x1] σ N X ()) (C : zC p s m args meth c cX10_saysNumber RX10 2 D Ca B En) (hRm : zRm R (n + 1) (21 * (n + 1)) cells slots) (σ : zS) (x0 : Nat) (x1 : Int32) (τ : zS) (hf : gX10_saysNumber (n + 1) σ x0 x1 = some τ) (hq : ∀ (pc : Nat) (lv : List (Nat × Value)), decode cX10_saysNumber pc = .ok (.return_, 1) → zW p l e R s m args below meth c cells slots Q D Ca B 2 τ N pc lv []) : zW p l e R s m args below meth c cells slots Q D Ca B 2 σ N 0 [(0, .ref x0), (1, .int x1)] [] := by
  unfold gX10_saysNumber at hf
  refine z_iload_n C dX10_saysNumber_0 rfl 1 rfl ?_
  refine z_bipush C (zi 9) dX10_saysNumber_1 (by decide) ?_
  refine z_icmp_le C 14 dX10_saysNumber_3 (by decide) (fun q3 => ?_) (fun q3 => ?_)
  · rw [if_pos q3] at hf
    refine z_sub [0, 1] rfl ?_
    exact wjX10_saysNumber_14 C hRm _ _ _  _ hf hq
  · rw [if_neg q3] at hf
    refine z_aload_n C dX10_saysNumber_6 rfl 0 rfl ?_
    refine z_iload_n C dX10_saysNumber_7 rfl 1 rfl ?_
    refine z_bipush C (zi 10) dX10_saysNumber_8 (by decide) ?_
    refine z_idiv C dX10_saysNumber_10 (by decide) ?_
    obtain ⟨c2, hc2, hf⟩ := zbind hf
    obtain ⟨kc2, hc2⟩ := zck_ok hc2
    refine z_callVv (As := [.int (x1 / ((zi 10)))]) (F0 := n + 1) (L0 := 21 * (n + 1)) C (ih σ x0 (x1 / ((zi 10))) _ hc2) hRm kc2 rfl kw_1920 kw_14 kw_1917 kw_1919 kp_117 hyX10_saysNumber (by omega) (by omega) rfl rfl (Nat.le_of_ble_eq_true rfl) dX10_saysNumber_11 ?_
    refine z_sub [0, 1] rfl ?_
    exact wjX10_saysNumber_14 C hRm _ _ _  _ hf hq

theorem mgX10_saysNumber (l : Launch) (D : va_G) (Ca : Nat → ClassId) (B : Nat) (En : State → Prop) (hE : zEk B En) (N : Nat) : ∀ (n : Nat) (σ : zS) (x0 : Nat) (x1 : Int32) (X : zS), gX10_saysNumber n σ x0 x1 = some X → zMv l D Ca B En yX10_saysNumber cX10_saysNumber 2 (Option.none : Option Jvm.ClassFile.FieldType) n (21 * n) [.ref x0, .int x1] σ N X ()
  | 0, _, _, _, _, hf => by cases hf
  | n + 1, σ, x0, x1, X, hf =>
    zMet_v (own := RX10) hE (by decide +kernel) rfl (Nat.le_of_ble_eq_true rfl) (fun p e s m args below meth c C hr hRm => wgX10_saysNumber (n := n) (mgX10_saysNumber l D Ca B En hE N n) C hRm σ x0 x1 X hf (fun pc lv hd => zfin_v (r := ()) C hr hd))
theorem mX10_saysNumber (l : Launch) (D : va_G) (Ca : Nat → ClassId) (B : Nat) (En : State → Prop) (hE : zEk B En) (σ : zS) (N : Nat) (x0 : Nat) (x1 : Int32) (X : zS) (hf : fX10_saysNumber σ x0 x1 = some X) : zMv l D Ca B En yX10_saysNumber cX10_saysNumber 2 (Option.none : Option Jvm.ClassFile.FieldType) 5 105 [.ref x0, .int x1] σ N X () := mgX10_saysNumber l D Ca B En hE N 5 σ x0 x1 X hf
theorem dX10_printSink_0 : decode cX10_printSink 0 = .ok (.aload_n 0, 1) := by decide +kernel
theorem dX10_printSink_1 : decode cX10_printSink 1 = .ok (.aload_n 0, 1) := by decide +kernel
theorem dX10_printSink_2 : decode cX10_printSink 2 = .ok (.iload_n 1, 1) := by decide +kernel
theorem dX10_printSink_3 : decode cX10_printSink 3 = .ok (.invokevirtual 344, 3) := by decide +kernel
theorem dX10_printSink_6 : decode cX10_printSink 6 = .ok (.invokevirtual 96, 3) := by decide +kernel
theorem dX10_printSink_9 : decode cX10_printSink 9 = .ok (.ifCond .ne 5, 3) := by decide +kernel
theorem dX10_printSink_12 : decode cX10_printSink 12 = .ok (.iconst 0, 1) := by decide +kernel
theorem dX10_printSink_13 : decode cX10_printSink 13 = .ok (.ireturn, 1) := by decide +kernel
theorem dX10_printSink_14 : decode cX10_printSink 14 = .ok (.aload_n 0, 1) := by decide +kernel
theorem dX10_printSink_15 : decode cX10_printSink 15 = .ok (.iconst 0, 1) := by decide +kernel
theorem dX10_printSink_16 : decode cX10_printSink 16 = .ok (.putfield 455, 3) := by decide +kernel
theorem dX10_printSink_19 : decode cX10_printSink 19 = .ok (.sipush 12996, 3) := by decide +kernel
theorem dX10_printSink_22 : decode cX10_printSink 22 = .ok (.iload_n 1, 1) := by decide +kernel
theorem dX10_printSink_23 : decode cX10_printSink 23 = .ok (.invokestatic 155, 3) := by decide +kernel
theorem dX10_printSink_26 : decode cX10_printSink 26 = .ok (.istore_n 2, 1) := by decide +kernel
theorem dX10_printSink_27 : decode cX10_printSink 27 = .ok (.iconst 0, 1) := by decide +kernel
theorem dX10_printSink_28 : decode cX10_printSink 28 = .ok (.istore_n 3, 1) := by decide +kernel
theorem dX10_printSink_29 : decode cX10_printSink 29 = .ok (.iload_n 3, 1) := by decide +kernel
theorem dX10_printSink_30 : decode cX10_printSink 30 = .ok (.aload_n 0, 1) := by decide +kernel
theorem dX10_printSink_31 : decode cX10_printSink 31 = .ok (.getfield 21, 3) := by decide +kernel
theorem dX10_printSink_34 : decode cX10_printSink 34 = .ok (.iload_n 2, 1) := by decide +kernel
theorem dX10_printSink_35 : decode cX10_printSink 35 = .ok (.iaload, 1) := by decide +kernel
theorem dX10_printSink_36 : decode cX10_printSink 36 = .ok (.if_icmp .ge 55, 3) := by decide +kernel
theorem dX10_printSink_39 : decode cX10_printSink 39 = .ok (.aload_n 0, 1) := by decide +kernel
theorem dX10_printSink_40 : decode cX10_printSink 40 = .ok (.bipush 107, 2) := by decide +kernel
theorem dX10_printSink_42 : decode cX10_printSink 42 = .ok (.invokevirtual 461, 3) := by decide +kernel
theorem dX10_printSink_45 : decode cX10_printSink 45 = .ok (.aload_n 0, 1) := by decide +kernel
theorem dX10_printSink_46 : decode cX10_printSink 46 = .ok (.aload_n 0, 1) := by decide +kernel
theorem dX10_printSink_47 : decode cX10_printSink 47 = .ok (.iload_n 2, 1) := by decide +kernel
theorem dX10_printSink_48 : decode cX10_printSink 48 = .ok (.iload_n 3, 1) := by decide +kernel
theorem dX10_printSink_49 : decode cX10_printSink 49 = .ok (.invokevirtual 100, 3) := by decide +kernel
theorem dX10_printSink_52 : decode cX10_printSink 52 = .ok (.sipush 20000, 3) := by decide +kernel
theorem dX10_printSink_55 : decode cX10_printSink 55 = .ok (.idiv, 1) := by decide +kernel
theorem dX10_printSink_56 : decode cX10_printSink 56 = .ok (.invokevirtual 458, 3) := by decide +kernel
theorem dX10_printSink_59 : decode cX10_printSink 59 = .ok (.aload_n 0, 1) := by decide +kernel
theorem dX10_printSink_60 : decode cX10_printSink 60 = .ok (.bipush 61, 2) := by decide +kernel
theorem dX10_printSink_62 : decode cX10_printSink 62 = .ok (.invokevirtual 461, 3) := by decide +kernel
theorem dX10_printSink_65 : decode cX10_printSink 65 = .ok (.aload_n 0, 1) := by decide +kernel
theorem dX10_printSink_66 : decode cX10_printSink 66 = .ok (.aload_n 0, 1) := by decide +kernel
theorem dX10_printSink_67 : decode cX10_printSink 67 = .ok (.iload_n 2, 1) := by decide +kernel
theorem dX10_printSink_68 : decode cX10_printSink 68 = .ok (.iload_n 3, 1) := by decide +kernel
theorem dX10_printSink_69 : decode cX10_printSink 69 = .ok (.invokevirtual 100, 3) := by decide +kernel
theorem dX10_printSink_72 : decode cX10_printSink 72 = .ok (.sipush 20000, 3) := by decide +kernel
theorem dX10_printSink_75 : decode cX10_printSink 75 = .ok (.irem, 1) := by decide +kernel
theorem dX10_printSink_76 : decode cX10_printSink 76 = .ok (.invokevirtual 458, 3) := by decide +kernel
theorem dX10_printSink_79 : decode cX10_printSink 79 = .ok (.aload_n 0, 1) := by decide +kernel
theorem dX10_printSink_80 : decode cX10_printSink 80 = .ok (.bipush 10, 2) := by decide +kernel
theorem dX10_printSink_82 : decode cX10_printSink 82 = .ok (.invokevirtual 461, 3) := by decide +kernel
theorem dX10_printSink_85 : decode cX10_printSink 85 = .ok (.iinc 3 1, 3) := by decide +kernel
theorem dX10_printSink_88 : decode cX10_printSink 88 = .ok (.goto (-59), 3) := by decide +kernel
theorem dX10_printSink_91 : decode cX10_printSink 91 = .ok (.aload_n 0, 1) := by decide +kernel
theorem dX10_printSink_92 : decode cX10_printSink 92 = .ok (.getfield 455, 3) := by decide +kernel
theorem dX10_printSink_95 : decode cX10_printSink 95 = .ok (.ireturn, 1) := by decide +kernel
theorem hyX10_printSink : yX10_printSink.cls ≠ "java/lang/invoke/MethodHandle" ∧ yX10_printSink.cls ≠ "java/lang/invoke/VarHandle" ∧ (parseMethodDescriptor yX10_printSink.desc).map (fun d => d.parameters.length) = some 1 := ⟨by decide +kernel, by decide +kernel, by decide +kernel⟩
set_option maxRecDepth 100000 in
set_option maxHeartbeats 4000000 in
theorem wsX10_printSink_29b (C : zC p s m args meth c cX10_printSink RX10 4 D Ca B En) (hRm : zRm R 6 126 cells slots) (x0 : Nat) (x2 : Int32) (σ : zS) (u3 : Int32) (y : (zS × Int32) ⊕ zS) (hf : sX10_printSink_29b x0 x2 σ u3 = some y) (hk : (∀ z : (zS × Int32), y = .inl z → zW p l e R s m args below meth c cells slots Q D Ca B 4 z.1 N 29 [(0, .ref x0), (2, .int x2), (3, .int z.2)] []) ∧ (∀ z : zS, y = .inr z → zW p l e R s m args below meth c cells slots Q D Ca B 4 z N 91 [(0, .ref x0)] [])) : zW p l e R s m args below meth c cells slots Q D Ca B 4 σ N 29 [(0, .ref x0), (2, .int x2), (3, .int u3)] [] := by
  unfold sX10_printSink_29b at hf
  refine z_iload_n C dX10_printSink_29 rfl 2 rfl ?_
  refine z_aload_n C dX10_printSink_30 rfl 0 rfl ?_
  obtain ⟨v5, hv5, hf⟩ := zbind hf
  refine gf_RX10_21 C hv5 dX10_printSink_31 ?_
  refine z_iload_n C dX10_printSink_34 rfl 1 rfl ?_
  obtain ⟨v6, hv6, hf⟩ := zbind hf
  refine z_aI C hv6 dX10_printSink_35 ?_
  refine z_icmp_ge C 91 dX10_printSink_36 (by decide) (fun q14 => ?_) (fun q14 => ?_)
  · rw [if_pos q14] at hf
    cases hf
    refine z_sub [0] rfl ?_
    exact hk.2 _ rfl
  · rw [if_neg q14] at hf
    refine z_aload_n C dX10_printSink_39 rfl 0 rfl ?_
    refine z_bipush C (zi 107) dX10_printSink_40 (by decide) ?_
    obtain ⟨c7, hc7, hf⟩ := zbind hf
    obtain ⟨kc7, hc7⟩ := zck_ok hc7
    refine z_callVv (As := [.int ((zi 107))]) (F0 := 6) (L0 := 126) C (mX10_says l D Ca B En C.2.2.2.2.2.2.2.1 σ N x0 ((zi 107)) _ hc7) hRm kc7 rfl kw_1916 kw_14 kw_1913 kw_1915 kp_116 hyX10_says (Nat.le_of_ble_eq_true rfl) (Nat.le_of_ble_eq_true rfl) rfl rfl (Nat.le_of_ble_eq_true rfl) dX10_printSink_42 ?_
    refine z_aload_n C dX10_printSink_45 rfl 0 rfl ?_
    refine z_aload_n C dX10_printSink_46 rfl 0 rfl ?_
    refine z_iload_n C dX10_printSink_47 rfl 1 rfl ?_
    refine z_iload_n C dX10_printSink_48 rfl 2 rfl ?_
    obtain ⟨c8, hc8, hf⟩ := zbind hf
    obtain ⟨kc8, hc8⟩ := zck_ok hc8
    refine z_callVi (As := [.int x2, .int u3]) (F0 := 6) (L0 := 126) C (mX10_at l D Ca B En C.2.2.2.2.2.2.2.1 c7 N x0 x2 u3 _ hc8) hRm kc8 rfl kw_1439 kw_14 kw_1436 kw_1438 kp_45 hyX10_at (Nat.le_of_ble_eq_true rfl) (Nat.le_of_ble_eq_true rfl) rfl rfl (Nat.le_of_ble_eq_true rfl) dX10_printSink_49 ?_
    refine z_sipush C (zi 20000) dX10_printSink_52 (by decide) ?_
    refine z_idiv C dX10_printSink_55 (by decide) ?_
    obtain ⟨c9, hc9, hf⟩ := zbind hf
    obtain ⟨kc9, hc9⟩ := zck_ok hc9
    refine z_callVv (As := [.int (c8.2 / ((zi 20000)))]) (F0 := 6) (L0 := 126) C (mX10_saysNumber l D Ca B En C.2.2.2.2.2.2.2.1 c8.1 N x0 (c8.2 / ((zi 20000))) _ hc9) hRm kc9 rfl kw_1920 kw_14 kw_1917 kw_1919 kp_117 hyX10_saysNumber (Nat.le_of_ble_eq_true rfl) (Nat.le_of_ble_eq_true rfl) rfl rfl (Nat.le_of_ble_eq_true rfl) dX10_printSink_56 ?_
    refine z_aload_n C dX10_printSink_59 rfl 0 rfl ?_
    refine z_bipush C (zi 61) dX10_printSink_60 (by decide) ?_
    obtain ⟨c10, hc10, hf⟩ := zbind hf
    obtain ⟨kc10, hc10⟩ := zck_ok hc10
    refine z_callVv (As := [.int ((zi 61))]) (F0 := 6) (L0 := 126) C (mX10_says l D Ca B En C.2.2.2.2.2.2.2.1 c9 N x0 ((zi 61)) _ hc10) hRm kc10 rfl kw_1916 kw_14 kw_1913 kw_1915 kp_116 hyX10_says (Nat.le_of_ble_eq_true rfl) (Nat.le_of_ble_eq_true rfl) rfl rfl (Nat.le_of_ble_eq_true rfl) dX10_printSink_62 ?_
    refine z_aload_n C dX10_printSink_65 rfl 0 rfl ?_
    refine z_aload_n C dX10_printSink_66 rfl 0 rfl ?_
    refine z_iload_n C dX10_printSink_67 rfl 1 rfl ?_
    refine z_iload_n C dX10_printSink_68 rfl 2 rfl ?_
    obtain ⟨c11, hc11, hf⟩ := zbind hf
    obtain ⟨kc11, hc11⟩ := zck_ok hc11
    refine z_callVi (As := [.int x2, .int u3]) (F0 := 6) (L0 := 126) C (mX10_at l D Ca B En C.2.2.2.2.2.2.2.1 c10 N x0 x2 u3 _ hc11) hRm kc11 rfl kw_1439 kw_14 kw_1436 kw_1438 kp_45 hyX10_at (Nat.le_of_ble_eq_true rfl) (Nat.le_of_ble_eq_true rfl) rfl rfl (Nat.le_of_ble_eq_true rfl) dX10_printSink_69 ?_
    refine z_sipush C (zi 20000) dX10_printSink_72 (by decide) ?_
    refine z_irem C dX10_printSink_75 (by decide) ?_
    obtain ⟨c12, hc12, hf⟩ := zbind hf
    obtain ⟨kc12, hc12⟩ := zck_ok hc12
    refine z_callVv (As := [.int (c11.2 - c11.2 / ((zi 20000)) * ((zi 20000)))]) (F0 := 6) (L0 := 126) C (mX10_saysNumber l D Ca B En C.2.2.2.2.2.2.2.1 c11.1 N x0 (c11.2 - c11.2 / ((zi 20000)) * ((zi 20000))) _ hc12) hRm kc12 rfl kw_1920 kw_14 kw_1917 kw_1919 kp_117 hyX10_saysNumber (Nat.le_of_ble_eq_true rfl) (Nat.le_of_ble_eq_true rfl) rfl rfl (Nat.le_of_ble_eq_true rfl) dX10_printSink_76 ?_
    refine z_aload_n C dX10_printSink_79 rfl 0 rfl ?_
    refine z_bipush C (zi 10) dX10_printSink_80 (by decide) ?_
    obtain ⟨c13, hc13, hf⟩ := zbind hf
    obtain ⟨kc13, hc13⟩ := zck_ok hc13
    refine z_callVv (As := [.int ((zi 10))]) (F0 := 6) (L0 := 126) C (mX10_says l D Ca B En C.2.2.2.2.2.2.2.1 c12 N x0 ((zi 10)) _ hc13) hRm kc13 rfl kw_1916 kw_14 kw_1913 kw_1915 kp_116 hyX10_says (Nat.le_of_ble_eq_true rfl) (Nat.le_of_ble_eq_true rfl) rfl rfl (Nat.le_of_ble_eq_true rfl) dX10_printSink_82 ?_
    refine z_iinc (lv2 := [(3, .int (u3 + (zi 1))), (0, .ref x0), (2, .int x2)]) C (u3 + (zi 1)) dX10_printSink_85 2 rfl rfl (by decide) rfl ?_
    refine z_goto C 29 dX10_printSink_88 (by decide) ?_
    cases hf
    refine z_sub [1, 2, 0] rfl ?_
    exact hk.1 _ rfl

theorem wsX10_printSink_29 (C : zC p s m args meth c cX10_printSink RX10 4 D Ca B En) (hRm : zRm R 6 126 cells slots) (x0 : Nat) (x2 : Int32) (n : Nat) (z : (zS × Int32)) (x : zS) (hf : zloop (sX10_printSink_29 x0 x2) n z = some x) (hk : (∀ o : zS, x = o → zW p l e R s m args below meth c cells slots Q D Ca B 4 o N 91 [(0, .ref x0)] [])) : zW p l e R s m args below meth c cells slots Q D Ca B 4 z.1 N 29 [(0, .ref x0), (2, .int x2), (3, .int z.2)] [] := by
  refine zloop_W (P := fun z : (zS × Int32) => zW p l e R s m args below meth c cells slots Q D Ca B 4 z.1 N 29 [(0, .ref x0), (2, .int x2), (3, .int z.2)] []) (K := fun x : zS => (∀ o : zS, x = o → zW p l e R s m args below meth c cells slots Q D Ca B 4 o N 91 [(0, .ref x0)] [])) ?_ n z x hf hk
  intro z y hy h1 h2
  refine wsX10_printSink_29b C hRm x0 x2 z.1 z.2 y hy ⟨fun z2 e => h1 z2 e, fun o e => (h2 _ e) o rfl⟩
set_option maxRecDepth 100000 in
set_option maxHeartbeats 4000000 in
theorem wfX10_printSink (C : zC p s m args meth c cX10_printSink RX10 4 D Ca B En) (hRm : zRm R 6 126 cells slots) (σ : zS) (x0 : Nat) (x1 : Int32) (τ : zS) (r : Int32) (hf : fX10_printSink σ x0 x1 = some (τ, r)) (hq : ∀ (pc : Nat) (lv : List (Nat × Value)), decode cX10_printSink pc = .ok (.ireturn, 1) → zW p l e R s m args below meth c cells slots Q D Ca B 4 τ N pc lv [.int r]) : zW p l e R s m args below meth c cells slots Q D Ca B 4 σ N 0 [(0, .ref x0), (1, .int x1)] [] := by
  unfold fX10_printSink at hf
  refine z_aload_n C dX10_printSink_0 rfl 0 rfl ?_
  refine z_aload_n C dX10_printSink_1 rfl 0 rfl ?_
  refine z_iload_n C dX10_printSink_2 rfl 1 rfl ?_
  obtain ⟨c1, hc1, hf⟩ := zbind hf
  obtain ⟨kc1, hc1⟩ := zck_ok hc1
  refine z_callVi (As := [.int x1]) (F0 := 6) (L0 := 126) C (mX10_isSink l D Ca B En C.2.2.2.2.2.2.2.1 σ N x0 x1 _ hc1) hRm kc1 rfl kw_1750 kw_14 kw_1747 kw_1749 kp_98 hyX10_isSink (Nat.le_of_ble_eq_true rfl) (Nat.le_of_ble_eq_true rfl) rfl rfl (Nat.le_of_ble_eq_true rfl) dX10_printSink_3 ?_
  obtain ⟨c2, hc2, hf⟩ := zbind hf
  obtain ⟨kc2, hc2⟩ := zck_ok hc2
  refine z_callVi (As := [.int c1.2]) (F0 := 6) (L0 := 126) C (mX10_is l D Ca B En C.2.2.2.2.2.2.2.1 c1.1 N x0 c1.2 _ hc2) hRm kc2 rfl kw_1373 kw_14 kw_1370 kw_1372 kp_37 hyX10_is (Nat.le_of_ble_eq_true rfl) (Nat.le_of_ble_eq_true rfl) rfl rfl (Nat.le_of_ble_eq_true rfl) dX10_printSink_6 ?_
  refine z_if_ne C 14 dX10_printSink_9 (by decide) (fun q17 => ?_) (fun q17 => ?_)
  · rw [if_neg q17] at hf
    refine z_aload_n C dX10_printSink_14 rfl 0 rfl ?_
    refine z_iconst C (zi 0) dX10_printSink_15 (by decide) ?_
    obtain ⟨σ3, hσ3, hf⟩ := zbind hf
    refine gp_RX10_455 C hσ3 dX10_printSink_16 ?_
    refine z_sipush C (zi 12996) dX10_printSink_19 (by decide) ?_
    refine z_iload_n C dX10_printSink_22 rfl 1 rfl ?_
    obtain ⟨c4, hc4, hf⟩ := zbind hf
    refine z_callSi (As := [.int ((zi 12996)), .int x1]) (F0 := 6) (L0 := 126) C (mX10_results l D Ca B En C.2.2.2.2.2.2.2.1 σ3 N ((zi 12996)) x1 _ hc4) hRm kw_1431 kw_14 kw_1429 kw_1430 hyX10_results (Nat.le_of_ble_eq_true rfl) (Nat.le_of_ble_eq_true rfl) rfl rfl (Nat.le_of_ble_eq_true rfl) dX10_printSink_23 ?_
    refine z_istore_n (lv2 := [(2, .int c4.2), (0, .ref x0), (1, .int x1)]) C dX10_printSink_26 rfl (by decide) rfl ?_
    refine z_iconst C (zi 0) dX10_printSink_27 (by decide) ?_
    refine z_istore_n (lv2 := [(3, .int ((zi 0))), (2, .int c4.2), (0, .ref x0), (1, .int x1)]) C dX10_printSink_28 rfl (by decide) rfl ?_
    obtain ⟨o15, ho15, hf⟩ := zbind hf
    refine z_sub [2, 1, 0] rfl ?_
    refine wsX10_printSink_29 C hRm _ _ zfuel (c4.1, (zi 0)) o15 ho15 ?_
    intro z9 e9
    subst e9
    refine z_aload_n C dX10_printSink_91 rfl 0 rfl ?_
    obtain ⟨v16, hv16, hf⟩ := zbind hf
    refine gf_RX10_455 C hv16 dX10_printSink_92 ?_
    cases hf
    exact hq _ _ dX10_printSink_95
  · rw [if_pos q17] at hf
    refine z_iconst C (zi 0) dX10_printSink_12 (by decide) ?_
    cases hf
    exact hq _ _ dX10_printSink_13

theorem mX10_printSink (l : Launch) (D : va_G) (Ca : Nat → ClassId) (B : Nat) (En : State → Prop) (hE : zEk B En) (σ : zS) (N : Nat) (x0 : Nat) (x1 : Int32) (X : zS × Int32) (hf : fX10_printSink σ x0 x1 = some X) : zMi l D Ca B En yX10_printSink cX10_printSink 4 (Option.some Jvm.ClassFile.FieldType.int) 6 126 [.ref x0, .int x1] σ N X.1 X.2 :=
  zMet_i (own := RX10) hE (by decide +kernel) rfl (Nat.le_of_ble_eq_true rfl) (fun p e s m args below meth c C hr hRm => wfX10_printSink C hRm σ x0 x1 X.1 X.2 hf (fun pc lv hd => zfin_i C hr hd))
end ZM
