/-! Methods: X9_needSource, X9_source, X9_needKey, X9_owner, X9_sum, X9_needInstance, X9_instance, X9_needSink, X9_sink, X9_shown, X9_progress, X9_completed, X9_notedPosition, X9_notedSum, X9_shownOf, X9_expected, X9_needTicks, X9_run, X9_begin, X9_rescale, X9_setRoom, X9_setLag, X9_setEvery -/
section ZM
variable {p : Program} {l : Launch} {e : Env} {R : Room} {s : State} {m : MethodId} {args : Array Value} {below : List Frame} {meth : Method} {c : Code} {cells slots : Nat} {Q : State → Prop} {D : va_G} {Ca : Nat → ClassId} {B : Nat} {En : State → Prop} {N : Nat}
theorem dX9_needSource_0 : decode cX9_needSource 0 = .ok (.iload_n 1, 1) := by decide +kernel
theorem dX9_needSource_1 : decode cX9_needSource 1 = .ok (.ifCond .lt 14, 3) := by decide +kernel
theorem dX9_needSource_4 : decode cX9_needSource 4 = .ok (.iload_n 1, 1) := by decide +kernel
theorem dX9_needSource_5 : decode cX9_needSource 5 = .ok (.aload_n 0, 1) := by decide +kernel
theorem dX9_needSource_6 : decode cX9_needSource 6 = .ok (.getfield 35, 3) := by decide +kernel
theorem dX9_needSource_9 : decode cX9_needSource 9 = .ok (.getfield 89, 3) := by decide +kernel
theorem dX9_needSource_12 : decode cX9_needSource 12 = .ok (.if_icmp .lt 11, 3) := by decide +kernel
theorem dX9_needSource_15 : decode cX9_needSource 15 = .ok (.new 155, 3) := by decide +kernel
theorem dX9_needSource_18 : decode cX9_needSource 18 = .ok (.dup, 1) := by decide +kernel
theorem dX9_needSource_19 : decode cX9_needSource 19 = .ok (.invokespecial 157, 3) := by decide +kernel
theorem dX9_needSource_22 : decode cX9_needSource 22 = .ok (.athrow, 1) := by decide +kernel
theorem dX9_needSource_23 : decode cX9_needSource 23 = .ok (.return_, 1) := by decide +kernel
theorem hyX9_needSource : yX9_needSource.cls ≠ "java/lang/invoke/MethodHandle" ∧ yX9_needSource.cls ≠ "java/lang/invoke/VarHandle" ∧ (parseMethodDescriptor yX9_needSource.desc).map (fun d => d.parameters.length) = some 1 := ⟨by decide +kernel, by decide +kernel, by decide +kernel⟩
set_option maxRecDepth 100000 in
set_option maxHeartbeats 4000000 in
theorem wfX9_needSource (C : zC p s m args meth c cX9_needSource RX9 2 D Ca B En) (hRm : zRm R 0 0 cells slots) (σ : zS) (x0 : Nat) (x1 : Int32) (τ : zS) (hf : fX9_needSource σ x0 x1 = some τ) (hq : ∀ (pc : Nat) (lv : List (Nat × Value)), decode cX9_needSource pc = .ok (.return_, 1) → zW p l e R s m args below meth c cells slots Q D Ca B 2 τ N pc lv []) : zW p l e R s m args below meth c cells slots Q D Ca B 2 σ N 0 [(0, .ref x0), (1, .int x1)] [] := by
  unfold fX9_needSource at hf
  refine z_iload_n C dX9_needSource_0 rfl 1 rfl ?_
  refine z_if_lt C 15 dX9_needSource_1 (by decide) (fun q4 => ?_) (fun q4 => ?_)
  · rw [if_pos q4] at hf
    cases hf
  · rw [if_neg q4] at hf
    refine z_iload_n C dX9_needSource_4 rfl 1 rfl ?_
    refine z_aload_n C dX9_needSource_5 rfl 0 rfl ?_
    obtain ⟨v1, hv1, hf⟩ := zbind hf
    refine gf_RX9_35 C hv1 dX9_needSource_6 ?_
    obtain ⟨v2, hv2, hf⟩ := zbind hf
    refine gf_RX9_89 C hv2 dX9_needSource_9 ?_
    refine z_icmp_lt C 23 dX9_needSource_12 (by decide) (fun q3 => ?_) (fun q3 => ?_)
    · rw [if_pos q3] at hf
      cases hf
      exact hq _ _ dX9_needSource_23
    · rw [if_neg q3] at hf
      cases hf

theorem mX9_needSource (l : Launch) (D : va_G) (Ca : Nat → ClassId) (B : Nat) (En : State → Prop) (hE : zEk B En) (σ : zS) (N : Nat) (x0 : Nat) (x1 : Int32) (X : zS) (hf : fX9_needSource σ x0 x1 = some X) : zMv l D Ca B En yX9_needSource cX9_needSource 2 (Option.none : Option Jvm.ClassFile.FieldType) 0 0 [.ref x0, .int x1] σ N X () :=
  zMet_v (own := RX9) hE (by decide +kernel) rfl (Nat.le_of_ble_eq_true rfl) (fun p e s m args below meth c C hr hRm => wfX9_needSource C hRm σ x0 x1 X hf (fun pc lv hd => zfin_v (r := ()) C hr hd))
theorem dX9_source_0 : decode cX9_source 0 = .ok (.aload_n 0, 1) := by decide +kernel
theorem dX9_source_1 : decode cX9_source 1 = .ok (.iload_n 1, 1) := by decide +kernel
theorem dX9_source_2 : decode cX9_source 2 = .ok (.invokevirtual 139, 3) := by decide +kernel
theorem dX9_source_5 : decode cX9_source 5 = .ok (.iload_n 2, 1) := by decide +kernel
theorem dX9_source_6 : decode cX9_source 6 = .ok (.tableswitch 70 0 3 #[30, 40, 50, 60], 30) := by decide +kernel
theorem dX9_source_36 : decode cX9_source 36 = .ok (.aload_n 0, 1) := by decide +kernel
theorem dX9_source_37 : decode cX9_source 37 = .ok (.getfield 35, 3) := by decide +kernel
theorem dX9_source_40 : decode cX9_source 40 = .ok (.getfield 142, 3) := by decide +kernel
theorem dX9_source_43 : decode cX9_source 43 = .ok (.iload_n 1, 1) := by decide +kernel
theorem dX9_source_44 : decode cX9_source 44 = .ok (.iaload, 1) := by decide +kernel
theorem dX9_source_45 : decode cX9_source 45 = .ok (.ireturn, 1) := by decide +kernel
theorem dX9_source_46 : decode cX9_source 46 = .ok (.aload_n 0, 1) := by decide +kernel
theorem dX9_source_47 : decode cX9_source 47 = .ok (.getfield 35, 3) := by decide +kernel
theorem dX9_source_50 : decode cX9_source 50 = .ok (.getfield 146, 3) := by decide +kernel
theorem dX9_source_53 : decode cX9_source 53 = .ok (.iload_n 1, 1) := by decide +kernel
theorem dX9_source_54 : decode cX9_source 54 = .ok (.iaload, 1) := by decide +kernel
theorem dX9_source_55 : decode cX9_source 55 = .ok (.ireturn, 1) := by decide +kernel
theorem dX9_source_56 : decode cX9_source 56 = .ok (.aload_n 0, 1) := by decide +kernel
theorem dX9_source_57 : decode cX9_source 57 = .ok (.getfield 50, 3) := by decide +kernel
theorem dX9_source_60 : decode cX9_source 60 = .ok (.getfield 149, 3) := by decide +kernel
theorem dX9_source_63 : decode cX9_source 63 = .ok (.iload_n 1, 1) := by decide +kernel
theorem dX9_source_64 : decode cX9_source 64 = .ok (.iaload, 1) := by decide +kernel
theorem dX9_source_65 : decode cX9_source 65 = .ok (.ireturn, 1) := by decide +kernel
theorem dX9_source_66 : decode cX9_source 66 = .ok (.aload_n 0, 1) := by decide +kernel
theorem dX9_source_67 : decode cX9_source 67 = .ok (.getfield 50, 3) := by decide +kernel
theorem dX9_source_70 : decode cX9_source 70 = .ok (.getfield 152, 3) := by decide +kernel
theorem dX9_source_73 : decode cX9_source 73 = .ok (.iload_n 1, 1) := by decide +kernel
theorem dX9_source_74 : decode cX9_source 74 = .ok (.iaload, 1) := by decide +kernel
theorem dX9_source_75 : decode cX9_source 75 = .ok (.ireturn, 1) := by decide +kernel
theorem dX9_source_76 : decode cX9_source 76 = .ok (.new 155, 3) := by decide +kernel
theorem dX9_source_79 : decode cX9_source 79 = .ok (.dup, 1) := by decide +kernel
theorem dX9_source_80 : decode cX9_source 80 = .ok (.invokespecial 157, 3) := by decide +kernel
theorem dX9_source_83 : decode cX9_source 83 = .ok (.athrow, 1) := by decide +kernel
theorem hyX9_source : yX9_source.cls ≠ "java/lang/invoke/MethodHandle" ∧ yX9_source.cls ≠ "java/lang/invoke/VarHandle" ∧ (parseMethodDescriptor yX9_source.desc).map (fun d => d.parameters.length) = some 2 := ⟨by decide +kernel, by decide +kernel, by decide +kernel⟩
set_option maxRecDepth 100000 in
set_option maxHeartbeats 4000000 in
theorem wfX9_source (C : zC p s m args meth c cX9_source RX9 3 D Ca B En) (hRm : zRm R 1 21 cells slots) (σ : zS) (x0 : Nat) (x1 : Int32) (x2 : Int32) (τ : zS) (r : Int32) (hf : fX9_source σ x0 x1 x2 = some (τ, r)) (hq : ∀ (pc : Nat) (lv : List (Nat × Value)), decode cX9_source pc = .ok (.ireturn, 1) → zW p l e R s m args below meth c cells slots Q D Ca B 3 τ N pc lv [.int r]) : zW p l e R s m args below meth c cells slots Q D Ca B 3 σ N 0 [(0, .ref x0), (1, .int x1), (2, .int x2)] [] := by
  unfold fX9_source at hf
  refine z_aload_n C dX9_source_0 rfl 0 rfl ?_
  refine z_iload_n C dX9_source_1 rfl 1 rfl ?_
  obtain ⟨c1, hc1, hf⟩ := zbind hf
  obtain ⟨kc1, hc1⟩ := zck_ok hc1
  refine z_callVv (As := [.int x1]) (F0 := 1) (L0 := 21) C (mX9_needSource l D Ca B En C.2.2.2.2.2.2.2.1 σ N x0 x1 _ hc1) hRm kc1 rfl kw_1224 kw_1 kw_1221 kw_1223 kp_32 hyX9_needSource (Nat.le_of_ble_eq_true rfl) (Nat.le_of_ble_eq_true rfl) rfl rfl (Nat.le_of_ble_eq_true rfl) dX9_source_2 ?_
  refine z_iload_n C dX9_source_5 rfl 2 rfl ?_
  by_cases q2 : x2 = (zi 0)
  · rw [if_pos q2] at hf
    refine z_tableIn C 36 dX9_source_6 (by rw [q2]; decide) (by rw [q2]; decide) (by rw [q2]; rfl) (by decide) ?_
    refine z_aload_n C dX9_source_36 rfl 0 rfl ?_
    obtain ⟨v3, hv3, hf⟩ := zbind hf
    refine gf_RX9_35 C hv3 dX9_source_37 ?_
    obtain ⟨v4, hv4, hf⟩ := zbind hf
    refine gf_RX9_142 C hv4 dX9_source_40 ?_
    refine z_iload_n C dX9_source_43 rfl 1 rfl ?_
    obtain ⟨v5, hv5, hf⟩ := zbind hf
    refine z_aI C hv5 dX9_source_44 ?_
    cases hf
    exact hq _ _ dX9_source_45
  · rw [if_neg q2] at hf
    by_cases q6 : x2 = (zi 1)
    · rw [if_pos q6] at hf
      refine z_tableIn C 46 dX9_source_6 (by rw [q6]; decide) (by rw [q6]; decide) (by rw [q6]; rfl) (by decide) ?_
      refine z_aload_n C dX9_source_46 rfl 0 rfl ?_
      obtain ⟨v7, hv7, hf⟩ := zbind hf
      refine gf_RX9_35 C hv7 dX9_source_47 ?_
      obtain ⟨v8, hv8, hf⟩ := zbind hf
      refine gf_RX9_146 C hv8 dX9_source_50 ?_
      refine z_iload_n C dX9_source_53 rfl 1 rfl ?_
      obtain ⟨v9, hv9, hf⟩ := zbind hf
      refine z_aI C hv9 dX9_source_54 ?_
      cases hf
      exact hq _ _ dX9_source_55
    · rw [if_neg q6] at hf
      by_cases q10 : x2 = (zi 2)
      · rw [if_pos q10] at hf
        refine z_tableIn C 56 dX9_source_6 (by rw [q10]; decide) (by rw [q10]; decide) (by rw [q10]; rfl) (by decide) ?_
        refine z_aload_n C dX9_source_56 rfl 0 rfl ?_
        obtain ⟨v11, hv11, hf⟩ := zbind hf
        refine gf_RX9_50 C hv11 dX9_source_57 ?_
        obtain ⟨v12, hv12, hf⟩ := zbind hf
        refine gf_RX9_149 C hv12 dX9_source_60 ?_
        refine z_iload_n C dX9_source_63 rfl 1 rfl ?_
        obtain ⟨v13, hv13, hf⟩ := zbind hf
        refine z_aI C hv13 dX9_source_64 ?_
        cases hf
        exact hq _ _ dX9_source_65
      · rw [if_neg q10] at hf
        by_cases q14 : x2 = (zi 3)
        · rw [if_pos q14] at hf
          refine z_tableIn C 66 dX9_source_6 (by rw [q14]; decide) (by rw [q14]; decide) (by rw [q14]; rfl) (by decide) ?_
          refine z_aload_n C dX9_source_66 rfl 0 rfl ?_
          obtain ⟨v15, hv15, hf⟩ := zbind hf
          refine gf_RX9_50 C hv15 dX9_source_67 ?_
          obtain ⟨v16, hv16, hf⟩ := zbind hf
          refine gf_RX9_152 C hv16 dX9_source_70 ?_
          refine z_iload_n C dX9_source_73 rfl 1 rfl ?_
          obtain ⟨v17, hv17, hf⟩ := zbind hf
          refine z_aI C hv17 dX9_source_74 ?_
          cases hf
          exact hq _ _ dX9_source_75
        · rw [if_neg q14] at hf
          have w9 : ∀ k : Nat, k < 4 → ¬ x2 = Int32.ofInt ((0 : Int) + k) := by
            intro k hk
            match k, hk with
            | 0, _ => exact q2
            | 1, _ => exact q6
            | 2, _ => exact q10
            | 3, _ => exact q14
            | k + 4, hk => exact absurd hk (by omega)
          refine z_tableOut C 76 dX9_source_6 (zsw 0 4 w9 (by decide)) (by decide) ?_
          cases hf

theorem mX9_source (l : Launch) (D : va_G) (Ca : Nat → ClassId) (B : Nat) (En : State → Prop) (hE : zEk B En) (σ : zS) (N : Nat) (x0 : Nat) (x1 : Int32) (x2 : Int32) (X : zS × Int32) (hf : fX9_source σ x0 x1 x2 = some X) : zMi l D Ca B En yX9_source cX9_source 3 (Option.some Jvm.ClassFile.FieldType.int) 1 21 [.ref x0, .int x1, .int x2] σ N X.1 X.2 :=
  zMet_i (own := RX9) hE (by decide +kernel) rfl (Nat.le_of_ble_eq_true rfl) (fun p e s m args below meth c C hr hRm => wfX9_source C hRm σ x0 x1 x2 X.1 X.2 hf (fun pc lv hd => zfin_i C hr hd))
theorem dX9_needKey_0 : decode cX9_needKey 0 = .ok (.iload_n 0, 1) := by decide +kernel
theorem dX9_needKey_1 : decode cX9_needKey 1 = .ok (.ifCond .lt 9, 3) := by decide +kernel
theorem dX9_needKey_4 : decode cX9_needKey 4 = .ok (.iload_n 0, 1) := by decide +kernel
theorem dX9_needKey_5 : decode cX9_needKey 5 = .ok (.bipush 16, 2) := by decide +kernel
theorem dX9_needKey_7 : decode cX9_needKey 7 = .ok (.if_icmp .lt 11, 3) := by decide +kernel
theorem dX9_needKey_10 : decode cX9_needKey 10 = .ok (.new 224, 3) := by decide +kernel
theorem dX9_needKey_13 : decode cX9_needKey 13 = .ok (.dup, 1) := by decide +kernel
theorem dX9_needKey_14 : decode cX9_needKey 14 = .ok (.invokespecial 226, 3) := by decide +kernel
theorem dX9_needKey_17 : decode cX9_needKey 17 = .ok (.athrow, 1) := by decide +kernel
theorem dX9_needKey_18 : decode cX9_needKey 18 = .ok (.return_, 1) := by decide +kernel
theorem hyX9_needKey : yX9_needKey.cls ≠ "java/lang/invoke/MethodHandle" ∧ yX9_needKey.cls ≠ "java/lang/invoke/VarHandle" ∧ (parseMethodDescriptor yX9_needKey.desc).map (fun d => d.parameters.length) = some 1 := ⟨by decide +kernel, by decide +kernel, by decide +kernel⟩
set_option maxRecDepth 100000 in
set_option maxHeartbeats 4000000 in
theorem wfX9_needKey (C : zC p s m args meth c cX9_needKey RX9 1 D Ca B En) (hRm : zRm R 0 0 cells slots) (σ : zS) (x0 : Int32) (τ : zS) (hf : fX9_needKey σ x0 = some τ) (hq : ∀ (pc : Nat) (lv : List (Nat × Value)), decode cX9_needKey pc = .ok (.return_, 1) → zW p l e R s m args below meth c cells slots Q D Ca B 1 τ N pc lv []) : zW p l e R s m args below meth c cells slots Q D Ca B 1 σ N 0 [(0, .int x0)] [] := by
  unfold fX9_needKey at hf
  refine z_iload_n C dX9_needKey_0 rfl 0 rfl ?_
  refine z_if_lt C 10 dX9_needKey_1 (by decide) (fun q2 => ?_) (fun q2 => ?_)
  · rw [if_pos q2] at hf
    cases hf
  · rw [if_neg q2] at hf
    refine z_iload_n C dX9_needKey_4 rfl 0 rfl ?_
    refine z_bipush C (zi 16) dX9_needKey_5 (by decide) ?_
    refine z_icmp_lt C 18 dX9_needKey_7 (by decide) (fun q1 => ?_) (fun q1 => ?_)
    · rw [if_pos q1] at hf
      cases hf
      exact hq _ _ dX9_needKey_18
    · rw [if_neg q1] at hf
      cases hf

theorem mX9_needKey (l : Launch) (D : va_G) (Ca : Nat → ClassId) (B : Nat) (En : State → Prop) (hE : zEk B En) (σ : zS) (N : Nat) (x0 : Int32) (X : zS) (hf : fX9_needKey σ x0 = some X) : zMv l D Ca B En yX9_needKey cX9_needKey 1 (Option.none : Option Jvm.ClassFile.FieldType) 0 0 [.int x0] σ N X () :=
  zMet_v (own := RX9) hE (by decide +kernel) rfl (Nat.le_of_ble_eq_true rfl) (fun p e s m args below meth c C hr hRm => wfX9_needKey C hRm σ x0 X hf (fun pc lv hd => zfin_v (r := ()) C hr hd))
theorem dX9_owner_0 : decode cX9_owner 0 = .ok (.iload_n 1, 1) := by decide +kernel
theorem dX9_owner_1 : decode cX9_owner 1 = .ok (.invokestatic 169, 3) := by decide +kernel
theorem dX9_owner_4 : decode cX9_owner 4 = .ok (.iload_n 1, 1) := by decide +kernel
theorem dX9_owner_5 : decode cX9_owner 5 = .ok (.aload_n 0, 1) := by decide +kernel
theorem dX9_owner_6 : decode cX9_owner 6 = .ok (.getfield 50, 3) := by decide +kernel
theorem dX9_owner_9 : decode cX9_owner 9 = .ok (.getfield 98, 3) := by decide +kernel
theorem dX9_owner_12 : decode cX9_owner 12 = .ok (.invokestatic 172, 3) := by decide +kernel
theorem dX9_owner_15 : decode cX9_owner 15 = .ok (.ireturn, 1) := by decide +kernel
theorem hyX9_owner : yX9_owner.cls ≠ "java/lang/invoke/MethodHandle" ∧ yX9_owner.cls ≠ "java/lang/invoke/VarHandle" ∧ (parseMethodDescriptor yX9_owner.desc).map (fun d => d.parameters.length) = some 1 := ⟨by decide +kernel, by decide +kernel, by decide +kernel⟩
set_option maxRecDepth 100000 in
set_option maxHeartbeats 4000000 in
theorem wfX9_owner (C : zC p s m args meth c cX9_owner RX9 2 D Ca B En) (hRm : zRm R 1 21 cells slots) (σ : zS) (x0 : Nat) (x1 : Int32) (τ : zS) (r : Int32) (hf : fX9_owner σ x0 x1 = some (τ, r)) (hq : ∀ (pc : Nat) (lv : List (Nat × Value)), decode cX9_owner pc = .ok (.ireturn, 1) → zW p l e R s m args below meth c cells slots Q D Ca B 2 τ N pc lv [.int r]) : zW p l e R s m args below meth c cells slots Q D Ca B 2 σ N 0 [(0, .ref x0), (1, .int x1)] [] := by
  unfold fX9_owner at hf
  refine z_iload_n C dX9_owner_0 rfl 1 rfl ?_
  obtain ⟨c1, hc1, hf⟩ := zbind hf
  refine z_callSv (As := [.int x1]) (F0 := 1) (L0 := 21) C (mX9_needKey l D Ca B En C.2.2.2.2.2.2.2.1 σ N x1 _ hc1) hRm kw_1288 kw_1 kw_1286 kw_1287 hyX9_needKey (Nat.le_of_ble_eq_true rfl) (Nat.le_of_ble_eq_true rfl) rfl rfl (Nat.le_of_ble_eq_true rfl) dX9_owner_1 ?_
  refine z_iload_n C dX9_owner_4 rfl 1 rfl ?_
  refine z_aload_n C dX9_owner_5 rfl 0 rfl ?_
  obtain ⟨v2, hv2, hf⟩ := zbind hf
  refine gf_RX9_50 C hv2 dX9_owner_6 ?_
  obtain ⟨v3, hv3, hf⟩ := zbind hf
  refine gf_RX9_98 C hv3 dX9_owner_9 ?_
  obtain ⟨c4, hc4, hf⟩ := zbind hf
  refine z_callSi (As := [.int x1, .int v3]) (F0 := 1) (L0 := 21) C (mX9_ownerOf l D Ca B En C.2.2.2.2.2.2.2.1 c1 N x1 v3 _ hc4) hRm kw_641 kw_1 kw_1194 kw_640 hyX9_ownerOf (Nat.le_of_ble_eq_true rfl) (Nat.le_of_ble_eq_true rfl) rfl rfl (Nat.le_of_ble_eq_true rfl) dX9_owner_12 ?_
  cases hf
  exact hq _ _ dX9_owner_15

theorem mX9_owner (l : Launch) (D : va_G) (Ca : Nat → ClassId) (B : Nat) (En : State → Prop) (hE : zEk B En) (σ : zS) (N : Nat) (x0 : Nat) (x1 : Int32) (X : zS × Int32) (hf : fX9_owner σ x0 x1 = some X) : zMi l D Ca B En yX9_owner cX9_owner 2 (Option.some Jvm.ClassFile.FieldType.int) 1 21 [.ref x0, .int x1] σ N X.1 X.2 :=
  zMet_i (own := RX9) hE (by decide +kernel) rfl (Nat.le_of_ble_eq_true rfl) (fun p e s m args below meth c C hr hRm => wfX9_owner C hRm σ x0 x1 X.1 X.2 hf (fun pc lv hd => zfin_i C hr hd))
theorem dX9_sum_0 : decode cX9_sum 0 = .ok (.iload_n 1, 1) := by decide +kernel
theorem dX9_sum_1 : decode cX9_sum 1 = .ok (.invokestatic 169, 3) := by decide +kernel
theorem dX9_sum_4 : decode cX9_sum 4 = .ok (.aload_n 0, 1) := by decide +kernel
theorem dX9_sum_5 : decode cX9_sum 5 = .ok (.getfield 50, 3) := by decide +kernel
theorem dX9_sum_8 : decode cX9_sum 8 = .ok (.getfield 175, 3) := by decide +kernel
theorem dX9_sum_11 : decode cX9_sum 11 = .ok (.iload_n 1, 1) := by decide +kernel
theorem dX9_sum_12 : decode cX9_sum 12 = .ok (.iaload, 1) := by decide +kernel
theorem dX9_sum_13 : decode cX9_sum 13 = .ok (.ireturn, 1) := by decide +kernel
theorem hyX9_sum : yX9_sum.cls ≠ "java/lang/invoke/MethodHandle" ∧ yX9_sum.cls ≠ "java/lang/invoke/VarHandle" ∧ (parseMethodDescriptor yX9_sum.desc).map (fun d => d.parameters.length) = some 1 := ⟨by decide +kernel, by decide +kernel, by decide +kernel⟩
set_option maxRecDepth 100000 in
set_option maxHeartbeats 4000000 in
theorem wfX9_sum (C : zC p s m args meth c cX9_sum RX9 2 D Ca B En) (hRm : zRm R 1 20 cells slots) (σ : zS) (x0 : Nat) (x1 : Int32) (τ : zS) (r : Int32) (hf : fX9_sum σ x0 x1 = some (τ, r)) (hq : ∀ (pc : Nat) (lv : List (Nat × Value)), decode cX9_sum pc = .ok (.ireturn, 1) → zW p l e R s m args below meth c cells slots Q D Ca B 2 τ N pc lv [.int r]) : zW p l e R s m args below meth c cells slots Q D Ca B 2 σ N 0 [(0, .ref x0), (1, .int x1)] [] := by
  unfold fX9_sum at hf
  refine z_iload_n C dX9_sum_0 rfl 1 rfl ?_
  obtain ⟨c1, hc1, hf⟩ := zbind hf
  refine z_callSv (As := [.int x1]) (F0 := 1) (L0 := 20) C (mX9_needKey l D Ca B En C.2.2.2.2.2.2.2.1 σ N x1 _ hc1) hRm kw_1288 kw_1 kw_1286 kw_1287 hyX9_needKey (Nat.le_of_ble_eq_true rfl) (Nat.le_of_ble_eq_true rfl) rfl rfl (Nat.le_of_ble_eq_true rfl) dX9_sum_1 ?_
  refine z_aload_n C dX9_sum_4 rfl 0 rfl ?_
  obtain ⟨v2, hv2, hf⟩ := zbind hf
  refine gf_RX9_50 C hv2 dX9_sum_5 ?_
  obtain ⟨v3, hv3, hf⟩ := zbind hf
  refine gf_RX9_175 C hv3 dX9_sum_8 ?_
  refine z_iload_n C dX9_sum_11 rfl 1 rfl ?_
  obtain ⟨v4, hv4, hf⟩ := zbind hf
  refine z_aI C hv4 dX9_sum_12 ?_
  cases hf
  exact hq _ _ dX9_sum_13

theorem mX9_sum (l : Launch) (D : va_G) (Ca : Nat → ClassId) (B : Nat) (En : State → Prop) (hE : zEk B En) (σ : zS) (N : Nat) (x0 : Nat) (x1 : Int32) (X : zS × Int32) (hf : fX9_sum σ x0 x1 = some X) : zMi l D Ca B En yX9_sum cX9_sum 2 (Option.some Jvm.ClassFile.FieldType.int) 1 20 [.ref x0, .int x1] σ N X.1 X.2 :=
  zMet_i (own := RX9) hE (by decide +kernel) rfl (Nat.le_of_ble_eq_true rfl) (fun p e s m args below meth c C hr hRm => wfX9_sum C hRm σ x0 x1 X.1 X.2 hf (fun pc lv hd => zfin_i C hr hd))
theorem dX9_needInstance_0 : decode cX9_needInstance 0 = .ok (.iload_n 1, 1) := by decide +kernel
theorem dX9_needInstance_1 : decode cX9_needInstance 1 = .ok (.ifCond .lt 14, 3) := by decide +kernel
theorem dX9_needInstance_4 : decode cX9_needInstance 4 = .ok (.iload_n 1, 1) := by decide +kernel
theorem dX9_needInstance_5 : decode cX9_needInstance 5 = .ok (.aload_n 0, 1) := by decide +kernel
theorem dX9_needInstance_6 : decode cX9_needInstance 6 = .ok (.getfield 50, 3) := by decide +kernel
theorem dX9_needInstance_9 : decode cX9_needInstance 9 = .ok (.getfield 98, 3) := by decide +kernel
theorem dX9_needInstance_12 : decode cX9_needInstance 12 = .ok (.if_icmp .lt 11, 3) := by decide +kernel
theorem dX9_needInstance_15 : decode cX9_needInstance 15 = .ok (.new 155, 3) := by decide +kernel
theorem dX9_needInstance_18 : decode cX9_needInstance 18 = .ok (.dup, 1) := by decide +kernel
theorem dX9_needInstance_19 : decode cX9_needInstance 19 = .ok (.invokespecial 157, 3) := by decide +kernel
theorem dX9_needInstance_22 : decode cX9_needInstance 22 = .ok (.athrow, 1) := by decide +kernel
theorem dX9_needInstance_23 : decode cX9_needInstance 23 = .ok (.return_, 1) := by decide +kernel
theorem hyX9_needInstance : yX9_needInstance.cls ≠ "java/lang/invoke/MethodHandle" ∧ yX9_needInstance.cls ≠ "java/lang/invoke/VarHandle" ∧ (parseMethodDescriptor yX9_needInstance.desc).map (fun d => d.parameters.length) = some 1 := ⟨by decide +kernel, by decide +kernel, by decide +kernel⟩
set_option maxRecDepth 100000 in
set_option maxHeartbeats 4000000 in
theorem wfX9_needInstance (C : zC p s m args meth c cX9_needInstance RX9 2 D Ca B En) (hRm : zRm R 0 0 cells slots) (σ : zS) (x0 : Nat) (x1 : Int32) (τ : zS) (hf : fX9_needInstance σ x0 x1 = some τ) (hq : ∀ (pc : Nat) (lv : List (Nat × Value)), decode cX9_needInstance pc = .ok (.return_, 1) → zW p l e R s m args below meth c cells slots Q D Ca B 2 τ N pc lv []) : zW p l e R s m args below meth c cells slots Q D Ca B 2 σ N 0 [(0, .ref x0), (1, .int x1)] [] := by
  unfold fX9_needInstance at hf
  refine z_iload_n C dX9_needInstance_0 rfl 1 rfl ?_
  refine z_if_lt C 15 dX9_needInstance_1 (by decide) (fun q4 => ?_) (fun q4 => ?_)
  · rw [if_pos q4] at hf
    cases hf
  · rw [if_neg q4] at hf
    refine z_iload_n C dX9_needInstance_4 rfl 1 rfl ?_
    refine z_aload_n C dX9_needInstance_5 rfl 0 rfl ?_
    obtain ⟨v1, hv1, hf⟩ := zbind hf
    refine gf_RX9_50 C hv1 dX9_needInstance_6 ?_
    obtain ⟨v2, hv2, hf⟩ := zbind hf
    refine gf_RX9_98 C hv2 dX9_needInstance_9 ?_
    refine z_icmp_lt C 23 dX9_needInstance_12 (by decide) (fun q3 => ?_) (fun q3 => ?_)
    · rw [if_pos q3] at hf
      cases hf
      exact hq _ _ dX9_needInstance_23
    · rw [if_neg q3] at hf
      cases hf

theorem mX9_needInstance (l : Launch) (D : va_G) (Ca : Nat → ClassId) (B : Nat) (En : State → Prop) (hE : zEk B En) (σ : zS) (N : Nat) (x0 : Nat) (x1 : Int32) (X : zS) (hf : fX9_needInstance σ x0 x1 = some X) : zMv l D Ca B En yX9_needInstance cX9_needInstance 2 (Option.none : Option Jvm.ClassFile.FieldType) 0 0 [.ref x0, .int x1] σ N X () :=
  zMet_v (own := RX9) hE (by decide +kernel) rfl (Nat.le_of_ble_eq_true rfl) (fun p e s m args below meth c C hr hRm => wfX9_needInstance C hRm σ x0 x1 X hf (fun pc lv hd => zfin_v (r := ()) C hr hd))
theorem dX9_instance_0 : decode cX9_instance 0 = .ok (.aload_n 0, 1) := by decide +kernel
theorem dX9_instance_1 : decode cX9_instance 1 = .ok (.iload_n 1, 1) := by decide +kernel
theorem dX9_instance_2 : decode cX9_instance 2 = .ok (.invokevirtual 178, 3) := by decide +kernel
theorem dX9_instance_5 : decode cX9_instance 5 = .ok (.iload_n 2, 1) := by decide +kernel
theorem dX9_instance_6 : decode cX9_instance 6 = .ok (.tableswitch 84 0 4 #[34, 46, 56, 66, 75], 34) := by decide +kernel
theorem dX9_instance_40 : decode cX9_instance 40 = .ok (.iload_n 1, 1) := by decide +kernel
theorem dX9_instance_41 : decode cX9_instance 41 = .ok (.aload_n 0, 1) := by decide +kernel
theorem dX9_instance_42 : decode cX9_instance 42 = .ok (.getfield 50, 3) := by decide +kernel
theorem dX9_instance_45 : decode cX9_instance 45 = .ok (.getfield 98, 3) := by decide +kernel
theorem dX9_instance_48 : decode cX9_instance 48 = .ok (.invokestatic 181, 3) := by decide +kernel
theorem dX9_instance_51 : decode cX9_instance 51 = .ok (.ireturn, 1) := by decide +kernel
theorem dX9_instance_52 : decode cX9_instance 52 = .ok (.aload_n 0, 1) := by decide +kernel
theorem dX9_instance_53 : decode cX9_instance 53 = .ok (.getfield 50, 3) := by decide +kernel
theorem dX9_instance_56 : decode cX9_instance 56 = .ok (.getfield 184, 3) := by decide +kernel
theorem dX9_instance_59 : decode cX9_instance 59 = .ok (.iload_n 1, 1) := by decide +kernel
theorem dX9_instance_60 : decode cX9_instance 60 = .ok (.iaload, 1) := by decide +kernel
theorem dX9_instance_61 : decode cX9_instance 61 = .ok (.ireturn, 1) := by decide +kernel
theorem dX9_instance_62 : decode cX9_instance 62 = .ok (.aload_n 0, 1) := by decide +kernel
theorem dX9_instance_63 : decode cX9_instance 63 = .ok (.getfield 50, 3) := by decide +kernel
theorem dX9_instance_66 : decode cX9_instance 66 = .ok (.getfield 187, 3) := by decide +kernel
theorem dX9_instance_69 : decode cX9_instance 69 = .ok (.iload_n 1, 1) := by decide +kernel
theorem dX9_instance_70 : decode cX9_instance 70 = .ok (.iaload, 1) := by decide +kernel
theorem dX9_instance_71 : decode cX9_instance 71 = .ok (.ireturn, 1) := by decide +kernel
theorem dX9_instance_72 : decode cX9_instance 72 = .ok (.aload_n 0, 1) := by decide +kernel
theorem dX9_instance_73 : decode cX9_instance 73 = .ok (.getfield 50, 3) := by decide +kernel
theorem dX9_instance_76 : decode cX9_instance 76 = .ok (.iload_n 1, 1) := by decide +kernel
theorem dX9_instance_77 : decode cX9_instance 77 = .ok (.invokevirtual 190, 3) := by decide +kernel
theorem dX9_instance_80 : decode cX9_instance 80 = .ok (.ireturn, 1) := by decide +kernel
theorem dX9_instance_81 : decode cX9_instance 81 = .ok (.aload_n 0, 1) := by decide +kernel
theorem dX9_instance_82 : decode cX9_instance 82 = .ok (.getfield 50, 3) := by decide +kernel
theorem dX9_instance_85 : decode cX9_instance 85 = .ok (.iload_n 1, 1) := by decide +kernel
theorem dX9_instance_86 : decode cX9_instance 86 = .ok (.invokevirtual 193, 3) := by decide +kernel
theorem dX9_instance_89 : decode cX9_instance 89 = .ok (.ireturn, 1) := by decide +kernel
theorem dX9_instance_90 : decode cX9_instance 90 = .ok (.new 155, 3) := by decide +kernel
theorem dX9_instance_93 : decode cX9_instance 93 = .ok (.dup, 1) := by decide +kernel
theorem dX9_instance_94 : decode cX9_instance 94 = .ok (.invokespecial 157, 3) := by decide +kernel
theorem dX9_instance_97 : decode cX9_instance 97 = .ok (.athrow, 1) := by decide +kernel
theorem hyX9_instance : yX9_instance.cls ≠ "java/lang/invoke/MethodHandle" ∧ yX9_instance.cls ≠ "java/lang/invoke/VarHandle" ∧ (parseMethodDescriptor yX9_instance.desc).map (fun d => d.parameters.length) = some 2 := ⟨by decide +kernel, by decide +kernel, by decide +kernel⟩
set_option maxRecDepth 100000 in
set_option maxHeartbeats 4000000 in
theorem wfX9_instance (C : zC p s m args meth c cX9_instance RX9 3 D Ca B En) (hRm : zRm R 3 64 cells slots) (σ : zS) (x0 : Nat) (x1 : Int32) (x2 : Int32) (τ : zS) (r : Int32) (hf : fX9_instance σ x0 x1 x2 = some (τ, r)) (hq : ∀ (pc : Nat) (lv : List (Nat × Value)), decode cX9_instance pc = .ok (.ireturn, 1) → zW p l e R s m args below meth c cells slots Q D Ca B 3 τ N pc lv [.int r]) : zW p l e R s m args below meth c cells slots Q D Ca B 3 σ N 0 [(0, .ref x0), (1, .int x1), (2, .int x2)] [] := by
  unfold fX9_instance at hf
  refine z_aload_n C dX9_instance_0 rfl 0 rfl ?_
  refine z_iload_n C dX9_instance_1 rfl 1 rfl ?_
  obtain ⟨c1, hc1, hf⟩ := zbind hf
  obtain ⟨kc1, hc1⟩ := zck_ok hc1
  refine z_callVv (As := [.int x1]) (F0 := 3) (L0 := 64) C (mX9_needInstance l D Ca B En C.2.2.2.2.2.2.2.1 σ N x0 x1 _ hc1) hRm kc1 rfl kw_1312 kw_1 kw_1309 kw_1311 kp_34 hyX9_needInstance (Nat.le_of_ble_eq_true rfl) (Nat.le_of_ble_eq_true rfl) rfl rfl (Nat.le_of_ble_eq_true rfl) dX9_instance_2 ?_
  refine z_iload_n C dX9_instance_5 rfl 2 rfl ?_
  by_cases q2 : x2 = (zi 0)
  · rw [if_pos q2] at hf
    refine z_tableIn C 40 dX9_instance_6 (by rw [q2]; decide) (by rw [q2]; decide) (by rw [q2]; rfl) (by decide) ?_
    refine z_iload_n C dX9_instance_40 rfl 1 rfl ?_
    refine z_aload_n C dX9_instance_41 rfl 0 rfl ?_
    obtain ⟨v3, hv3, hf⟩ := zbind hf
    refine gf_RX9_50 C hv3 dX9_instance_42 ?_
    obtain ⟨v4, hv4, hf⟩ := zbind hf
    refine gf_RX9_98 C hv4 dX9_instance_45 ?_
    obtain ⟨c5, hc5, hf⟩ := zbind hf
    refine z_callSi (As := [.int x1, .int v4]) (F0 := 3) (L0 := 64) C (mX9_groupsOf l D Ca B En C.2.2.2.2.2.2.2.1 c1 N x1 v4 _ hc5) hRm kw_1315 kw_1 kw_1313 kw_1314 hyX9_groupsOf (Nat.le_of_ble_eq_true rfl) (Nat.le_of_ble_eq_true rfl) rfl rfl (Nat.le_of_ble_eq_true rfl) dX9_instance_48 ?_
    cases hf
    exact hq _ _ dX9_instance_51
  · rw [if_neg q2] at hf
    by_cases q6 : x2 = (zi 1)
    · rw [if_pos q6] at hf
      refine z_tableIn C 52 dX9_instance_6 (by rw [q6]; decide) (by rw [q6]; decide) (by rw [q6]; rfl) (by decide) ?_
      refine z_aload_n C dX9_instance_52 rfl 0 rfl ?_
      obtain ⟨v7, hv7, hf⟩ := zbind hf
      refine gf_RX9_50 C hv7 dX9_instance_53 ?_
      obtain ⟨v8, hv8, hf⟩ := zbind hf
      refine gf_RX9_184 C hv8 dX9_instance_56 ?_
      refine z_iload_n C dX9_instance_59 rfl 1 rfl ?_
      obtain ⟨v9, hv9, hf⟩ := zbind hf
      refine z_aI C hv9 dX9_instance_60 ?_
      cases hf
      exact hq _ _ dX9_instance_61
    · rw [if_neg q6] at hf
      by_cases q10 : x2 = (zi 2)
      · rw [if_pos q10] at hf
        refine z_tableIn C 62 dX9_instance_6 (by rw [q10]; decide) (by rw [q10]; decide) (by rw [q10]; rfl) (by decide) ?_
        refine z_aload_n C dX9_instance_62 rfl 0 rfl ?_
        obtain ⟨v11, hv11, hf⟩ := zbind hf
        refine gf_RX9_50 C hv11 dX9_instance_63 ?_
        obtain ⟨v12, hv12, hf⟩ := zbind hf
        refine gf_RX9_187 C hv12 dX9_instance_66 ?_
        refine z_iload_n C dX9_instance_69 rfl 1 rfl ?_
        obtain ⟨v13, hv13, hf⟩ := zbind hf
        refine z_aI C hv13 dX9_instance_70 ?_
        cases hf
        exact hq _ _ dX9_instance_71
      · rw [if_neg q10] at hf
        by_cases q14 : x2 = (zi 3)
        · rw [if_pos q14] at hf
          refine z_tableIn C 72 dX9_instance_6 (by rw [q14]; decide) (by rw [q14]; decide) (by rw [q14]; rfl) (by decide) ?_
          refine z_aload_n C dX9_instance_72 rfl 0 rfl ?_
          obtain ⟨v15, hv15, hf⟩ := zbind hf
          refine gf_RX9_50 C hv15 dX9_instance_73 ?_
          refine z_iload_n C dX9_instance_76 rfl 1 rfl ?_
          obtain ⟨c16, hc16, hf⟩ := zbind hf
          obtain ⟨kc16, hc16⟩ := zck_ok hc16
          refine z_callVi (As := [.int x1]) (F0 := 3) (L0 := 64) C (mX1_recordsTo l D Ca B En C.2.2.2.2.2.2.2.1 c1 N v15 x1 _ hc16) hRm kc16 rfl kw_1319 kw_8 kw_1316 kw_1317 kw_1318 hyX1_recordsTo (Nat.le_of_ble_eq_true rfl) (Nat.le_of_ble_eq_true rfl) rfl rfl (Nat.le_of_ble_eq_true rfl) dX9_instance_77 ?_
          cases hf
          exact hq _ _ dX9_instance_80
        · rw [if_neg q14] at hf
          by_cases q17 : x2 = (zi 4)
          · rw [if_pos q17] at hf
            refine z_tableIn C 81 dX9_instance_6 (by rw [q17]; decide) (by rw [q17]; decide) (by rw [q17]; rfl) (by decide) ?_
            refine z_aload_n C dX9_instance_81 rfl 0 rfl ?_
            obtain ⟨v18, hv18, hf⟩ := zbind hf
            refine gf_RX9_50 C hv18 dX9_instance_82 ?_
            refine z_iload_n C dX9_instance_85 rfl 1 rfl ?_
            obtain ⟨c19, hc19, hf⟩ := zbind hf
            obtain ⟨kc19, hc19⟩ := zck_ok hc19
            refine z_callVi (As := [.int x1]) (F0 := 3) (L0 := 64) C (mX1_resultsFrom l D Ca B En C.2.2.2.2.2.2.2.1 c1 N v18 x1 _ hc19) hRm kc19 rfl kw_1323 kw_8 kw_1320 kw_1321 kw_1322 hyX1_resultsFrom (Nat.le_of_ble_eq_true rfl) (Nat.le_of_ble_eq_true rfl) rfl rfl (Nat.le_of_ble_eq_true rfl) dX9_instance_86 ?_
            cases hf
            exact hq _ _ dX9_instance_89
          · rw [if_neg q17] at hf
            have w9 : ∀ k : Nat, k < 5 → ¬ x2 = Int32.ofInt ((0 : Int) + k) := by
              intro k hk
              match k, hk with
              | 0, _ => exact q2
              | 1, _ => exact q6
              | 2, _ => exact q10
              | 3, _ => exact q14
              | 4, _ => exact q17
              | k + 5, hk => exact absurd hk (by omega)
            refine z_tableOut C 90 dX9_instance_6 (zsw 0 5 w9 (by decide)) (by decide) ?_
            cases hf

theorem mX9_instance (l : Launch) (D : va_G) (Ca : Nat → ClassId) (B : Nat) (En : State → Prop) (hE : zEk B En) (σ : zS) (N : Nat) (x0 : Nat) (x1 : Int32) (x2 : Int32) (X : zS × Int32) (hf : fX9_instance σ x0 x1 x2 = some X) : zMi l D Ca B En yX9_instance cX9_instance 3 (Option.some Jvm.ClassFile.FieldType.int) 3 64 [.ref x0, .int x1, .int x2] σ N X.1 X.2 :=
  zMet_i (own := RX9) hE (by decide +kernel) rfl (Nat.le_of_ble_eq_true rfl) (fun p e s m args below meth c C hr hRm => wfX9_instance C hRm σ x0 x1 x2 X.1 X.2 hf (fun pc lv hd => zfin_i C hr hd))
theorem dX9_needSink_0 : decode cX9_needSink 0 = .ok (.iload_n 1, 1) := by decide +kernel
theorem dX9_needSink_1 : decode cX9_needSink 1 = .ok (.ifCond .lt 14, 3) := by decide +kernel
theorem dX9_needSink_4 : decode cX9_needSink 4 = .ok (.iload_n 1, 1) := by decide +kernel
theorem dX9_needSink_5 : decode cX9_needSink 5 = .ok (.aload_n 0, 1) := by decide +kernel
theorem dX9_needSink_6 : decode cX9_needSink 6 = .ok (.getfield 35, 3) := by decide +kernel
theorem dX9_needSink_9 : decode cX9_needSink 9 = .ok (.getfield 101, 3) := by decide +kernel
theorem dX9_needSink_12 : decode cX9_needSink 12 = .ok (.if_icmp .lt 11, 3) := by decide +kernel
theorem dX9_needSink_15 : decode cX9_needSink 15 = .ok (.new 155, 3) := by decide +kernel
theorem dX9_needSink_18 : decode cX9_needSink 18 = .ok (.dup, 1) := by decide +kernel
theorem dX9_needSink_19 : decode cX9_needSink 19 = .ok (.invokespecial 157, 3) := by decide +kernel
theorem dX9_needSink_22 : decode cX9_needSink 22 = .ok (.athrow, 1) := by decide +kernel
theorem dX9_needSink_23 : decode cX9_needSink 23 = .ok (.return_, 1) := by decide +kernel
theorem hyX9_needSink : yX9_needSink.cls ≠ "java/lang/invoke/MethodHandle" ∧ yX9_needSink.cls ≠ "java/lang/invoke/VarHandle" ∧ (parseMethodDescriptor yX9_needSink.desc).map (fun d => d.parameters.length) = some 1 := ⟨by decide +kernel, by decide +kernel, by decide +kernel⟩
set_option maxRecDepth 100000 in
set_option maxHeartbeats 4000000 in
theorem wfX9_needSink (C : zC p s m args meth c cX9_needSink RX9 2 D Ca B En) (hRm : zRm R 0 0 cells slots) (σ : zS) (x0 : Nat) (x1 : Int32) (τ : zS) (hf : fX9_needSink σ x0 x1 = some τ) (hq : ∀ (pc : Nat) (lv : List (Nat × Value)), decode cX9_needSink pc = .ok (.return_, 1) → zW p l e R s m args below meth c cells slots Q D Ca B 2 τ N pc lv []) : zW p l e R s m args below meth c cells slots Q D Ca B 2 σ N 0 [(0, .ref x0), (1, .int x1)] [] := by
  unfold fX9_needSink at hf
  refine z_iload_n C dX9_needSink_0 rfl 1 rfl ?_
  refine z_if_lt C 15 dX9_needSink_1 (by decide) (fun q4 => ?_) (fun q4 => ?_)
  · rw [if_pos q4] at hf
    cases hf
  · rw [if_neg q4] at hf
    refine z_iload_n C dX9_needSink_4 rfl 1 rfl ?_
    refine z_aload_n C dX9_needSink_5 rfl 0 rfl ?_
    obtain ⟨v1, hv1, hf⟩ := zbind hf
    refine gf_RX9_35 C hv1 dX9_needSink_6 ?_
    obtain ⟨v2, hv2, hf⟩ := zbind hf
    refine gf_RX9_101 C hv2 dX9_needSink_9 ?_
    refine z_icmp_lt C 23 dX9_needSink_12 (by decide) (fun q3 => ?_) (fun q3 => ?_)
    · rw [if_pos q3] at hf
      cases hf
      exact hq _ _ dX9_needSink_23
    · rw [if_neg q3] at hf
      cases hf

theorem mX9_needSink (l : Launch) (D : va_G) (Ca : Nat → ClassId) (B : Nat) (En : State → Prop) (hE : zEk B En) (σ : zS) (N : Nat) (x0 : Nat) (x1 : Int32) (X : zS) (hf : fX9_needSink σ x0 x1 = some X) : zMv l D Ca B En yX9_needSink cX9_needSink 2 (Option.none : Option Jvm.ClassFile.FieldType) 0 0 [.ref x0, .int x1] σ N X () :=
  zMet_v (own := RX9) hE (by decide +kernel) rfl (Nat.le_of_ble_eq_true rfl) (fun p e s m args below meth c C hr hRm => wfX9_needSink C hRm σ x0 x1 X hf (fun pc lv hd => zfin_v (r := ()) C hr hd))
theorem dX9_sink_0 : decode cX9_sink 0 = .ok (.aload_n 0, 1) := by decide +kernel
theorem dX9_sink_1 : decode cX9_sink 1 = .ok (.iload_n 1, 1) := by decide +kernel
theorem dX9_sink_2 : decode cX9_sink 2 = .ok (.invokevirtual 196, 3) := by decide +kernel
theorem dX9_sink_5 : decode cX9_sink 5 = .ok (.iload_n 2, 1) := by decide +kernel
theorem dX9_sink_6 : decode cX9_sink 6 = .ok (.tableswitch 87 0 3 #[30, 45, 60, 75], 30) := by decide +kernel
theorem dX9_sink_36 : decode cX9_sink 36 = .ok (.aload_n 0, 1) := by decide +kernel
theorem dX9_sink_37 : decode cX9_sink 37 = .ok (.getfield 50, 3) := by decide +kernel
theorem dX9_sink_40 : decode cX9_sink 40 = .ok (.getfield 199, 3) := by decide +kernel
theorem dX9_sink_43 : decode cX9_sink 43 = .ok (.bipush 24, 2) := by decide +kernel
theorem dX9_sink_45 : decode cX9_sink 45 = .ok (.iload_n 1, 1) := by decide +kernel
theorem dX9_sink_46 : decode cX9_sink 46 = .ok (.iadd, 1) := by decide +kernel
theorem dX9_sink_47 : decode cX9_sink 47 = .ok (.invokevirtual 203, 3) := by decide +kernel
theorem dX9_sink_50 : decode cX9_sink 50 = .ok (.ireturn, 1) := by decide +kernel
theorem dX9_sink_51 : decode cX9_sink 51 = .ok (.aload_n 0, 1) := by decide +kernel
theorem dX9_sink_52 : decode cX9_sink 52 = .ok (.getfield 50, 3) := by decide +kernel
theorem dX9_sink_55 : decode cX9_sink 55 = .ok (.getfield 199, 3) := by decide +kernel
theorem dX9_sink_58 : decode cX9_sink 58 = .ok (.bipush 26, 2) := by decide +kernel
theorem dX9_sink_60 : decode cX9_sink 60 = .ok (.iload_n 1, 1) := by decide +kernel
theorem dX9_sink_61 : decode cX9_sink 61 = .ok (.iadd, 1) := by decide +kernel
theorem dX9_sink_62 : decode cX9_sink 62 = .ok (.invokevirtual 203, 3) := by decide +kernel
theorem dX9_sink_65 : decode cX9_sink 65 = .ok (.ireturn, 1) := by decide +kernel
theorem dX9_sink_66 : decode cX9_sink 66 = .ok (.aload_n 0, 1) := by decide +kernel
theorem dX9_sink_67 : decode cX9_sink 67 = .ok (.getfield 50, 3) := by decide +kernel
theorem dX9_sink_70 : decode cX9_sink 70 = .ok (.getfield 199, 3) := by decide +kernel
theorem dX9_sink_73 : decode cX9_sink 73 = .ok (.bipush 28, 2) := by decide +kernel
theorem dX9_sink_75 : decode cX9_sink 75 = .ok (.iload_n 1, 1) := by decide +kernel
theorem dX9_sink_76 : decode cX9_sink 76 = .ok (.iadd, 1) := by decide +kernel
theorem dX9_sink_77 : decode cX9_sink 77 = .ok (.invokevirtual 203, 3) := by decide +kernel
theorem dX9_sink_80 : decode cX9_sink 80 = .ok (.ireturn, 1) := by decide +kernel
theorem dX9_sink_81 : decode cX9_sink 81 = .ok (.aload_n 0, 1) := by decide +kernel
theorem dX9_sink_82 : decode cX9_sink 82 = .ok (.getfield 50, 3) := by decide +kernel
theorem dX9_sink_85 : decode cX9_sink 85 = .ok (.getfield 187, 3) := by decide +kernel
theorem dX9_sink_88 : decode cX9_sink 88 = .ok (.iconst 4, 1) := by decide +kernel
theorem dX9_sink_89 : decode cX9_sink 89 = .ok (.iload_n 1, 1) := by decide +kernel
theorem dX9_sink_90 : decode cX9_sink 90 = .ok (.iadd, 1) := by decide +kernel
theorem dX9_sink_91 : decode cX9_sink 91 = .ok (.iaload, 1) := by decide +kernel
theorem dX9_sink_92 : decode cX9_sink 92 = .ok (.ireturn, 1) := by decide +kernel
theorem dX9_sink_93 : decode cX9_sink 93 = .ok (.new 155, 3) := by decide +kernel
theorem dX9_sink_96 : decode cX9_sink 96 = .ok (.dup, 1) := by decide +kernel
theorem dX9_sink_97 : decode cX9_sink 97 = .ok (.invokespecial 157, 3) := by decide +kernel
theorem dX9_sink_100 : decode cX9_sink 100 = .ok (.athrow, 1) := by decide +kernel
theorem hyX9_sink : yX9_sink.cls ≠ "java/lang/invoke/MethodHandle" ∧ yX9_sink.cls ≠ "java/lang/invoke/VarHandle" ∧ (parseMethodDescriptor yX9_sink.desc).map (fun d => d.parameters.length) = some 2 := ⟨by decide +kernel, by decide +kernel, by decide +kernel⟩
set_option maxRecDepth 100000 in
set_option maxHeartbeats 4000000 in
theorem wfX9_sink (C : zC p s m args meth c cX9_sink RX9 3 D Ca B En) (hRm : zRm R 2 41 cells slots) (σ : zS) (x0 : Nat) (x1 : Int32) (x2 : Int32) (τ : zS) (r : Int32) (hf : fX9_sink σ x0 x1 x2 = some (τ, r)) (hq : ∀ (pc : Nat) (lv : List (Nat × Value)), decode cX9_sink pc = .ok (.ireturn, 1) → zW p l e R s m args below meth c cells slots Q D Ca B 3 τ N pc lv [.int r]) : zW p l e R s m args below meth c cells slots Q D Ca B 3 σ N 0 [(0, .ref x0), (1, .int x1), (2, .int x2)] [] := by
  unfold fX9_sink at hf
  refine z_aload_n C dX9_sink_0 rfl 0 rfl ?_
  refine z_iload_n C dX9_sink_1 rfl 1 rfl ?_
  obtain ⟨c1, hc1, hf⟩ := zbind hf
  obtain ⟨kc1, hc1⟩ := zck_ok hc1
  refine z_callVv (As := [.int x1]) (F0 := 2) (L0 := 41) C (mX9_needSink l D Ca B En C.2.2.2.2.2.2.2.1 σ N x0 x1 _ hc1) hRm kc1 rfl kw_1250 kw_1 kw_1247 kw_1249 kp_33 hyX9_needSink (Nat.le_of_ble_eq_true rfl) (Nat.le_of_ble_eq_true rfl) rfl rfl (Nat.le_of_ble_eq_true rfl) dX9_sink_2 ?_
  refine z_iload_n C dX9_sink_5 rfl 2 rfl ?_
  by_cases q2 : x2 = (zi 0)
  · rw [if_pos q2] at hf
    refine z_tableIn C 36 dX9_sink_6 (by rw [q2]; decide) (by rw [q2]; decide) (by rw [q2]; rfl) (by decide) ?_
    refine z_aload_n C dX9_sink_36 rfl 0 rfl ?_
    obtain ⟨v3, hv3, hf⟩ := zbind hf
    refine gf_RX9_50 C hv3 dX9_sink_37 ?_
    obtain ⟨v4, hv4, hf⟩ := zbind hf
    refine gf_RX9_199 C hv4 dX9_sink_40 ?_
    refine z_bipush C (zi 24) dX9_sink_43 (by decide) ?_
    refine z_iload_n C dX9_sink_45 rfl 1 rfl ?_
    refine z_iadd C dX9_sink_46 ?_
    obtain ⟨c5, hc5, hf⟩ := zbind hf
    obtain ⟨kc5, hc5⟩ := zck_ok hc5
    refine z_callVi (As := [.int (((zi 24)) + x1)]) (F0 := 2) (L0 := 41) C (mX3_sizeOf l D Ca B En C.2.2.2.2.2.2.2.1 c1 N v4 (((zi 24)) + x1) _ hc5) hRm kc5 rfl kw_340 kw_9 kw_1251 kw_338 kw_339 hyX3_sizeOf (Nat.le_of_ble_eq_true rfl) (Nat.le_of_ble_eq_true rfl) rfl rfl (Nat.le_of_ble_eq_true rfl) dX9_sink_47 ?_
    cases hf
    exact hq _ _ dX9_sink_50
  · rw [if_neg q2] at hf
    by_cases q6 : x2 = (zi 1)
    · rw [if_pos q6] at hf
      refine z_tableIn C 51 dX9_sink_6 (by rw [q6]; decide) (by rw [q6]; decide) (by rw [q6]; rfl) (by decide) ?_
      refine z_aload_n C dX9_sink_51 rfl 0 rfl ?_
      obtain ⟨v7, hv7, hf⟩ := zbind hf
      refine gf_RX9_50 C hv7 dX9_sink_52 ?_
      obtain ⟨v8, hv8, hf⟩ := zbind hf
      refine gf_RX9_199 C hv8 dX9_sink_55 ?_
      refine z_bipush C (zi 26) dX9_sink_58 (by decide) ?_
      refine z_iload_n C dX9_sink_60 rfl 1 rfl ?_
      refine z_iadd C dX9_sink_61 ?_
      obtain ⟨c9, hc9, hf⟩ := zbind hf
      obtain ⟨kc9, hc9⟩ := zck_ok hc9
      refine z_callVi (As := [.int (((zi 26)) + x1)]) (F0 := 2) (L0 := 41) C (mX3_sizeOf l D Ca B En C.2.2.2.2.2.2.2.1 c1 N v8 (((zi 26)) + x1) _ hc9) hRm kc9 rfl kw_340 kw_9 kw_1251 kw_338 kw_339 hyX3_sizeOf (Nat.le_of_ble_eq_true rfl) (Nat.le_of_ble_eq_true rfl) rfl rfl (Nat.le_of_ble_eq_true rfl) dX9_sink_62 ?_
      cases hf
      exact hq _ _ dX9_sink_65
    · rw [if_neg q6] at hf
      by_cases q10 : x2 = (zi 2)
      · rw [if_pos q10] at hf
        refine z_tableIn C 66 dX9_sink_6 (by rw [q10]; decide) (by rw [q10]; decide) (by rw [q10]; rfl) (by decide) ?_
        refine z_aload_n C dX9_sink_66 rfl 0 rfl ?_
        obtain ⟨v11, hv11, hf⟩ := zbind hf
        refine gf_RX9_50 C hv11 dX9_sink_67 ?_
        obtain ⟨v12, hv12, hf⟩ := zbind hf
        refine gf_RX9_199 C hv12 dX9_sink_70 ?_
        refine z_bipush C (zi 28) dX9_sink_73 (by decide) ?_
        refine z_iload_n C dX9_sink_75 rfl 1 rfl ?_
        refine z_iadd C dX9_sink_76 ?_
        obtain ⟨c13, hc13, hf⟩ := zbind hf
        obtain ⟨kc13, hc13⟩ := zck_ok hc13
        refine z_callVi (As := [.int (((zi 28)) + x1)]) (F0 := 2) (L0 := 41) C (mX3_sizeOf l D Ca B En C.2.2.2.2.2.2.2.1 c1 N v12 (((zi 28)) + x1) _ hc13) hRm kc13 rfl kw_340 kw_9 kw_1251 kw_338 kw_339 hyX3_sizeOf (Nat.le_of_ble_eq_true rfl) (Nat.le_of_ble_eq_true rfl) rfl rfl (Nat.le_of_ble_eq_true rfl) dX9_sink_77 ?_
        cases hf
        exact hq _ _ dX9_sink_80
      · rw [if_neg q10] at hf
        by_cases q14 : x2 = (zi 3)
        · rw [if_pos q14] at hf
          refine z_tableIn C 81 dX9_sink_6 (by rw [q14]; decide) (by rw [q14]; decide) (by rw [q14]; rfl) (by decide) ?_
          refine z_aload_n C dX9_sink_81 rfl 0 rfl ?_
          obtain ⟨v15, hv15, hf⟩ := zbind hf
          refine gf_RX9_50 C hv15 dX9_sink_82 ?_
          obtain ⟨v16, hv16, hf⟩ := zbind hf
          refine gf_RX9_187 C hv16 dX9_sink_85 ?_
          refine z_iconst C (zi 4) dX9_sink_88 (by decide) ?_
          refine z_iload_n C dX9_sink_89 rfl 1 rfl ?_
          refine z_iadd C dX9_sink_90 ?_
          obtain ⟨v17, hv17, hf⟩ := zbind hf
          refine z_aI C hv17 dX9_sink_91 ?_
          cases hf
          exact hq _ _ dX9_sink_92
        · rw [if_neg q14] at hf
          have w9 : ∀ k : Nat, k < 4 → ¬ x2 = Int32.ofInt ((0 : Int) + k) := by
            intro k hk
            match k, hk with
            | 0, _ => exact q2
            | 1, _ => exact q6
            | 2, _ => exact q10
            | 3, _ => exact q14
            | k + 4, hk => exact absurd hk (by omega)
          refine z_tableOut C 93 dX9_sink_6 (zsw 0 4 w9 (by decide)) (by decide) ?_
          cases hf

theorem mX9_sink (l : Launch) (D : va_G) (Ca : Nat → ClassId) (B : Nat) (En : State → Prop) (hE : zEk B En) (σ : zS) (N : Nat) (x0 : Nat) (x1 : Int32) (x2 : Int32) (X : zS × Int32) (hf : fX9_sink σ x0 x1 x2 = some X) : zMi l D Ca B En yX9_sink cX9_sink 3 (Option.some Jvm.ClassFile.FieldType.int) 2 41 [.ref x0, .int x1, .int x2] σ N X.1 X.2 :=
  zMet_i (own := RX9) hE (by decide +kernel) rfl (Nat.le_of_ble_eq_true rfl) (fun p e s m args below meth c C hr hRm => wfX9_sink C hRm σ x0 x1 x2 X.1 X.2 hf (fun pc lv hd => zfin_i C hr hd))
theorem dX9_shown_0 : decode cX9_shown 0 = .ok (.aload_n 0, 1) := by decide +kernel
theorem dX9_shown_1 : decode cX9_shown 1 = .ok (.iload_n 1, 1) := by decide +kernel
theorem dX9_shown_2 : decode cX9_shown 2 = .ok (.invokevirtual 196, 3) := by decide +kernel
theorem dX9_shown_5 : decode cX9_shown 5 = .ok (.iload_n 3, 1) := by decide +kernel
theorem dX9_shown_6 : decode cX9_shown 6 = .ok (.ifCond .lt 8, 3) := by decide +kernel
theorem dX9_shown_9 : decode cX9_shown 9 = .ok (.iload_n 3, 1) := by decide +kernel
theorem dX9_shown_10 : decode cX9_shown 10 = .ok (.iconst 1, 1) := by decide +kernel
theorem dX9_shown_11 : decode cX9_shown 11 = .ok (.if_icmp .le 11, 3) := by decide +kernel
theorem dX9_shown_14 : decode cX9_shown 14 = .ok (.new 155, 3) := by decide +kernel
theorem dX9_shown_17 : decode cX9_shown 17 = .ok (.dup, 1) := by decide +kernel
theorem dX9_shown_18 : decode cX9_shown 18 = .ok (.invokespecial 157, 3) := by decide +kernel
theorem dX9_shown_21 : decode cX9_shown 21 = .ok (.athrow, 1) := by decide +kernel
theorem dX9_shown_22 : decode cX9_shown 22 = .ok (.aload_n 0, 1) := by decide +kernel
theorem dX9_shown_23 : decode cX9_shown 23 = .ok (.getfield 50, 3) := by decide +kernel
theorem dX9_shown_26 : decode cX9_shown 26 = .ok (.getfield 199, 3) := by decide +kernel
theorem dX9_shown_29 : decode cX9_shown 29 = .ok (.bipush 28, 2) := by decide +kernel
theorem dX9_shown_31 : decode cX9_shown 31 = .ok (.iload_n 1, 1) := by decide +kernel
theorem dX9_shown_32 : decode cX9_shown 32 = .ok (.iadd, 1) := by decide +kernel
theorem dX9_shown_33 : decode cX9_shown 33 = .ok (.iload_n 2, 1) := by decide +kernel
theorem dX9_shown_34 : decode cX9_shown 34 = .ok (.invokevirtual 208, 3) := by decide +kernel
theorem dX9_shown_37 : decode cX9_shown 37 = .ok (.istore 4, 2) := by decide +kernel
theorem dX9_shown_39 : decode cX9_shown 39 = .ok (.iload 4, 2) := by decide +kernel
theorem dX9_shown_41 : decode cX9_shown 41 = .ok (.iconst (-1), 1) := by decide +kernel
theorem dX9_shown_42 : decode cX9_shown 42 = .ok (.if_icmp .ne 11, 3) := by decide +kernel
theorem dX9_shown_45 : decode cX9_shown 45 = .ok (.new 211, 3) := by decide +kernel
theorem dX9_shown_48 : decode cX9_shown 48 = .ok (.dup, 1) := by decide +kernel
theorem dX9_shown_49 : decode cX9_shown 49 = .ok (.invokespecial 213, 3) := by decide +kernel
theorem dX9_shown_52 : decode cX9_shown 52 = .ok (.athrow, 1) := by decide +kernel
theorem dX9_shown_53 : decode cX9_shown 53 = .ok (.iload_n 3, 1) := by decide +kernel
theorem dX9_shown_54 : decode cX9_shown 54 = .ok (.ifCond .ne 15, 3) := by decide +kernel
theorem dX9_shown_57 : decode cX9_shown 57 = .ok (.aload_n 0, 1) := by decide +kernel
theorem dX9_shown_58 : decode cX9_shown 58 = .ok (.getfield 35, 3) := by decide +kernel
theorem dX9_shown_61 : decode cX9_shown 61 = .ok (.iload 4, 2) := by decide +kernel
theorem dX9_shown_63 : decode cX9_shown 63 = .ok (.invokevirtual 162, 3) := by decide +kernel
theorem dX9_shown_66 : decode cX9_shown 66 = .ok (.goto 12, 3) := by decide +kernel
theorem dX9_shown_69 : decode cX9_shown 69 = .ok (.aload_n 0, 1) := by decide +kernel
theorem dX9_shown_70 : decode cX9_shown 70 = .ok (.getfield 35, 3) := by decide +kernel
theorem dX9_shown_73 : decode cX9_shown 73 = .ok (.iload 4, 2) := by decide +kernel
theorem dX9_shown_75 : decode cX9_shown 75 = .ok (.invokevirtual 214, 3) := by decide +kernel
theorem dX9_shown_78 : decode cX9_shown 78 = .ok (.ireturn, 1) := by decide +kernel
theorem hyX9_shown : yX9_shown.cls ≠ "java/lang/invoke/MethodHandle" ∧ yX9_shown.cls ≠ "java/lang/invoke/VarHandle" ∧ (parseMethodDescriptor yX9_shown.desc).map (fun d => d.parameters.length) = some 3 := ⟨by decide +kernel, by decide +kernel, by decide +kernel⟩
set_option maxRecDepth 100000 in
set_option maxHeartbeats 4000000 in
theorem wfX9_shown (C : zC p s m args meth c cX9_shown RX9 5 D Ca B En) (hRm : zRm R 3 65 cells slots) (σ : zS) (x0 : Nat) (x1 : Int32) (x2 : Int32) (x3 : Int32) (τ : zS) (r : Int32) (hf : fX9_shown σ x0 x1 x2 x3 = some (τ, r)) (hq : ∀ (pc : Nat) (lv : List (Nat × Value)), decode cX9_shown pc = .ok (.ireturn, 1) → zW p l e R s m args below meth c cells slots Q D Ca B 5 τ N pc lv [.int r]) : zW p l e R s m args below meth c cells slots Q D Ca B 5 σ N 0 [(0, .ref x0), (1, .int x1), (2, .int x2), (3, .int x3)] [] := by
  unfold fX9_shown at hf
  refine z_aload_n C dX9_shown_0 rfl 0 rfl ?_
  refine z_iload_n C dX9_shown_1 rfl 1 rfl ?_
  obtain ⟨c1, hc1, hf⟩ := zbind hf
  obtain ⟨kc1, hc1⟩ := zck_ok hc1
  refine z_callVv (As := [.int x1]) (F0 := 3) (L0 := 65) C (mX9_needSink l D Ca B En C.2.2.2.2.2.2.2.1 σ N x0 x1 _ hc1) hRm kc1 rfl kw_1250 kw_1 kw_1247 kw_1249 kp_33 hyX9_needSink (Nat.le_of_ble_eq_true rfl) (Nat.le_of_ble_eq_true rfl) rfl rfl (Nat.le_of_ble_eq_true rfl) dX9_shown_2 ?_
  refine z_iload_n C dX9_shown_5 rfl 3 rfl ?_
  refine z_if_lt C 14 dX9_shown_6 (by decide) (fun q12 => ?_) (fun q12 => ?_)
  · rw [if_pos q12] at hf
    cases hf
  · rw [if_neg q12] at hf
    refine z_iload_n C dX9_shown_9 rfl 3 rfl ?_
    refine z_iconst C (zi 1) dX9_shown_10 (by decide) ?_
    refine z_icmp_le C 22 dX9_shown_11 (by decide) (fun q11 => ?_) (fun q11 => ?_)
    · rw [if_pos q11] at hf
      refine z_aload_n C dX9_shown_22 rfl 0 rfl ?_
      obtain ⟨v2, hv2, hf⟩ := zbind hf
      refine gf_RX9_50 C hv2 dX9_shown_23 ?_
      obtain ⟨v3, hv3, hf⟩ := zbind hf
      refine gf_RX9_199 C hv3 dX9_shown_26 ?_
      refine z_bipush C (zi 28) dX9_shown_29 (by decide) ?_
      refine z_iload_n C dX9_shown_31 rfl 1 rfl ?_
      refine z_iadd C dX9_shown_32 ?_
      refine z_iload_n C dX9_shown_33 rfl 2 rfl ?_
      obtain ⟨c4, hc4, hf⟩ := zbind hf
      obtain ⟨kc4, hc4⟩ := zck_ok hc4
      refine z_callVi (As := [.int (((zi 28)) + x1), .int x2]) (F0 := 3) (L0 := 65) C (mX3_at l D Ca B En C.2.2.2.2.2.2.2.1 c1 N v3 (((zi 28)) + x1) x2 _ hc4) hRm kc4 rfl kw_1259 kw_9 kw_1256 kw_1257 kw_1258 hyX3_at (Nat.le_of_ble_eq_true rfl) (Nat.le_of_ble_eq_true rfl) rfl rfl (Nat.le_of_ble_eq_true rfl) dX9_shown_34 ?_
      refine z_istore (lv2 := [(4, .int c4.2), (0, .ref x0), (1, .int x1), (2, .int x2), (3, .int x3)]) C dX9_shown_37 (by decide) rfl ?_
      refine z_iload C dX9_shown_39 0 rfl ?_
      refine z_iconst C (zi (-1)) dX9_shown_41 (by decide) ?_
      refine z_icmp_ne C 53 dX9_shown_42 (by decide) (fun q10 => ?_) (fun q10 => ?_)
      · rw [if_neg q10] at hf
        refine z_iload_n C dX9_shown_53 rfl 4 rfl ?_
        refine z_if_ne C 69 dX9_shown_54 (by decide) (fun q9 => ?_) (fun q9 => ?_)
        · rw [if_neg q9] at hf
          refine z_aload_n C dX9_shown_69 rfl 1 rfl ?_
          obtain ⟨v5, hv5, hf⟩ := zbind hf
          refine gf_RX9_35 C hv5 dX9_shown_70 ?_
          refine z_iload C dX9_shown_73 0 rfl ?_
          obtain ⟨c6, hc6, hf⟩ := zbind hf
          obtain ⟨kc6, hc6⟩ := zck_ok hc6
          refine z_callVi (As := [.int c4.2]) (F0 := 3) (L0 := 65) C (mX7_resultOf l D Ca B En C.2.2.2.2.2.2.2.1 c4.1 N v5 c4.2 _ hc6) hRm kc6 rfl kw_1281 kw_5 kw_1278 kw_1279 kw_1280 hyX7_resultOf (Nat.le_of_ble_eq_true rfl) (Nat.le_of_ble_eq_true rfl) rfl rfl (Nat.le_of_ble_eq_true rfl) dX9_shown_75 ?_
          cases hf
          exact hq _ _ dX9_shown_78
        · rw [if_pos q9] at hf
          refine z_aload_n C dX9_shown_57 rfl 1 rfl ?_
          obtain ⟨v7, hv7, hf⟩ := zbind hf
          refine gf_RX9_35 C hv7 dX9_shown_58 ?_
          refine z_iload C dX9_shown_61 0 rfl ?_
          obtain ⟨c8, hc8, hf⟩ := zbind hf
          obtain ⟨kc8, hc8⟩ := zck_ok hc8
          refine z_callVi (As := [.int c4.2]) (F0 := 3) (L0 := 65) C (mX7_keyOf l D Ca B En C.2.2.2.2.2.2.2.1 c4.1 N v7 c4.2 _ hc8) hRm kc8 rfl kw_638 kw_5 kw_1277 kw_636 kw_637 hyX7_keyOf (Nat.le_of_ble_eq_true rfl) (Nat.le_of_ble_eq_true rfl) rfl rfl (Nat.le_of_ble_eq_true rfl) dX9_shown_63 ?_
          refine z_goto C 78 dX9_shown_66 (by decide) ?_
          cases hf
          exact hq _ _ dX9_shown_78
      · rw [if_pos q10] at hf
        cases hf
    · rw [if_neg q11] at hf
      cases hf

theorem mX9_shown (l : Launch) (D : va_G) (Ca : Nat → ClassId) (B : Nat) (En : State → Prop) (hE : zEk B En) (σ : zS) (N : Nat) (x0 : Nat) (x1 : Int32) (x2 : Int32) (x3 : Int32) (X : zS × Int32) (hf : fX9_shown σ x0 x1 x2 x3 = some X) : zMi l D Ca B En yX9_shown cX9_shown 5 (Option.some Jvm.ClassFile.FieldType.int) 3 65 [.ref x0, .int x1, .int x2, .int x3] σ N X.1 X.2 :=
  zMet_i (own := RX9) hE (by decide +kernel) rfl (Nat.le_of_ble_eq_true rfl) (fun p e s m args below meth c C hr hRm => wfX9_shown C hRm σ x0 x1 x2 x3 X.1 X.2 hf (fun pc lv hd => zfin_i C hr hd))
theorem dX9_progress_0 : decode cX9_progress 0 = .ok (.iload_n 1, 1) := by decide +kernel
theorem dX9_progress_1 : decode cX9_progress 1 = .ok (.ifCond .lt 9, 3) := by decide +kernel
theorem dX9_progress_4 : decode cX9_progress 4 = .ok (.iload_n 1, 1) := by decide +kernel
theorem dX9_progress_5 : decode cX9_progress 5 = .ok (.bipush 6, 2) := by decide +kernel
theorem dX9_progress_7 : decode cX9_progress 7 = .ok (.if_icmp .le 11, 3) := by decide +kernel
theorem dX9_progress_10 : decode cX9_progress 10 = .ok (.new 224, 3) := by decide +kernel
theorem dX9_progress_13 : decode cX9_progress 13 = .ok (.dup, 1) := by decide +kernel
theorem dX9_progress_14 : decode cX9_progress 14 = .ok (.invokespecial 226, 3) := by decide +kernel
theorem dX9_progress_17 : decode cX9_progress 17 = .ok (.athrow, 1) := by decide +kernel
theorem dX9_progress_18 : decode cX9_progress 18 = .ok (.aload_n 0, 1) := by decide +kernel
theorem dX9_progress_19 : decode cX9_progress 19 = .ok (.getfield 50, 3) := by decide +kernel
theorem dX9_progress_22 : decode cX9_progress 22 = .ok (.getfield 227, 3) := by decide +kernel
theorem dX9_progress_25 : decode cX9_progress 25 = .ok (.astore_n 2, 1) := by decide +kernel
theorem dX9_progress_26 : decode cX9_progress 26 = .ok (.aload_n 2, 1) := by decide +kernel
theorem dX9_progress_27 : decode cX9_progress 27 = .ok (.invokevirtual 231, 3) := by decide +kernel
theorem dX9_progress_30 : decode cX9_progress 30 = .ok (.ifCond .ne 5, 3) := by decide +kernel
theorem dX9_progress_33 : decode cX9_progress 33 = .ok (.iconst (-1), 1) := by decide +kernel
theorem dX9_progress_34 : decode cX9_progress 34 = .ok (.ireturn, 1) := by decide +kernel
theorem dX9_progress_35 : decode cX9_progress 35 = .ok (.iload_n 1, 1) := by decide +kernel
theorem dX9_progress_36 : decode cX9_progress 36 = .ok (.tableswitch 86 0 5 #[40, 45, 50, 63, 71, 78], 40) := by decide +kernel
theorem dX9_progress_76 : decode cX9_progress 76 = .ok (.aload_n 2, 1) := by decide +kernel
theorem dX9_progress_77 : decode cX9_progress 77 = .ok (.getfield 237, 3) := by decide +kernel
theorem dX9_progress_80 : decode cX9_progress 80 = .ok (.ireturn, 1) := by decide +kernel
theorem dX9_progress_81 : decode cX9_progress 81 = .ok (.aload_n 2, 1) := by decide +kernel
theorem dX9_progress_82 : decode cX9_progress 82 = .ok (.getfield 240, 3) := by decide +kernel
theorem dX9_progress_85 : decode cX9_progress 85 = .ok (.ireturn, 1) := by decide +kernel
theorem dX9_progress_86 : decode cX9_progress 86 = .ok (.aload_n 2, 1) := by decide +kernel
theorem dX9_progress_87 : decode cX9_progress 87 = .ok (.getfield 243, 3) := by decide +kernel
theorem dX9_progress_90 : decode cX9_progress 90 = .ok (.ifCond .eq 7, 3) := by decide +kernel
theorem dX9_progress_93 : decode cX9_progress 93 = .ok (.iconst 1, 1) := by decide +kernel
theorem dX9_progress_94 : decode cX9_progress 94 = .ok (.goto 4, 3) := by decide +kernel
theorem dX9_progress_97 : decode cX9_progress 97 = .ok (.iconst 0, 1) := by decide +kernel
theorem dX9_progress_98 : decode cX9_progress 98 = .ok (.ireturn, 1) := by decide +kernel
theorem dX9_progress_99 : decode cX9_progress 99 = .ok (.aload_n 2, 1) := by decide +kernel
theorem dX9_progress_100 : decode cX9_progress 100 = .ok (.getfield 244, 3) := by decide +kernel
theorem dX9_progress_103 : decode cX9_progress 103 = .ok (.invokestatic 247, 3) := by decide +kernel
theorem dX9_progress_106 : decode cX9_progress 106 = .ok (.ireturn, 1) := by decide +kernel
theorem dX9_progress_107 : decode cX9_progress 107 = .ok (.aload_n 2, 1) := by decide +kernel
theorem dX9_progress_108 : decode cX9_progress 108 = .ok (.iconst 0, 1) := by decide +kernel
theorem dX9_progress_109 : decode cX9_progress 109 = .ok (.iconst 4, 1) := by decide +kernel
theorem dX9_progress_110 : decode cX9_progress 110 = .ok (.invokevirtual 252, 3) := by decide +kernel
theorem dX9_progress_113 : decode cX9_progress 113 = .ok (.ireturn, 1) := by decide +kernel
theorem dX9_progress_114 : decode cX9_progress 114 = .ok (.aload_n 2, 1) := by decide +kernel
theorem dX9_progress_115 : decode cX9_progress 115 = .ok (.iconst 4, 1) := by decide +kernel
theorem dX9_progress_116 : decode cX9_progress 116 = .ok (.bipush 6, 2) := by decide +kernel
theorem dX9_progress_118 : decode cX9_progress 118 = .ok (.invokevirtual 252, 3) := by decide +kernel
theorem dX9_progress_121 : decode cX9_progress 121 = .ok (.ireturn, 1) := by decide +kernel
theorem dX9_progress_122 : decode cX9_progress 122 = .ok (.aload_n 2, 1) := by decide +kernel
theorem dX9_progress_123 : decode cX9_progress 123 = .ok (.getfield 255, 3) := by decide +kernel
theorem dX9_progress_126 : decode cX9_progress 126 = .ok (.ireturn, 1) := by decide +kernel
theorem hyX9_progress : yX9_progress.cls ≠ "java/lang/invoke/MethodHandle" ∧ yX9_progress.cls ≠ "java/lang/invoke/VarHandle" ∧ (parseMethodDescriptor yX9_progress.desc).map (fun d => d.parameters.length) = some 1 := ⟨by decide +kernel, by decide +kernel, by decide +kernel⟩
set_option maxRecDepth 100000 in
set_option maxHeartbeats 4000000 in
theorem wfX9_progress (C : zC p s m args meth c cX9_progress RX9 3 D Ca B En) (hRm : zRm R 2 44 cells slots) (σ : zS) (x0 : Nat) (x1 : Int32) (τ : zS) (r : Int32) (hf : fX9_progress σ x0 x1 = some (τ, r)) (hq : ∀ (pc : Nat) (lv : List (Nat × Value)), decode cX9_progress pc = .ok (.ireturn, 1) → zW p l e R s m args below meth c cells slots Q D Ca B 3 τ N pc lv [.int r]) : zW p l e R s m args below meth c cells slots Q D Ca B 3 σ N 0 [(0, .ref x0), (1, .int x1)] [] := by
  unfold fX9_progress at hf
  refine z_iload_n C dX9_progress_0 rfl 1 rfl ?_
  refine z_if_lt C 10 dX9_progress_1 (by decide) (fun q21 => ?_) (fun q21 => ?_)
  · rw [if_pos q21] at hf
    cases hf
  · rw [if_neg q21] at hf
    refine z_iload_n C dX9_progress_4 rfl 1 rfl ?_
    refine z_bipush C (zi 6) dX9_progress_5 (by decide) ?_
    refine z_icmp_le C 18 dX9_progress_7 (by decide) (fun q20 => ?_) (fun q20 => ?_)
    · rw [if_pos q20] at hf
      refine z_aload_n C dX9_progress_18 rfl 0 rfl ?_
      obtain ⟨v1, hv1, hf⟩ := zbind hf
      refine gf_RX9_50 C hv1 dX9_progress_19 ?_
      obtain ⟨v2, hv2, hf⟩ := zbind hf
      refine gf_RX9_227 C hv2 dX9_progress_22 ?_
      refine z_astore_n (lv2 := [(2, .ref v2), (0, .ref x0), (1, .int x1)]) C dX9_progress_25 rfl (by decide) rfl ?_
      refine z_aload_n C dX9_progress_26 rfl 0 rfl ?_
      obtain ⟨c3, hc3, hf⟩ := zbind hf
      obtain ⟨kc3, hc3⟩ := zck_ok hc3
      refine z_callVi (As := []) (F0 := 2) (L0 := 44) C (mX0_exists l D Ca B En C.2.2.2.2.2.2.2.1 σ N v2  _ hc3) hRm kc3 rfl kw_316 kw_10 kw_550 kw_314 kw_315 hyX0_exists (Nat.le_of_ble_eq_true rfl) (Nat.le_of_ble_eq_true rfl) rfl rfl (Nat.le_of_ble_eq_true rfl) dX9_progress_27 ?_
      refine z_if_ne C 35 dX9_progress_30 (by decide) (fun q19 => ?_) (fun q19 => ?_)
      · rw [if_neg q19] at hf
        refine z_iload_n C dX9_progress_35 rfl 2 rfl ?_
        by_cases q4 : x1 = (zi 0)
        · rw [if_pos q4] at hf
          refine z_tableIn C 76 dX9_progress_36 (by rw [q4]; decide) (by rw [q4]; decide) (by rw [q4]; rfl) (by decide) ?_
          refine z_aload_n C dX9_progress_76 rfl 0 rfl ?_
          obtain ⟨v5, hv5, hf⟩ := zbind hf
          refine gf_RX9_237 C hv5 dX9_progress_77 ?_
          cases hf
          exact hq _ _ dX9_progress_80
        · rw [if_neg q4] at hf
          by_cases q6 : x1 = (zi 1)
          · rw [if_pos q6] at hf
            refine z_tableIn C 81 dX9_progress_36 (by rw [q6]; decide) (by rw [q6]; decide) (by rw [q6]; rfl) (by decide) ?_
            refine z_aload_n C dX9_progress_81 rfl 0 rfl ?_
            obtain ⟨v7, hv7, hf⟩ := zbind hf
            refine gf_RX9_240 C hv7 dX9_progress_82 ?_
            cases hf
            exact hq _ _ dX9_progress_85
          · rw [if_neg q6] at hf
            by_cases q8 : x1 = (zi 2)
            · rw [if_pos q8] at hf
              refine z_tableIn C 86 dX9_progress_36 (by rw [q8]; decide) (by rw [q8]; decide) (by rw [q8]; rfl) (by decide) ?_
              refine z_aload_n C dX9_progress_86 rfl 0 rfl ?_
              obtain ⟨v9, hv9, hf⟩ := zbind hf
              refine gf_RX9_243 C hv9 dX9_progress_87 ?_
              refine z_if_eq C 97 dX9_progress_90 (by decide) (fun q10 => ?_) (fun q10 => ?_)
              · rw [if_pos q10] at hf
                refine z_iconst C (zi 0) dX9_progress_97 (by decide) ?_
                cases hf
                exact hq _ _ dX9_progress_98
              · rw [if_neg q10] at hf
                refine z_iconst C (zi 1) dX9_progress_93 (by decide) ?_
                refine z_goto C 98 dX9_progress_94 (by decide) ?_
                cases hf
                exact hq _ _ dX9_progress_98
            · rw [if_neg q8] at hf
              by_cases q11 : x1 = (zi 3)
              · rw [if_pos q11] at hf
                refine z_tableIn C 99 dX9_progress_36 (by rw [q11]; decide) (by rw [q11]; decide) (by rw [q11]; rfl) (by decide) ?_
                refine z_aload_n C dX9_progress_99 rfl 0 rfl ?_
                obtain ⟨v12, hv12, hf⟩ := zbind hf
                refine gf_RX9_244 C hv12 dX9_progress_100 ?_
                obtain ⟨c13, hc13, hf⟩ := zbind hf
                refine z_callSi (As := [.int v12]) (F0 := 2) (L0 := 44) C (mJ6_bitCount_0f7a4 l D Ca B En C.2.2.2.2.2.2.2.1 c3.1 N v12 _ hc13) hRm kw_553 kw_23 kw_551 kw_552 hyJ6_bitCount_0f7a4 (Nat.le_of_ble_eq_true rfl) (Nat.le_of_ble_eq_true rfl) rfl rfl (Nat.le_of_ble_eq_true rfl) dX9_progress_103 ?_
                cases hf
                exact hq _ _ dX9_progress_106
              · rw [if_neg q11] at hf
                by_cases q14 : x1 = (zi 4)
                · rw [if_pos q14] at hf
                  refine z_tableIn C 107 dX9_progress_36 (by rw [q14]; decide) (by rw [q14]; decide) (by rw [q14]; rfl) (by decide) ?_
                  refine z_aload_n C dX9_progress_107 rfl 0 rfl ?_
                  refine z_iconst C (zi 0) dX9_progress_108 (by decide) ?_
                  refine z_iconst C (zi 4) dX9_progress_109 (by decide) ?_
                  obtain ⟨c15, hc15, hf⟩ := zbind hf
                  obtain ⟨kc15, hc15⟩ := zck_ok hc15
                  refine z_callVi (As := [.int ((zi 0)), .int ((zi 4))]) (F0 := 2) (L0 := 44) C (mX0_arrivedFrom l D Ca B En C.2.2.2.2.2.2.2.1 c3.1 N v2 ((zi 0)) ((zi 4)) _ hc15) hRm kc15 rfl kw_560 kw_10 kw_557 kw_558 kw_559 hyX0_arrivedFrom (Nat.le_of_ble_eq_true rfl) (Nat.le_of_ble_eq_true rfl) rfl rfl (Nat.le_of_ble_eq_true rfl) dX9_progress_110 ?_
                  cases hf
                  exact hq _ _ dX9_progress_113
                · rw [if_neg q14] at hf
                  by_cases q16 : x1 = (zi 5)
                  · rw [if_pos q16] at hf
                    refine z_tableIn C 114 dX9_progress_36 (by rw [q16]; decide) (by rw [q16]; decide) (by rw [q16]; rfl) (by decide) ?_
                    refine z_aload_n C dX9_progress_114 rfl 0 rfl ?_
                    refine z_iconst C (zi 4) dX9_progress_115 (by decide) ?_
                    refine z_bipush C (zi 6) dX9_progress_116 (by decide) ?_
                    obtain ⟨c17, hc17, hf⟩ := zbind hf
                    obtain ⟨kc17, hc17⟩ := zck_ok hc17
                    refine z_callVi (As := [.int ((zi 4)), .int ((zi 6))]) (F0 := 2) (L0 := 44) C (mX0_arrivedFrom l D Ca B En C.2.2.2.2.2.2.2.1 c3.1 N v2 ((zi 4)) ((zi 6)) _ hc17) hRm kc17 rfl kw_560 kw_10 kw_557 kw_558 kw_559 hyX0_arrivedFrom (Nat.le_of_ble_eq_true rfl) (Nat.le_of_ble_eq_true rfl) rfl rfl (Nat.le_of_ble_eq_true rfl) dX9_progress_118 ?_
                    cases hf
                    exact hq _ _ dX9_progress_121
                  · rw [if_neg q16] at hf
                    have w9 : ∀ k : Nat, k < 6 → ¬ x1 = Int32.ofInt ((0 : Int) + k) := by
                      intro k hk
                      match k, hk with
                      | 0, _ => exact q4
                      | 1, _ => exact q6
                      | 2, _ => exact q8
                      | 3, _ => exact q11
                      | 4, _ => exact q14
                      | 5, _ => exact q16
                      | k + 6, hk => exact absurd hk (by omega)
                    refine z_tableOut C 122 dX9_progress_36 (zsw 0 6 w9 (by decide)) (by decide) ?_
                    refine z_aload_n C dX9_progress_122 rfl 0 rfl ?_
                    obtain ⟨v18, hv18, hf⟩ := zbind hf
                    refine gf_RX9_255 C hv18 dX9_progress_123 ?_
                    cases hf
                    exact hq _ _ dX9_progress_126
      · rw [if_pos q19] at hf
        refine z_iconst C (zi (-1)) dX9_progress_33 (by decide) ?_
        cases hf
        exact hq _ _ dX9_progress_34
    · rw [if_neg q20] at hf
      cases hf

theorem mX9_progress (l : Launch) (D : va_G) (Ca : Nat → ClassId) (B : Nat) (En : State → Prop) (hE : zEk B En) (σ : zS) (N : Nat) (x0 : Nat) (x1 : Int32) (X : zS × Int32) (hf : fX9_progress σ x0 x1 = some X) : zMi l D Ca B En yX9_progress cX9_progress 3 (Option.some Jvm.ClassFile.FieldType.int) 2 44 [.ref x0, .int x1] σ N X.1 X.2 :=
  zMet_i (own := RX9) hE (by decide +kernel) rfl (Nat.le_of_ble_eq_true rfl) (fun p e s m args below meth c C hr hRm => wfX9_progress C hRm σ x0 x1 X.1 X.2 hf (fun pc lv hd => zfin_i C hr hd))
theorem dX9_completed_0 : decode cX9_completed 0 = .ok (.iload_n 1, 1) := by decide +kernel
theorem dX9_completed_1 : decode cX9_completed 1 = .ok (.ifCond .lt 8, 3) := by decide +kernel
theorem dX9_completed_4 : decode cX9_completed 4 = .ok (.iload_n 1, 1) := by decide +kernel
theorem dX9_completed_5 : decode cX9_completed 5 = .ok (.iconst 5, 1) := by decide +kernel
theorem dX9_completed_6 : decode cX9_completed 6 = .ok (.if_icmp .le 11, 3) := by decide +kernel
theorem dX9_completed_9 : decode cX9_completed 9 = .ok (.new 224, 3) := by decide +kernel
theorem dX9_completed_12 : decode cX9_completed 12 = .ok (.dup, 1) := by decide +kernel
theorem dX9_completed_13 : decode cX9_completed 13 = .ok (.invokespecial 226, 3) := by decide +kernel
theorem dX9_completed_16 : decode cX9_completed 16 = .ok (.athrow, 1) := by decide +kernel
theorem dX9_completed_17 : decode cX9_completed 17 = .ok (.aload_n 0, 1) := by decide +kernel
theorem dX9_completed_18 : decode cX9_completed 18 = .ok (.getfield 50, 3) := by decide +kernel
theorem dX9_completed_21 : decode cX9_completed 21 = .ok (.getfield 258, 3) := by decide +kernel
theorem dX9_completed_24 : decode cX9_completed 24 = .ok (.astore_n 2, 1) := by decide +kernel
theorem dX9_completed_25 : decode cX9_completed 25 = .ok (.aload_n 2, 1) := by decide +kernel
theorem dX9_completed_26 : decode cX9_completed 26 = .ok (.invokevirtual 231, 3) := by decide +kernel
theorem dX9_completed_29 : decode cX9_completed 29 = .ok (.ifCond .ne 5, 3) := by decide +kernel
theorem dX9_completed_32 : decode cX9_completed 32 = .ok (.iconst (-1), 1) := by decide +kernel
theorem dX9_completed_33 : decode cX9_completed 33 = .ok (.ireturn, 1) := by decide +kernel
theorem dX9_completed_34 : decode cX9_completed 34 = .ok (.iload_n 1, 1) := by decide +kernel
theorem dX9_completed_35 : decode cX9_completed 35 = .ok (.tableswitch 66 0 4 #[33, 38, 43, 48, 61], 33) := by decide +kernel
theorem dX9_completed_68 : decode cX9_completed 68 = .ok (.aload_n 2, 1) := by decide +kernel
theorem dX9_completed_69 : decode cX9_completed 69 = .ok (.getfield 237, 3) := by decide +kernel
theorem dX9_completed_72 : decode cX9_completed 72 = .ok (.ireturn, 1) := by decide +kernel
theorem dX9_completed_73 : decode cX9_completed 73 = .ok (.aload_n 2, 1) := by decide +kernel
theorem dX9_completed_74 : decode cX9_completed 74 = .ok (.getfield 240, 3) := by decide +kernel
theorem dX9_completed_77 : decode cX9_completed 77 = .ok (.ireturn, 1) := by decide +kernel
theorem dX9_completed_78 : decode cX9_completed 78 = .ok (.aload_n 2, 1) := by decide +kernel
theorem dX9_completed_79 : decode cX9_completed 79 = .ok (.getfield 261, 3) := by decide +kernel
theorem dX9_completed_82 : decode cX9_completed 82 = .ok (.ireturn, 1) := by decide +kernel
theorem dX9_completed_83 : decode cX9_completed 83 = .ok (.aload_n 2, 1) := by decide +kernel
theorem dX9_completed_84 : decode cX9_completed 84 = .ok (.getfield 243, 3) := by decide +kernel
theorem dX9_completed_87 : decode cX9_completed 87 = .ok (.ifCond .eq 7, 3) := by decide +kernel
theorem dX9_completed_90 : decode cX9_completed 90 = .ok (.iconst 1, 1) := by decide +kernel
theorem dX9_completed_91 : decode cX9_completed 91 = .ok (.goto 4, 3) := by decide +kernel
theorem dX9_completed_94 : decode cX9_completed 94 = .ok (.iconst 0, 1) := by decide +kernel
theorem dX9_completed_95 : decode cX9_completed 95 = .ok (.ireturn, 1) := by decide +kernel
theorem dX9_completed_96 : decode cX9_completed 96 = .ok (.aload_n 2, 1) := by decide +kernel
theorem dX9_completed_97 : decode cX9_completed 97 = .ok (.getfield 255, 3) := by decide +kernel
theorem dX9_completed_100 : decode cX9_completed 100 = .ok (.ireturn, 1) := by decide +kernel
theorem dX9_completed_101 : decode cX9_completed 101 = .ok (.aload_n 2, 1) := by decide +kernel
theorem dX9_completed_102 : decode cX9_completed 102 = .ok (.getfield 264, 3) := by decide +kernel
theorem dX9_completed_105 : decode cX9_completed 105 = .ok (.ifCond .eq 7, 3) := by decide +kernel
theorem dX9_completed_108 : decode cX9_completed 108 = .ok (.iconst 1, 1) := by decide +kernel
theorem dX9_completed_109 : decode cX9_completed 109 = .ok (.goto 4, 3) := by decide +kernel
theorem dX9_completed_112 : decode cX9_completed 112 = .ok (.iconst 0, 1) := by decide +kernel
theorem dX9_completed_113 : decode cX9_completed 113 = .ok (.ireturn, 1) := by decide +kernel
theorem hyX9_completed : yX9_completed.cls ≠ "java/lang/invoke/MethodHandle" ∧ yX9_completed.cls ≠ "java/lang/invoke/VarHandle" ∧ (parseMethodDescriptor yX9_completed.desc).map (fun d => d.parameters.length) = some 1 := ⟨by decide +kernel, by decide +kernel, by decide +kernel⟩
set_option maxRecDepth 100000 in
set_option maxHeartbeats 4000000 in
theorem wfX9_completed (C : zC p s m args meth c cX9_completed RX9 3 D Ca B En) (hRm : zRm R 1 20 cells slots) (σ : zS) (x0 : Nat) (x1 : Int32) (τ : zS) (r : Int32) (hf : fX9_completed σ x0 x1 = some (τ, r)) (hq : ∀ (pc : Nat) (lv : List (Nat × Value)), decode cX9_completed pc = .ok (.ireturn, 1) → zW p l e R s m args below meth c cells slots Q D Ca B 3 τ N pc lv [.int r]) : zW p l e R s m args below meth c cells slots Q D Ca B 3 σ N 0 [(0, .ref x0), (1, .int x1)] [] := by
  unfold fX9_completed at hf
  refine z_iload_n C dX9_completed_0 rfl 1 rfl ?_
  refine z_if_lt C 9 dX9_completed_1 (by decide) (fun q19 => ?_) (fun q19 => ?_)
  · rw [if_pos q19] at hf
    cases hf
  · rw [if_neg q19] at hf
    refine z_iload_n C dX9_completed_4 rfl 1 rfl ?_
    refine z_iconst C (zi 5) dX9_completed_5 (by decide) ?_
    refine z_icmp_le C 17 dX9_completed_6 (by decide) (fun q18 => ?_) (fun q18 => ?_)
    · rw [if_pos q18] at hf
      refine z_aload_n C dX9_completed_17 rfl 0 rfl ?_
      obtain ⟨v1, hv1, hf⟩ := zbind hf
      refine gf_RX9_50 C hv1 dX9_completed_18 ?_
      obtain ⟨v2, hv2, hf⟩ := zbind hf
      refine gf_RX9_258 C hv2 dX9_completed_21 ?_
      refine z_astore_n (lv2 := [(2, .ref v2), (0, .ref x0), (1, .int x1)]) C dX9_completed_24 rfl (by decide) rfl ?_
      refine z_aload_n C dX9_completed_25 rfl 0 rfl ?_
      obtain ⟨c3, hc3, hf⟩ := zbind hf
      obtain ⟨kc3, hc3⟩ := zck_ok hc3
      refine z_callVi (As := []) (F0 := 1) (L0 := 20) C (mX0_exists l D Ca B En C.2.2.2.2.2.2.2.1 σ N v2  _ hc3) hRm kc3 rfl kw_316 kw_10 kw_550 kw_314 kw_315 hyX0_exists (Nat.le_of_ble_eq_true rfl) (Nat.le_of_ble_eq_true rfl) rfl rfl (Nat.le_of_ble_eq_true rfl) dX9_completed_26 ?_
      refine z_if_ne C 34 dX9_completed_29 (by decide) (fun q17 => ?_) (fun q17 => ?_)
      · rw [if_neg q17] at hf
        refine z_iload_n C dX9_completed_34 rfl 2 rfl ?_
        by_cases q4 : x1 = (zi 0)
        · rw [if_pos q4] at hf
          refine z_tableIn C 68 dX9_completed_35 (by rw [q4]; decide) (by rw [q4]; decide) (by rw [q4]; rfl) (by decide) ?_
          refine z_aload_n C dX9_completed_68 rfl 0 rfl ?_
          obtain ⟨v5, hv5, hf⟩ := zbind hf
          refine gf_RX9_237 C hv5 dX9_completed_69 ?_
          cases hf
          exact hq _ _ dX9_completed_72
        · rw [if_neg q4] at hf
          by_cases q6 : x1 = (zi 1)
          · rw [if_pos q6] at hf
            refine z_tableIn C 73 dX9_completed_35 (by rw [q6]; decide) (by rw [q6]; decide) (by rw [q6]; rfl) (by decide) ?_
            refine z_aload_n C dX9_completed_73 rfl 0 rfl ?_
            obtain ⟨v7, hv7, hf⟩ := zbind hf
            refine gf_RX9_240 C hv7 dX9_completed_74 ?_
            cases hf
            exact hq _ _ dX9_completed_77
          · rw [if_neg q6] at hf
            by_cases q8 : x1 = (zi 2)
            · rw [if_pos q8] at hf
              refine z_tableIn C 78 dX9_completed_35 (by rw [q8]; decide) (by rw [q8]; decide) (by rw [q8]; rfl) (by decide) ?_
              refine z_aload_n C dX9_completed_78 rfl 0 rfl ?_
              obtain ⟨v9, hv9, hf⟩ := zbind hf
              refine gf_RX9_261 C hv9 dX9_completed_79 ?_
              cases hf
              exact hq _ _ dX9_completed_82
            · rw [if_neg q8] at hf
              by_cases q10 : x1 = (zi 3)
              · rw [if_pos q10] at hf
                refine z_tableIn C 83 dX9_completed_35 (by rw [q10]; decide) (by rw [q10]; decide) (by rw [q10]; rfl) (by decide) ?_
                refine z_aload_n C dX9_completed_83 rfl 0 rfl ?_
                obtain ⟨v11, hv11, hf⟩ := zbind hf
                refine gf_RX9_243 C hv11 dX9_completed_84 ?_
                refine z_if_eq C 94 dX9_completed_87 (by decide) (fun q12 => ?_) (fun q12 => ?_)
                · rw [if_pos q12] at hf
                  refine z_iconst C (zi 0) dX9_completed_94 (by decide) ?_
                  cases hf
                  exact hq _ _ dX9_completed_95
                · rw [if_neg q12] at hf
                  refine z_iconst C (zi 1) dX9_completed_90 (by decide) ?_
                  refine z_goto C 95 dX9_completed_91 (by decide) ?_
                  cases hf
                  exact hq _ _ dX9_completed_95
              · rw [if_neg q10] at hf
                by_cases q13 : x1 = (zi 4)
                · rw [if_pos q13] at hf
                  refine z_tableIn C 96 dX9_completed_35 (by rw [q13]; decide) (by rw [q13]; decide) (by rw [q13]; rfl) (by decide) ?_
                  refine z_aload_n C dX9_completed_96 rfl 0 rfl ?_
                  obtain ⟨v14, hv14, hf⟩ := zbind hf
                  refine gf_RX9_255 C hv14 dX9_completed_97 ?_
                  cases hf
                  exact hq _ _ dX9_completed_100
                · rw [if_neg q13] at hf
                  have w9 : ∀ k : Nat, k < 5 → ¬ x1 = Int32.ofInt ((0 : Int) + k) := by
                    intro k hk
                    match k, hk with
                    | 0, _ => exact q4
                    | 1, _ => exact q6
                    | 2, _ => exact q8
                    | 3, _ => exact q10
                    | 4, _ => exact q13
                    | k + 5, hk => exact absurd hk (by omega)
                  refine z_tableOut C 101 dX9_completed_35 (zsw 0 5 w9 (by decide)) (by decide) ?_
                  refine z_aload_n C dX9_completed_101 rfl 0 rfl ?_
                  obtain ⟨v15, hv15, hf⟩ := zbind hf
                  refine gf_RX9_264 C hv15 dX9_completed_102 ?_
                  refine z_if_eq C 112 dX9_completed_105 (by decide) (fun q16 => ?_) (fun q16 => ?_)
                  · rw [if_pos q16] at hf
                    refine z_iconst C (zi 0) dX9_completed_112 (by decide) ?_
                    cases hf
                    exact hq _ _ dX9_completed_113
                  · rw [if_neg q16] at hf
                    refine z_iconst C (zi 1) dX9_completed_108 (by decide) ?_
                    refine z_goto C 113 dX9_completed_109 (by decide) ?_
                    cases hf
                    exact hq _ _ dX9_completed_113
      · rw [if_pos q17] at hf
        refine z_iconst C (zi (-1)) dX9_completed_32 (by decide) ?_
        cases hf
        exact hq _ _ dX9_completed_33
    · rw [if_neg q18] at hf
      cases hf

theorem mX9_completed (l : Launch) (D : va_G) (Ca : Nat → ClassId) (B : Nat) (En : State → Prop) (hE : zEk B En) (σ : zS) (N : Nat) (x0 : Nat) (x1 : Int32) (X : zS × Int32) (hf : fX9_completed σ x0 x1 = some X) : zMi l D Ca B En yX9_completed cX9_completed 3 (Option.some Jvm.ClassFile.FieldType.int) 1 20 [.ref x0, .int x1] σ N X.1 X.2 :=
  zMet_i (own := RX9) hE (by decide +kernel) rfl (Nat.le_of_ble_eq_true rfl) (fun p e s m args below meth c C hr hRm => wfX9_completed C hRm σ x0 x1 X.1 X.2 hf (fun pc lv hd => zfin_i C hr hd))
theorem dX9_notedPosition_0 : decode cX9_notedPosition 0 = .ok (.aload_n 0, 1) := by decide +kernel
theorem dX9_notedPosition_1 : decode cX9_notedPosition 1 = .ok (.iload_n 1, 1) := by decide +kernel
theorem dX9_notedPosition_2 : decode cX9_notedPosition 2 = .ok (.invokevirtual 139, 3) := by decide +kernel
theorem dX9_notedPosition_5 : decode cX9_notedPosition 5 = .ok (.aload_n 0, 1) := by decide +kernel
theorem dX9_notedPosition_6 : decode cX9_notedPosition 6 = .ok (.getfield 50, 3) := by decide +kernel
theorem dX9_notedPosition_9 : decode cX9_notedPosition 9 = .ok (.getfield 258, 3) := by decide +kernel
theorem dX9_notedPosition_12 : decode cX9_notedPosition 12 = .ok (.invokevirtual 231, 3) := by decide +kernel
theorem dX9_notedPosition_15 : decode cX9_notedPosition 15 = .ok (.ifCond .eq 18, 3) := by decide +kernel
theorem dX9_notedPosition_18 : decode cX9_notedPosition 18 = .ok (.aload_n 0, 1) := by decide +kernel
theorem dX9_notedPosition_19 : decode cX9_notedPosition 19 = .ok (.getfield 50, 3) := by decide +kernel
theorem dX9_notedPosition_22 : decode cX9_notedPosition 22 = .ok (.getfield 258, 3) := by decide +kernel
theorem dX9_notedPosition_25 : decode cX9_notedPosition 25 = .ok (.getfield 267, 3) := by decide +kernel
theorem dX9_notedPosition_28 : decode cX9_notedPosition 28 = .ok (.iload_n 1, 1) := by decide +kernel
theorem dX9_notedPosition_29 : decode cX9_notedPosition 29 = .ok (.iaload, 1) := by decide +kernel
theorem dX9_notedPosition_30 : decode cX9_notedPosition 30 = .ok (.goto 4, 3) := by decide +kernel
theorem dX9_notedPosition_33 : decode cX9_notedPosition 33 = .ok (.iconst 0, 1) := by decide +kernel
theorem dX9_notedPosition_34 : decode cX9_notedPosition 34 = .ok (.ireturn, 1) := by decide +kernel
theorem hyX9_notedPosition : yX9_notedPosition.cls ≠ "java/lang/invoke/MethodHandle" ∧ yX9_notedPosition.cls ≠ "java/lang/invoke/VarHandle" ∧ (parseMethodDescriptor yX9_notedPosition.desc).map (fun d => d.parameters.length) = some 1 := ⟨by decide +kernel, by decide +kernel, by decide +kernel⟩
set_option maxRecDepth 100000 in
set_option maxHeartbeats 4000000 in
theorem wfX9_notedPosition (C : zC p s m args meth c cX9_notedPosition RX9 2 D Ca B En) (hRm : zRm R 1 21 cells slots) (σ : zS) (x0 : Nat) (x1 : Int32) (τ : zS) (r : Int32) (hf : fX9_notedPosition σ x0 x1 = some (τ, r)) (hq : ∀ (pc : Nat) (lv : List (Nat × Value)), decode cX9_notedPosition pc = .ok (.ireturn, 1) → zW p l e R s m args below meth c cells slots Q D Ca B 2 τ N pc lv [.int r]) : zW p l e R s m args below meth c cells slots Q D Ca B 2 σ N 0 [(0, .ref x0), (1, .int x1)] [] := by
  unfold fX9_notedPosition at hf
  refine z_aload_n C dX9_notedPosition_0 rfl 0 rfl ?_
  refine z_iload_n C dX9_notedPosition_1 rfl 1 rfl ?_
  obtain ⟨c1, hc1, hf⟩ := zbind hf
  obtain ⟨kc1, hc1⟩ := zck_ok hc1
  refine z_callVv (As := [.int x1]) (F0 := 1) (L0 := 21) C (mX9_needSource l D Ca B En C.2.2.2.2.2.2.2.1 σ N x0 x1 _ hc1) hRm kc1 rfl kw_1224 kw_1 kw_1221 kw_1223 kp_32 hyX9_needSource (Nat.le_of_ble_eq_true rfl) (Nat.le_of_ble_eq_true rfl) rfl rfl (Nat.le_of_ble_eq_true rfl) dX9_notedPosition_2 ?_
  refine z_aload_n C dX9_notedPosition_5 rfl 0 rfl ?_
  obtain ⟨v2, hv2, hf⟩ := zbind hf
  refine gf_RX9_50 C hv2 dX9_notedPosition_6 ?_
  obtain ⟨v3, hv3, hf⟩ := zbind hf
  refine gf_RX9_258 C hv3 dX9_notedPosition_9 ?_
  obtain ⟨c4, hc4, hf⟩ := zbind hf
  obtain ⟨kc4, hc4⟩ := zck_ok hc4
  refine z_callVi (As := []) (F0 := 1) (L0 := 21) C (mX0_exists l D Ca B En C.2.2.2.2.2.2.2.1 c1 N v3  _ hc4) hRm kc4 rfl kw_316 kw_10 kw_550 kw_314 kw_315 hyX0_exists (Nat.le_of_ble_eq_true rfl) (Nat.le_of_ble_eq_true rfl) rfl rfl (Nat.le_of_ble_eq_true rfl) dX9_notedPosition_12 ?_
  refine z_if_eq C 33 dX9_notedPosition_15 (by decide) (fun q9 => ?_) (fun q9 => ?_)
  · rw [if_pos q9] at hf
    refine z_iconst C (zi 0) dX9_notedPosition_33 (by decide) ?_
    cases hf
    exact hq _ _ dX9_notedPosition_34
  · rw [if_neg q9] at hf
    refine z_aload_n C dX9_notedPosition_18 rfl 0 rfl ?_
    obtain ⟨v5, hv5, hf⟩ := zbind hf
    refine gf_RX9_50 C hv5 dX9_notedPosition_19 ?_
    obtain ⟨v6, hv6, hf⟩ := zbind hf
    refine gf_RX9_258 C hv6 dX9_notedPosition_22 ?_
    obtain ⟨v7, hv7, hf⟩ := zbind hf
    refine gf_RX9_267 C hv7 dX9_notedPosition_25 ?_
    refine z_iload_n C dX9_notedPosition_28 rfl 1 rfl ?_
    obtain ⟨v8, hv8, hf⟩ := zbind hf
    refine z_aI C hv8 dX9_notedPosition_29 ?_
    refine z_goto C 34 dX9_notedPosition_30 (by decide) ?_
    cases hf
    exact hq _ _ dX9_notedPosition_34

theorem mX9_notedPosition (l : Launch) (D : va_G) (Ca : Nat → ClassId) (B : Nat) (En : State → Prop) (hE : zEk B En) (σ : zS) (N : Nat) (x0 : Nat) (x1 : Int32) (X : zS × Int32) (hf : fX9_notedPosition σ x0 x1 = some X) : zMi l D Ca B En yX9_notedPosition cX9_notedPosition 2 (Option.some Jvm.ClassFile.FieldType.int) 1 21 [.ref x0, .int x1] σ N X.1 X.2 :=
  zMet_i (own := RX9) hE (by decide +kernel) rfl (Nat.le_of_ble_eq_true rfl) (fun p e s m args below meth c C hr hRm => wfX9_notedPosition C hRm σ x0 x1 X.1 X.2 hf (fun pc lv hd => zfin_i C hr hd))
theorem dX9_notedSum_0 : decode cX9_notedSum 0 = .ok (.iload_n 1, 1) := by decide +kernel
theorem dX9_notedSum_1 : decode cX9_notedSum 1 = .ok (.invokestatic 169, 3) := by decide +kernel
theorem dX9_notedSum_4 : decode cX9_notedSum 4 = .ok (.aload_n 0, 1) := by decide +kernel
theorem dX9_notedSum_5 : decode cX9_notedSum 5 = .ok (.getfield 50, 3) := by decide +kernel
theorem dX9_notedSum_8 : decode cX9_notedSum 8 = .ok (.getfield 258, 3) := by decide +kernel
theorem dX9_notedSum_11 : decode cX9_notedSum 11 = .ok (.invokevirtual 231, 3) := by decide +kernel
theorem dX9_notedSum_14 : decode cX9_notedSum 14 = .ok (.ifCond .eq 18, 3) := by decide +kernel
theorem dX9_notedSum_17 : decode cX9_notedSum 17 = .ok (.aload_n 0, 1) := by decide +kernel
theorem dX9_notedSum_18 : decode cX9_notedSum 18 = .ok (.getfield 50, 3) := by decide +kernel
theorem dX9_notedSum_21 : decode cX9_notedSum 21 = .ok (.getfield 258, 3) := by decide +kernel
theorem dX9_notedSum_24 : decode cX9_notedSum 24 = .ok (.getfield 268, 3) := by decide +kernel
theorem dX9_notedSum_27 : decode cX9_notedSum 27 = .ok (.iload_n 1, 1) := by decide +kernel
theorem dX9_notedSum_28 : decode cX9_notedSum 28 = .ok (.iaload, 1) := by decide +kernel
theorem dX9_notedSum_29 : decode cX9_notedSum 29 = .ok (.goto 4, 3) := by decide +kernel
theorem dX9_notedSum_32 : decode cX9_notedSum 32 = .ok (.iconst 0, 1) := by decide +kernel
theorem dX9_notedSum_33 : decode cX9_notedSum 33 = .ok (.ireturn, 1) := by decide +kernel
theorem hyX9_notedSum : yX9_notedSum.cls ≠ "java/lang/invoke/MethodHandle" ∧ yX9_notedSum.cls ≠ "java/lang/invoke/VarHandle" ∧ (parseMethodDescriptor yX9_notedSum.desc).map (fun d => d.parameters.length) = some 1 := ⟨by decide +kernel, by decide +kernel, by decide +kernel⟩
set_option maxRecDepth 100000 in
set_option maxHeartbeats 4000000 in
theorem wfX9_notedSum (C : zC p s m args meth c cX9_notedSum RX9 2 D Ca B En) (hRm : zRm R 1 20 cells slots) (σ : zS) (x0 : Nat) (x1 : Int32) (τ : zS) (r : Int32) (hf : fX9_notedSum σ x0 x1 = some (τ, r)) (hq : ∀ (pc : Nat) (lv : List (Nat × Value)), decode cX9_notedSum pc = .ok (.ireturn, 1) → zW p l e R s m args below meth c cells slots Q D Ca B 2 τ N pc lv [.int r]) : zW p l e R s m args below meth c cells slots Q D Ca B 2 σ N 0 [(0, .ref x0), (1, .int x1)] [] := by
  unfold fX9_notedSum at hf
  refine z_iload_n C dX9_notedSum_0 rfl 1 rfl ?_
  obtain ⟨c1, hc1, hf⟩ := zbind hf
  refine z_callSv (As := [.int x1]) (F0 := 1) (L0 := 20) C (mX9_needKey l D Ca B En C.2.2.2.2.2.2.2.1 σ N x1 _ hc1) hRm kw_1288 kw_1 kw_1286 kw_1287 hyX9_needKey (Nat.le_of_ble_eq_true rfl) (Nat.le_of_ble_eq_true rfl) rfl rfl (Nat.le_of_ble_eq_true rfl) dX9_notedSum_1 ?_
  refine z_aload_n C dX9_notedSum_4 rfl 0 rfl ?_
  obtain ⟨v2, hv2, hf⟩ := zbind hf
  refine gf_RX9_50 C hv2 dX9_notedSum_5 ?_
  obtain ⟨v3, hv3, hf⟩ := zbind hf
  refine gf_RX9_258 C hv3 dX9_notedSum_8 ?_
  obtain ⟨c4, hc4, hf⟩ := zbind hf
  obtain ⟨kc4, hc4⟩ := zck_ok hc4
  refine z_callVi (As := []) (F0 := 1) (L0 := 20) C (mX0_exists l D Ca B En C.2.2.2.2.2.2.2.1 c1 N v3  _ hc4) hRm kc4 rfl kw_316 kw_10 kw_550 kw_314 kw_315 hyX0_exists (Nat.le_of_ble_eq_true rfl) (Nat.le_of_ble_eq_true rfl) rfl rfl (Nat.le_of_ble_eq_true rfl) dX9_notedSum_11 ?_
  refine z_if_eq C 32 dX9_notedSum_14 (by decide) (fun q9 => ?_) (fun q9 => ?_)
  · rw [if_pos q9] at hf
    refine z_iconst C (zi 0) dX9_notedSum_32 (by decide) ?_
    cases hf
    exact hq _ _ dX9_notedSum_33
  · rw [if_neg q9] at hf
    refine z_aload_n C dX9_notedSum_17 rfl 0 rfl ?_
    obtain ⟨v5, hv5, hf⟩ := zbind hf
    refine gf_RX9_50 C hv5 dX9_notedSum_18 ?_
    obtain ⟨v6, hv6, hf⟩ := zbind hf
    refine gf_RX9_258 C hv6 dX9_notedSum_21 ?_
    obtain ⟨v7, hv7, hf⟩ := zbind hf
    refine gf_RX9_268 C hv7 dX9_notedSum_24 ?_
    refine z_iload_n C dX9_notedSum_27 rfl 1 rfl ?_
    obtain ⟨v8, hv8, hf⟩ := zbind hf
    refine z_aI C hv8 dX9_notedSum_28 ?_
    refine z_goto C 33 dX9_notedSum_29 (by decide) ?_
    cases hf
    exact hq _ _ dX9_notedSum_33

theorem mX9_notedSum (l : Launch) (D : va_G) (Ca : Nat → ClassId) (B : Nat) (En : State → Prop) (hE : zEk B En) (σ : zS) (N : Nat) (x0 : Nat) (x1 : Int32) (X : zS × Int32) (hf : fX9_notedSum σ x0 x1 = some X) : zMi l D Ca B En yX9_notedSum cX9_notedSum 2 (Option.some Jvm.ClassFile.FieldType.int) 1 20 [.ref x0, .int x1] σ N X.1 X.2 :=
  zMet_i (own := RX9) hE (by decide +kernel) rfl (Nat.le_of_ble_eq_true rfl) (fun p e s m args below meth c C hr hRm => wfX9_notedSum C hRm σ x0 x1 X.1 X.2 hf (fun pc lv hd => zfin_i C hr hd))
theorem dX9_shownOf_0 : decode cX9_shownOf 0 = .ok (.iload_n 1, 1) := by decide +kernel
theorem dX9_shownOf_1 : decode cX9_shownOf 1 = .ok (.invokestatic 169, 3) := by decide +kernel
theorem dX9_shownOf_4 : decode cX9_shownOf 4 = .ok (.bipush 28, 2) := by decide +kernel
theorem dX9_shownOf_6 : decode cX9_shownOf 6 = .ok (.aload_n 0, 1) := by decide +kernel
theorem dX9_shownOf_7 : decode cX9_shownOf 7 = .ok (.getfield 35, 3) := by decide +kernel
theorem dX9_shownOf_10 : decode cX9_shownOf 10 = .ok (.iload_n 1, 1) := by decide +kernel
theorem dX9_shownOf_11 : decode cX9_shownOf 11 = .ok (.invokevirtual 269, 3) := by decide +kernel
theorem dX9_shownOf_14 : decode cX9_shownOf 14 = .ok (.iadd, 1) := by decide +kernel
theorem dX9_shownOf_15 : decode cX9_shownOf 15 = .ok (.istore_n 2, 1) := by decide +kernel
theorem dX9_shownOf_16 : decode cX9_shownOf 16 = .ok (.iconst 0, 1) := by decide +kernel
theorem dX9_shownOf_17 : decode cX9_shownOf 17 = .ok (.istore_n 3, 1) := by decide +kernel
theorem dX9_shownOf_18 : decode cX9_shownOf 18 = .ok (.aload_n 0, 1) := by decide +kernel
theorem dX9_shownOf_19 : decode cX9_shownOf 19 = .ok (.getfield 50, 3) := by decide +kernel
theorem dX9_shownOf_22 : decode cX9_shownOf 22 = .ok (.getfield 199, 3) := by decide +kernel
theorem dX9_shownOf_25 : decode cX9_shownOf 25 = .ok (.iload_n 2, 1) := by decide +kernel
theorem dX9_shownOf_26 : decode cX9_shownOf 26 = .ok (.invokevirtual 272, 3) := by decide +kernel
theorem dX9_shownOf_29 : decode cX9_shownOf 29 = .ok (.istore 4, 2) := by decide +kernel
theorem dX9_shownOf_31 : decode cX9_shownOf 31 = .ok (.aload_n 0, 1) := by decide +kernel
theorem dX9_shownOf_32 : decode cX9_shownOf 32 = .ok (.getfield 50, 3) := by decide +kernel
theorem dX9_shownOf_35 : decode cX9_shownOf 35 = .ok (.getfield 199, 3) := by decide +kernel
theorem dX9_shownOf_38 : decode cX9_shownOf 38 = .ok (.iload_n 2, 1) := by decide +kernel
theorem dX9_shownOf_39 : decode cX9_shownOf 39 = .ok (.invokevirtual 203, 3) := by decide +kernel
theorem dX9_shownOf_42 : decode cX9_shownOf 42 = .ok (.istore 5, 2) := by decide +kernel
theorem dX9_shownOf_44 : decode cX9_shownOf 44 = .ok (.iload 5, 2) := by decide +kernel
theorem dX9_shownOf_46 : decode cX9_shownOf 46 = .ok (.ifCond .le 39, 3) := by decide +kernel
theorem dX9_shownOf_49 : decode cX9_shownOf 49 = .ok (.aload_n 0, 1) := by decide +kernel
theorem dX9_shownOf_50 : decode cX9_shownOf 50 = .ok (.getfield 35, 3) := by decide +kernel
theorem dX9_shownOf_53 : decode cX9_shownOf 53 = .ok (.iload 4, 2) := by decide +kernel
theorem dX9_shownOf_55 : decode cX9_shownOf 55 = .ok (.invokevirtual 162, 3) := by decide +kernel
theorem dX9_shownOf_58 : decode cX9_shownOf 58 = .ok (.iload_n 1, 1) := by decide +kernel
theorem dX9_shownOf_59 : decode cX9_shownOf 59 = .ok (.if_icmp .ne 6, 3) := by decide +kernel
theorem dX9_shownOf_62 : decode cX9_shownOf 62 = .ok (.iinc 3 1, 3) := by decide +kernel
theorem dX9_shownOf_65 : decode cX9_shownOf 65 = .ok (.aload_n 0, 1) := by decide +kernel
theorem dX9_shownOf_66 : decode cX9_shownOf 66 = .ok (.getfield 50, 3) := by decide +kernel
theorem dX9_shownOf_69 : decode cX9_shownOf 69 = .ok (.getfield 199, 3) := by decide +kernel
theorem dX9_shownOf_72 : decode cX9_shownOf 72 = .ok (.iload 4, 2) := by decide +kernel
theorem dX9_shownOf_74 : decode cX9_shownOf 74 = .ok (.invokevirtual 275, 3) := by decide +kernel
theorem dX9_shownOf_77 : decode cX9_shownOf 77 = .ok (.istore 4, 2) := by decide +kernel
theorem dX9_shownOf_79 : decode cX9_shownOf 79 = .ok (.iinc 5 (-1), 3) := by decide +kernel
theorem dX9_shownOf_82 : decode cX9_shownOf 82 = .ok (.goto (-38), 3) := by decide +kernel
theorem dX9_shownOf_85 : decode cX9_shownOf 85 = .ok (.iload_n 3, 1) := by decide +kernel
theorem dX9_shownOf_86 : decode cX9_shownOf 86 = .ok (.ireturn, 1) := by decide +kernel
theorem hyX9_shownOf : yX9_shownOf.cls ≠ "java/lang/invoke/MethodHandle" ∧ yX9_shownOf.cls ≠ "java/lang/invoke/VarHandle" ∧ (parseMethodDescriptor yX9_shownOf.desc).map (fun d => d.parameters.length) = some 1 := ⟨by decide +kernel, by decide +kernel, by decide +kernel⟩
set_option maxRecDepth 100000 in
set_option maxHeartbeats 4000000 in
theorem wjX9_shownOf_65_L44 (C : zC p s m args meth c cX9_shownOf RX9 6 D Ca B En) (hRm : zRm R 2 41 cells slots) (σ : zS) (x0 : Nat) (x1 : Int32) (x3 : Int32) (x4 : Int32) (x5 : Int32)  (y : (zS × Int32 × Int32 × Int32) ⊕ (zS × Int32)) (hf : jX9_shownOf_65_L44 σ x0 x1 x3 x4 x5  = some y) (hk : (∀ z : (zS × Int32 × Int32 × Int32), y = .inl z → zW p l e R s m args below meth c cells slots Q D Ca B 6 z.1 N 44 [(0, .ref x0), (1, .int x1), (3, .int z.2.1), (4, .int z.2.2.1), (5, .int z.2.2.2)] []) ∧ (∀ z : (zS × Int32), y = .inr z → zW p l e R s m args below meth c cells slots Q D Ca B 6 z.1 N 85 [(3, .int z.2)] [])) : zW p l e R s m args below meth c cells slots Q D Ca B 6 σ N 65 [(0, .ref x0), (1, .int x1), (3, .int x3), (4, .int x4), (5, .int x5)] [] := by
  unfold jX9_shownOf_65_L44 at hf
  refine z_aload_n C dX9_shownOf_65 rfl 0 rfl ?_
  obtain ⟨v12, hv12, hf⟩ := zbind hf
  refine gf_RX9_50 C hv12 dX9_shownOf_66 ?_
  obtain ⟨v13, hv13, hf⟩ := zbind hf
  refine gf_RX9_199 C hv13 dX9_shownOf_69 ?_
  refine z_iload C dX9_shownOf_72 3 rfl ?_
  obtain ⟨c14, hc14, hf⟩ := zbind hf
  obtain ⟨kc14, hc14⟩ := zck_ok hc14
  refine z_callVi (As := [.int x4]) (F0 := 2) (L0 := 41) C (mX3_behind l D Ca B En C.2.2.2.2.2.2.2.1 σ N v13 x4 _ hc14) hRm kc14 rfl kw_348 kw_9 kw_1301 kw_346 kw_347 hyX3_behind (Nat.le_of_ble_eq_true rfl) (Nat.le_of_ble_eq_true rfl) rfl rfl (Nat.le_of_ble_eq_true rfl) dX9_shownOf_74 ?_
  refine z_istore (lv2 := [(4, .int c14.2), (0, .ref x0), (1, .int x1), (3, .int x3), (5, .int x5)]) C dX9_shownOf_77 (by decide) rfl ?_
  refine z_iinc (lv2 := [(5, .int (x5 + (zi (-1)))), (4, .int c14.2), (0, .ref x0), (1, .int x1), (3, .int x3)]) C (x5 + (zi (-1))) dX9_shownOf_79 4 rfl rfl (by decide) rfl ?_
  refine z_goto C 44 dX9_shownOf_82 (by decide) ?_
  cases hf
  refine z_sub [2, 3, 4, 1, 0] rfl ?_
  exact hk.1 _ rfl

set_option maxRecDepth 100000 in
set_option maxHeartbeats 4000000 in
theorem wsX9_shownOf_44b (C : zC p s m args meth c cX9_shownOf RX9 6 D Ca B En) (hRm : zRm R 2 41 cells slots) (x0 : Nat) (x1 : Int32) (σ : zS) (u3 : Int32) (u4 : Int32) (u5 : Int32) (y : (zS × Int32 × Int32 × Int32) ⊕ (zS × Int32)) (hf : sX9_shownOf_44b x0 x1 σ u3 u4 u5 = some y) (hk : (∀ z : (zS × Int32 × Int32 × Int32), y = .inl z → zW p l e R s m args below meth c cells slots Q D Ca B 6 z.1 N 44 [(0, .ref x0), (1, .int x1), (3, .int z.2.1), (4, .int z.2.2.1), (5, .int z.2.2.2)] []) ∧ (∀ z : (zS × Int32), y = .inr z → zW p l e R s m args below meth c cells slots Q D Ca B 6 z.1 N 85 [(3, .int z.2)] [])) : zW p l e R s m args below meth c cells slots Q D Ca B 6 σ N 44 [(0, .ref x0), (1, .int x1), (3, .int u3), (4, .int u4), (5, .int u5)] [] := by
  unfold sX9_shownOf_44b at hf
  refine z_iload C dX9_shownOf_44 4 rfl ?_
  refine z_if_le C 85 dX9_shownOf_46 (by decide) (fun q16 => ?_) (fun q16 => ?_)
  · rw [if_pos q16] at hf
    cases hf
    refine z_sub [2] rfl ?_
    exact hk.2 _ rfl
  · rw [if_neg q16] at hf
    refine z_aload_n C dX9_shownOf_49 rfl 0 rfl ?_
    obtain ⟨v10, hv10, hf⟩ := zbind hf
    refine gf_RX9_35 C hv10 dX9_shownOf_50 ?_
    refine z_iload C dX9_shownOf_53 3 rfl ?_
    obtain ⟨c11, hc11, hf⟩ := zbind hf
    obtain ⟨kc11, hc11⟩ := zck_ok hc11
    refine z_callVi (As := [.int u4]) (F0 := 2) (L0 := 41) C (mX7_keyOf l D Ca B En C.2.2.2.2.2.2.2.1 σ N v10 u4 _ hc11) hRm kc11 rfl kw_638 kw_5 kw_1277 kw_636 kw_637 hyX7_keyOf (Nat.le_of_ble_eq_true rfl) (Nat.le_of_ble_eq_true rfl) rfl rfl (Nat.le_of_ble_eq_true rfl) dX9_shownOf_55 ?_
    refine z_iload_n C dX9_shownOf_58 rfl 1 rfl ?_
    refine z_icmp_ne C 65 dX9_shownOf_59 (by decide) (fun q15 => ?_) (fun q15 => ?_)
    · rw [if_neg q15] at hf
      refine z_sub [0, 1, 2, 3, 4] rfl ?_
      exact wjX9_shownOf_65_L44 C hRm _ _ _ _ _ _  _ hf hk
    · rw [if_pos q15] at hf
      refine z_iinc (lv2 := [(3, .int (u3 + (zi 1))), (0, .ref x0), (1, .int x1), (4, .int u4), (5, .int u5)]) C (u3 + (zi 1)) dX9_shownOf_62 2 rfl rfl (by decide) rfl ?_
      refine z_sub [1, 2, 0, 3, 4] rfl ?_
      exact wjX9_shownOf_65_L44 C hRm _ _ _ _ _ _  _ hf hk

theorem wsX9_shownOf_44 (C : zC p s m args meth c cX9_shownOf RX9 6 D Ca B En) (hRm : zRm R 2 41 cells slots) (x0 : Nat) (x1 : Int32) (n : Nat) (z : (zS × Int32 × Int32 × Int32)) (x : (zS × Int32)) (hf : zloop (sX9_shownOf_44 x0 x1) n z = some x) (hk : (∀ o : (zS × Int32), x = o → zW p l e R s m args below meth c cells slots Q D Ca B 6 o.1 N 85 [(3, .int o.2)] [])) : zW p l e R s m args below meth c cells slots Q D Ca B 6 z.1 N 44 [(0, .ref x0), (1, .int x1), (3, .int z.2.1), (4, .int z.2.2.1), (5, .int z.2.2.2)] [] := by
  refine zloop_W (P := fun z : (zS × Int32 × Int32 × Int32) => zW p l e R s m args below meth c cells slots Q D Ca B 6 z.1 N 44 [(0, .ref x0), (1, .int x1), (3, .int z.2.1), (4, .int z.2.2.1), (5, .int z.2.2.2)] []) (K := fun x : (zS × Int32) => (∀ o : (zS × Int32), x = o → zW p l e R s m args below meth c cells slots Q D Ca B 6 o.1 N 85 [(3, .int o.2)] [])) ?_ n z x hf hk
  intro z y hy h1 h2
  refine wsX9_shownOf_44b C hRm x0 x1 z.1 z.2.1 z.2.2.1 z.2.2.2 y hy ⟨fun z2 e => h1 z2 e, fun o e => (h2 _ e) o rfl⟩
set_option maxRecDepth 100000 in
set_option maxHeartbeats 4000000 in
theorem wfX9_shownOf (C : zC p s m args meth c cX9_shownOf RX9 6 D Ca B En) (hRm : zRm R 2 41 cells slots) (σ : zS) (x0 : Nat) (x1 : Int32) (τ : zS) (r : Int32) (hf : fX9_shownOf σ x0 x1 = some (τ, r)) (hq : ∀ (pc : Nat) (lv : List (Nat × Value)), decode cX9_shownOf pc = .ok (.ireturn, 1) → zW p l e R s m args below meth c cells slots Q D Ca B 6 τ N pc lv [.int r]) : zW p l e R s m args below meth c cells slots Q D Ca B 6 σ N 0 [(0, .ref x0), (1, .int x1)] [] := by
  unfold fX9_shownOf at hf
  refine z_iload_n C dX9_shownOf_0 rfl 1 rfl ?_
  obtain ⟨c1, hc1, hf⟩ := zbind hf
  refine z_callSv (As := [.int x1]) (F0 := 2) (L0 := 41) C (mX9_needKey l D Ca B En C.2.2.2.2.2.2.2.1 σ N x1 _ hc1) hRm kw_1288 kw_1 kw_1286 kw_1287 hyX9_needKey (Nat.le_of_ble_eq_true rfl) (Nat.le_of_ble_eq_true rfl) rfl rfl (Nat.le_of_ble_eq_true rfl) dX9_shownOf_1 ?_
  refine z_bipush C (zi 28) dX9_shownOf_4 (by decide) ?_
  refine z_aload_n C dX9_shownOf_6 rfl 0 rfl ?_
  obtain ⟨v2, hv2, hf⟩ := zbind hf
  refine gf_RX9_35 C hv2 dX9_shownOf_7 ?_
  refine z_iload_n C dX9_shownOf_10 rfl 1 rfl ?_
  obtain ⟨c3, hc3, hf⟩ := zbind hf
  obtain ⟨kc3, hc3⟩ := zck_ok hc3
  refine z_callVi (As := [.int x1]) (F0 := 2) (L0 := 41) C (mX7_sinkOf l D Ca B En C.2.2.2.2.2.2.2.1 c1 N v2 x1 _ hc3) hRm kc3 rfl kw_683 kw_5 kw_1299 kw_681 kw_682 hyX7_sinkOf (Nat.le_of_ble_eq_true rfl) (Nat.le_of_ble_eq_true rfl) rfl rfl (Nat.le_of_ble_eq_true rfl) dX9_shownOf_11 ?_
  refine z_iadd C dX9_shownOf_14 ?_
  refine z_istore_n (lv2 := [(2, .int (((zi 28)) + c3.2)), (0, .ref x0), (1, .int x1)]) C dX9_shownOf_15 rfl (by decide) rfl ?_
  refine z_iconst C (zi 0) dX9_shownOf_16 (by decide) ?_
  refine z_istore_n (lv2 := [(3, .int ((zi 0))), (2, .int (((zi 28)) + c3.2)), (0, .ref x0), (1, .int x1)]) C dX9_shownOf_17 rfl (by decide) rfl ?_
  refine z_aload_n C dX9_shownOf_18 rfl 2 rfl ?_
  obtain ⟨v4, hv4, hf⟩ := zbind hf
  refine gf_RX9_50 C hv4 dX9_shownOf_19 ?_
  obtain ⟨v5, hv5, hf⟩ := zbind hf
  refine gf_RX9_199 C hv5 dX9_shownOf_22 ?_
  refine z_iload_n C dX9_shownOf_25 rfl 1 rfl ?_
  obtain ⟨c6, hc6, hf⟩ := zbind hf
  obtain ⟨kc6, hc6⟩ := zck_ok hc6
  refine z_callVi (As := [.int (((zi 28)) + c3.2)]) (F0 := 2) (L0 := 41) C (mX3_firstOf l D Ca B En C.2.2.2.2.2.2.2.1 c3.1 N v5 (((zi 28)) + c3.2) _ hc6) hRm kc6 rfl kw_336 kw_9 kw_1300 kw_334 kw_335 hyX3_firstOf (Nat.le_of_ble_eq_true rfl) (Nat.le_of_ble_eq_true rfl) rfl rfl (Nat.le_of_ble_eq_true rfl) dX9_shownOf_26 ?_
  refine z_istore (lv2 := [(4, .int c6.2), (3, .int ((zi 0))), (2, .int (((zi 28)) + c3.2)), (0, .ref x0), (1, .int x1)]) C dX9_shownOf_29 (by decide) rfl ?_
  refine z_aload_n C dX9_shownOf_31 rfl 3 rfl ?_
  obtain ⟨v7, hv7, hf⟩ := zbind hf
  refine gf_RX9_50 C hv7 dX9_shownOf_32 ?_
  obtain ⟨v8, hv8, hf⟩ := zbind hf
  refine gf_RX9_199 C hv8 dX9_shownOf_35 ?_
  refine z_iload_n C dX9_shownOf_38 rfl 2 rfl ?_
  obtain ⟨c9, hc9, hf⟩ := zbind hf
  obtain ⟨kc9, hc9⟩ := zck_ok hc9
  refine z_callVi (As := [.int (((zi 28)) + c3.2)]) (F0 := 2) (L0 := 41) C (mX3_sizeOf l D Ca B En C.2.2.2.2.2.2.2.1 c6.1 N v8 (((zi 28)) + c3.2) _ hc9) hRm kc9 rfl kw_340 kw_9 kw_1251 kw_338 kw_339 hyX3_sizeOf (Nat.le_of_ble_eq_true rfl) (Nat.le_of_ble_eq_true rfl) rfl rfl (Nat.le_of_ble_eq_true rfl) dX9_shownOf_39 ?_
  refine z_istore (lv2 := [(5, .int c9.2), (4, .int c6.2), (3, .int ((zi 0))), (2, .int (((zi 28)) + c3.2)), (0, .ref x0), (1, .int x1)]) C dX9_shownOf_42 (by decide) rfl ?_
  obtain ⟨o17, ho17, hf⟩ := zbind hf
  refine z_sub [4, 5, 2, 1, 0] rfl ?_
  refine wsX9_shownOf_44 C hRm _ _ zfuel (c9.1, (zi 0), c6.2, c9.2) o17 ho17 ?_
  intro z9 e9
  subst e9
  refine z_iload_n C dX9_shownOf_85 rfl 0 rfl ?_
  cases hf
  exact hq _ _ dX9_shownOf_86

theorem mX9_shownOf (l : Launch) (D : va_G) (Ca : Nat → ClassId) (B : Nat) (En : State → Prop) (hE : zEk B En) (σ : zS) (N : Nat) (x0 : Nat) (x1 : Int32) (X : zS × Int32) (hf : fX9_shownOf σ x0 x1 = some X) : zMi l D Ca B En yX9_shownOf cX9_shownOf 6 (Option.some Jvm.ClassFile.FieldType.int) 2 41 [.ref x0, .int x1] σ N X.1 X.2 :=
  zMet_i (own := RX9) hE (by decide +kernel) rfl (Nat.le_of_ble_eq_true rfl) (fun p e s m args below meth c C hr hRm => wfX9_shownOf C hRm σ x0 x1 X.1 X.2 hf (fun pc lv hd => zfin_i C hr hd))
theorem dX9_expected_0 : decode cX9_expected 0 = .ok (.iload_n 1, 1) := by decide +kernel
theorem dX9_expected_1 : decode cX9_expected 1 = .ok (.invokestatic 169, 3) := by decide +kernel
theorem dX9_expected_4 : decode cX9_expected 4 = .ok (.iload_n 2, 1) := by decide +kernel
theorem dX9_expected_5 : decode cX9_expected 5 = .ok (.iconst 1, 1) := by decide +kernel
theorem dX9_expected_6 : decode cX9_expected 6 = .ok (.if_icmp .ge 11, 3) := by decide +kernel
theorem dX9_expected_9 : decode cX9_expected 9 = .ok (.new 224, 3) := by decide +kernel
theorem dX9_expected_12 : decode cX9_expected 12 = .ok (.dup, 1) := by decide +kernel
theorem dX9_expected_13 : decode cX9_expected 13 = .ok (.invokespecial 226, 3) := by decide +kernel
theorem dX9_expected_16 : decode cX9_expected 16 = .ok (.athrow, 1) := by decide +kernel
theorem dX9_expected_17 : decode cX9_expected 17 = .ok (.aload_n 0, 1) := by decide +kernel
theorem dX9_expected_18 : decode cX9_expected 18 = .ok (.getfield 35, 3) := by decide +kernel
theorem dX9_expected_21 : decode cX9_expected 21 = .ok (.iload_n 1, 1) := by decide +kernel
theorem dX9_expected_22 : decode cX9_expected 22 = .ok (.iload_n 2, 1) := by decide +kernel
theorem dX9_expected_23 : decode cX9_expected 23 = .ok (.invokevirtual 278, 3) := by decide +kernel
theorem dX9_expected_26 : decode cX9_expected 26 = .ok (.ireturn, 1) := by decide +kernel
theorem hyX9_expected : yX9_expected.cls ≠ "java/lang/invoke/MethodHandle" ∧ yX9_expected.cls ≠ "java/lang/invoke/VarHandle" ∧ (parseMethodDescriptor yX9_expected.desc).map (fun d => d.parameters.length) = some 2 := ⟨by decide +kernel, by decide +kernel, by decide +kernel⟩
set_option maxRecDepth 100000 in
set_option maxHeartbeats 4000000 in
theorem wfX9_expected (C : zC p s m args meth c cX9_expected RX9 3 D Ca B En) (hRm : zRm R 2 47 cells slots) (σ : zS) (x0 : Nat) (x1 : Int32) (x2 : Int32) (τ : zS) (r : Int32) (hf : fX9_expected σ x0 x1 x2 = some (τ, r)) (hq : ∀ (pc : Nat) (lv : List (Nat × Value)), decode cX9_expected pc = .ok (.ireturn, 1) → zW p l e R s m args below meth c cells slots Q D Ca B 3 τ N pc lv [.int r]) : zW p l e R s m args below meth c cells slots Q D Ca B 3 σ N 0 [(0, .ref x0), (1, .int x1), (2, .int x2)] [] := by
  unfold fX9_expected at hf
  refine z_iload_n C dX9_expected_0 rfl 1 rfl ?_
  obtain ⟨c1, hc1, hf⟩ := zbind hf
  refine z_callSv (As := [.int x1]) (F0 := 2) (L0 := 47) C (mX9_needKey l D Ca B En C.2.2.2.2.2.2.2.1 σ N x1 _ hc1) hRm kw_1288 kw_1 kw_1286 kw_1287 hyX9_needKey (Nat.le_of_ble_eq_true rfl) (Nat.le_of_ble_eq_true rfl) rfl rfl (Nat.le_of_ble_eq_true rfl) dX9_expected_1 ?_
  refine z_iload_n C dX9_expected_4 rfl 2 rfl ?_
  refine z_iconst C (zi 1) dX9_expected_5 (by decide) ?_
  refine z_icmp_ge C 17 dX9_expected_6 (by decide) (fun q4 => ?_) (fun q4 => ?_)
  · rw [if_pos q4] at hf
    refine z_aload_n C dX9_expected_17 rfl 0 rfl ?_
    obtain ⟨v2, hv2, hf⟩ := zbind hf
    refine gf_RX9_35 C hv2 dX9_expected_18 ?_
    refine z_iload_n C dX9_expected_21 rfl 1 rfl ?_
    refine z_iload_n C dX9_expected_22 rfl 2 rfl ?_
    obtain ⟨c3, hc3, hf⟩ := zbind hf
    obtain ⟨kc3, hc3⟩ := zck_ok hc3
    refine z_callVi (As := [.int x1, .int x2]) (F0 := 2) (L0 := 47) C (mX7_resultBehind l D Ca B En C.2.2.2.2.2.2.2.1 c1 N v2 x1 x2 _ hc3) hRm kc3 rfl kw_1292 kw_5 kw_1289 kw_1290 kw_1291 hyX7_resultBehind (Nat.le_of_ble_eq_true rfl) (Nat.le_of_ble_eq_true rfl) rfl rfl (Nat.le_of_ble_eq_true rfl) dX9_expected_23 ?_
    cases hf
    exact hq _ _ dX9_expected_26
  · rw [if_neg q4] at hf
    cases hf

theorem mX9_expected (l : Launch) (D : va_G) (Ca : Nat → ClassId) (B : Nat) (En : State → Prop) (hE : zEk B En) (σ : zS) (N : Nat) (x0 : Nat) (x1 : Int32) (x2 : Int32) (X : zS × Int32) (hf : fX9_expected σ x0 x1 x2 = some X) : zMi l D Ca B En yX9_expected cX9_expected 3 (Option.some Jvm.ClassFile.FieldType.int) 2 47 [.ref x0, .int x1, .int x2] σ N X.1 X.2 :=
  zMet_i (own := RX9) hE (by decide +kernel) rfl (Nat.le_of_ble_eq_true rfl) (fun p e s m args below meth c C hr hRm => wfX9_expected C hRm σ x0 x1 x2 X.1 X.2 hf (fun pc lv hd => zfin_i C hr hd))
theorem dX9_needTicks_0 : decode cX9_needTicks 0 = .ok (.iload_n 0, 1) := by decide +kernel
theorem dX9_needTicks_1 : decode cX9_needTicks 1 = .ok (.iconst 1, 1) := by decide +kernel
theorem dX9_needTicks_2 : decode cX9_needTicks 2 = .ok (.if_icmp .lt 10, 3) := by decide +kernel
theorem dX9_needTicks_5 : decode cX9_needTicks 5 = .ok (.iload_n 0, 1) := by decide +kernel
theorem dX9_needTicks_6 : decode cX9_needTicks 6 = .ok (.sipush 500, 3) := by decide +kernel
theorem dX9_needTicks_9 : decode cX9_needTicks 9 = .ok (.if_icmp .le 11, 3) := by decide +kernel
theorem dX9_needTicks_12 : decode cX9_needTicks 12 = .ok (.new 224, 3) := by decide +kernel
theorem dX9_needTicks_15 : decode cX9_needTicks 15 = .ok (.dup, 1) := by decide +kernel
theorem dX9_needTicks_16 : decode cX9_needTicks 16 = .ok (.invokespecial 226, 3) := by decide +kernel
theorem dX9_needTicks_19 : decode cX9_needTicks 19 = .ok (.athrow, 1) := by decide +kernel
theorem dX9_needTicks_20 : decode cX9_needTicks 20 = .ok (.return_, 1) := by decide +kernel
theorem hyX9_needTicks : yX9_needTicks.cls ≠ "java/lang/invoke/MethodHandle" ∧ yX9_needTicks.cls ≠ "java/lang/invoke/VarHandle" ∧ (parseMethodDescriptor yX9_needTicks.desc).map (fun d => d.parameters.length) = some 1 := ⟨by decide +kernel, by decide +kernel, by decide +kernel⟩
set_option maxRecDepth 100000 in
set_option maxHeartbeats 4000000 in
theorem wfX9_needTicks (C : zC p s m args meth c cX9_needTicks RX9 1 D Ca B En) (hRm : zRm R 0 0 cells slots) (σ : zS) (x0 : Int32) (τ : zS) (hf : fX9_needTicks σ x0 = some τ) (hq : ∀ (pc : Nat) (lv : List (Nat × Value)), decode cX9_needTicks pc = .ok (.return_, 1) → zW p l e R s m args below meth c cells slots Q D Ca B 1 τ N pc lv []) : zW p l e R s m args below meth c cells slots Q D Ca B 1 σ N 0 [(0, .int x0)] [] := by
  unfold fX9_needTicks at hf
  refine z_iload_n C dX9_needTicks_0 rfl 0 rfl ?_
  refine z_iconst C (zi 1) dX9_needTicks_1 (by decide) ?_
  refine z_icmp_lt C 12 dX9_needTicks_2 (by decide) (fun q2 => ?_) (fun q2 => ?_)
  · rw [if_pos q2] at hf
    cases hf
  · rw [if_neg q2] at hf
    refine z_iload_n C dX9_needTicks_5 rfl 0 rfl ?_
    refine z_sipush C (zi 500) dX9_needTicks_6 (by decide) ?_
    refine z_icmp_le C 20 dX9_needTicks_9 (by decide) (fun q1 => ?_) (fun q1 => ?_)
    · rw [if_pos q1] at hf
      cases hf
      exact hq _ _ dX9_needTicks_20
    · rw [if_neg q1] at hf
      cases hf

theorem mX9_needTicks (l : Launch) (D : va_G) (Ca : Nat → ClassId) (B : Nat) (En : State → Prop) (hE : zEk B En) (σ : zS) (N : Nat) (x0 : Int32) (X : zS) (hf : fX9_needTicks σ x0 = some X) : zMv l D Ca B En yX9_needTicks cX9_needTicks 1 (Option.none : Option Jvm.ClassFile.FieldType) 0 0 [.int x0] σ N X () :=
  zMet_v (own := RX9) hE (by decide +kernel) rfl (Nat.le_of_ble_eq_true rfl) (fun p e s m args below meth c C hr hRm => wfX9_needTicks C hRm σ x0 X hf (fun pc lv hd => zfin_v (r := ()) C hr hd))
theorem dX9_run_0 : decode cX9_run 0 = .ok (.iload_n 1, 1) := by decide +kernel
theorem dX9_run_1 : decode cX9_run 1 = .ok (.invokestatic 296, 3) := by decide +kernel
theorem dX9_run_4 : decode cX9_run 4 = .ok (.aload_n 0, 1) := by decide +kernel
theorem dX9_run_5 : decode cX9_run 5 = .ok (.getfield 63, 3) := by decide +kernel
theorem dX9_run_8 : decode cX9_run 8 = .ok (.aload_n 0, 1) := by decide +kernel
theorem dX9_run_9 : decode cX9_run 9 = .ok (.getfield 50, 3) := by decide +kernel
theorem dX9_run_12 : decode cX9_run 12 = .ok (.invokevirtual 299, 3) := by decide +kernel
theorem dX9_run_15 : decode cX9_run 15 = .ok (.aload_n 0, 1) := by decide +kernel
theorem dX9_run_16 : decode cX9_run 16 = .ok (.getfield 50, 3) := by decide +kernel
theorem dX9_run_19 : decode cX9_run 19 = .ok (.getfield 116, 3) := by decide +kernel
theorem dX9_run_22 : decode cX9_run 22 = .ok (.istore_n 2, 1) := by decide +kernel
theorem dX9_run_23 : decode cX9_run 23 = .ok (.iconst 0, 1) := by decide +kernel
theorem dX9_run_24 : decode cX9_run 24 = .ok (.istore_n 3, 1) := by decide +kernel
theorem dX9_run_25 : decode cX9_run 25 = .ok (.iload_n 3, 1) := by decide +kernel
theorem dX9_run_26 : decode cX9_run 26 = .ok (.iload_n 1, 1) := by decide +kernel
theorem dX9_run_27 : decode cX9_run 27 = .ok (.if_icmp .ge 16, 3) := by decide +kernel
theorem dX9_run_30 : decode cX9_run 30 = .ok (.aload_n 0, 1) := by decide +kernel
theorem dX9_run_31 : decode cX9_run 31 = .ok (.getfield 50, 3) := by decide +kernel
theorem dX9_run_34 : decode cX9_run 34 = .ok (.invokevirtual 303, 3) := by decide +kernel
theorem dX9_run_37 : decode cX9_run 37 = .ok (.iinc 3 1, 3) := by decide +kernel
theorem dX9_run_40 : decode cX9_run 40 = .ok (.goto (-15), 3) := by decide +kernel
theorem dX9_run_43 : decode cX9_run 43 = .ok (.aload_n 0, 1) := by decide +kernel
theorem dX9_run_44 : decode cX9_run 44 = .ok (.getfield 50, 3) := by decide +kernel
theorem dX9_run_47 : decode cX9_run 47 = .ok (.getfield 116, 3) := by decide +kernel
theorem dX9_run_50 : decode cX9_run 50 = .ok (.iload_n 2, 1) := by decide +kernel
theorem dX9_run_51 : decode cX9_run 51 = .ok (.isub, 1) := by decide +kernel
theorem dX9_run_52 : decode cX9_run 52 = .ok (.ireturn, 1) := by decide +kernel
theorem hyX9_run : yX9_run.cls ≠ "java/lang/invoke/MethodHandle" ∧ yX9_run.cls ≠ "java/lang/invoke/VarHandle" ∧ (parseMethodDescriptor yX9_run.desc).map (fun d => d.parameters.length) = some 1 := ⟨by decide +kernel, by decide +kernel, by decide +kernel⟩
set_option maxRecDepth 100000 in
set_option maxHeartbeats 4000000 in
theorem wsX9_run_25b (C : zC p s m args meth c cX9_run RX9 4 D Ca B En) (hRm : zRm R 6 170 cells slots) (x0 : Nat) (x1 : Int32) (x2 : Int32) (σ : zS) (u3 : Int32) (y : (zS × Int32) ⊕ zS) (hf : sX9_run_25b x0 x1 x2 σ u3 = some y) (hk : (∀ z : (zS × Int32), y = .inl z → zW p l e R s m args below meth c cells slots Q D Ca B 4 z.1 N 25 [(0, .ref x0), (1, .int x1), (2, .int x2), (3, .int z.2)] []) ∧ (∀ z : zS, y = .inr z → zW p l e R s m args below meth c cells slots Q D Ca B 4 z N 43 [(0, .ref x0), (2, .int x2)] [])) : zW p l e R s m args below meth c cells slots Q D Ca B 4 σ N 25 [(0, .ref x0), (1, .int x1), (2, .int x2), (3, .int u3)] [] := by
  unfold sX9_run_25b at hf
  refine z_iload_n C dX9_run_25 rfl 3 rfl ?_
  refine z_iload_n C dX9_run_26 rfl 1 rfl ?_
  refine z_icmp_ge C 43 dX9_run_27 (by decide) (fun q9 => ?_) (fun q9 => ?_)
  · rw [if_pos q9] at hf
    cases hf
    refine z_sub [0, 2] rfl ?_
    exact hk.2 _ rfl
  · rw [if_neg q9] at hf
    refine z_aload_n C dX9_run_30 rfl 0 rfl ?_
    obtain ⟨v7, hv7, hf⟩ := zbind hf
    refine gf_RX9_50 C hv7 dX9_run_31 ?_
    obtain ⟨c8, hc8, hf⟩ := zbind hf
    obtain ⟨kc8, hc8⟩ := zck_ok hc8
    refine z_callVv (As := []) (F0 := 6) (L0 := 170) C (mX1_tick l D Ca B En C.2.2.2.2.2.2.2.1 σ N v7  _ hc8) hRm kc8 rfl kw_608 kw_8 kw_605 kw_606 kw_607 hyX1_tick (Nat.le_of_ble_eq_true rfl) (Nat.le_of_ble_eq_true rfl) rfl rfl (Nat.le_of_ble_eq_true rfl) dX9_run_34 ?_
    refine z_iinc (lv2 := [(3, .int (u3 + (zi 1))), (0, .ref x0), (1, .int x1), (2, .int x2)]) C (u3 + (zi 1)) dX9_run_37 3 rfl rfl (by decide) rfl ?_
    refine z_goto C 25 dX9_run_40 (by decide) ?_
    cases hf
    refine z_sub [1, 2, 3, 0] rfl ?_
    exact hk.1 _ rfl

theorem wsX9_run_25 (C : zC p s m args meth c cX9_run RX9 4 D Ca B En) (hRm : zRm R 6 170 cells slots) (x0 : Nat) (x1 : Int32) (x2 : Int32) (n : Nat) (z : (zS × Int32)) (x : zS) (hf : zloop (sX9_run_25 x0 x1 x2) n z = some x) (hk : (∀ o : zS, x = o → zW p l e R s m args below meth c cells slots Q D Ca B 4 o N 43 [(0, .ref x0), (2, .int x2)] [])) : zW p l e R s m args below meth c cells slots Q D Ca B 4 z.1 N 25 [(0, .ref x0), (1, .int x1), (2, .int x2), (3, .int z.2)] [] := by
  refine zloop_W (P := fun z : (zS × Int32) => zW p l e R s m args below meth c cells slots Q D Ca B 4 z.1 N 25 [(0, .ref x0), (1, .int x1), (2, .int x2), (3, .int z.2)] []) (K := fun x : zS => (∀ o : zS, x = o → zW p l e R s m args below meth c cells slots Q D Ca B 4 o N 43 [(0, .ref x0), (2, .int x2)] [])) ?_ n z x hf hk
  intro z y hy h1 h2
  refine wsX9_run_25b C hRm x0 x1 x2 z.1 z.2 y hy ⟨fun z2 e => h1 z2 e, fun o e => (h2 _ e) o rfl⟩
set_option maxRecDepth 100000 in
set_option maxHeartbeats 4000000 in
theorem wfX9_run (C : zC p s m args meth c cX9_run RX9 4 D Ca B En) (hRm : zRm R 6 170 cells slots) (σ : zS) (x0 : Nat) (x1 : Int32) (τ : zS) (r : Int32) (hf : fX9_run σ x0 x1 = some (τ, r)) (hq : ∀ (pc : Nat) (lv : List (Nat × Value)), decode cX9_run pc = .ok (.ireturn, 1) → zW p l e R s m args below meth c cells slots Q D Ca B 4 τ N pc lv [.int r]) : zW p l e R s m args below meth c cells slots Q D Ca B 4 σ N 0 [(0, .ref x0), (1, .int x1)] [] := by
  unfold fX9_run at hf
  refine z_iload_n C dX9_run_0 rfl 1 rfl ?_
  obtain ⟨c1, hc1, hf⟩ := zbind hf
  refine z_callSv (As := [.int x1]) (F0 := 6) (L0 := 170) C (mX9_needTicks l D Ca B En C.2.2.2.2.2.2.2.1 σ N x1 _ hc1) hRm kw_584 kw_1 kw_582 kw_583 hyX9_needTicks (Nat.le_of_ble_eq_true rfl) (Nat.le_of_ble_eq_true rfl) rfl rfl (Nat.le_of_ble_eq_true rfl) dX9_run_1 ?_
  refine z_aload_n C dX9_run_4 rfl 0 rfl ?_
  obtain ⟨v2, hv2, hf⟩ := zbind hf
  refine gf_RX9_63 C hv2 dX9_run_5 ?_
  refine z_aload_n C dX9_run_8 rfl 0 rfl ?_
  obtain ⟨v3, hv3, hf⟩ := zbind hf
  refine gf_RX9_50 C hv3 dX9_run_9 ?_
  obtain ⟨c4, hc4, hf⟩ := zbind hf
  obtain ⟨kc4, hc4⟩ := zck_ok hc4
  refine z_callVv (As := [.ref v3]) (F0 := 6) (L0 := 170) C (mX6_remember l D Ca B En C.2.2.2.2.2.2.2.1 c1 N v2 v3 _ hc4) hRm kc4 rfl kw_588 kw_13 kw_585 kw_586 kw_587 hyX6_remember (Nat.le_of_ble_eq_true rfl) (Nat.le_of_ble_eq_true rfl) rfl rfl (Nat.le_of_ble_eq_true rfl) dX9_run_12 ?_
  refine z_aload_n C dX9_run_15 rfl 0 rfl ?_
  obtain ⟨v5, hv5, hf⟩ := zbind hf
  refine gf_RX9_50 C hv5 dX9_run_16 ?_
  obtain ⟨v6, hv6, hf⟩ := zbind hf
  refine gf_RX9_116 C hv6 dX9_run_19 ?_
  refine z_istore_n (lv2 := [(2, .int v6), (0, .ref x0), (1, .int x1)]) C dX9_run_22 rfl (by decide) rfl ?_
  refine z_iconst C (zi 0) dX9_run_23 (by decide) ?_
  refine z_istore_n (lv2 := [(3, .int ((zi 0))), (2, .int v6), (0, .ref x0), (1, .int x1)]) C dX9_run_24 rfl (by decide) rfl ?_
  obtain ⟨o10, ho10, hf⟩ := zbind hf
  refine z_sub [2, 3, 1, 0] rfl ?_
  refine wsX9_run_25 C hRm _ _ _ zfuel (c4, (zi 0)) o10 ho10 ?_
  intro z9 e9
  subst e9
  refine z_aload_n C dX9_run_43 rfl 0 rfl ?_
  obtain ⟨v11, hv11, hf⟩ := zbind hf
  refine gf_RX9_50 C hv11 dX9_run_44 ?_
  obtain ⟨v12, hv12, hf⟩ := zbind hf
  refine gf_RX9_116 C hv12 dX9_run_47 ?_
  refine z_iload_n C dX9_run_50 rfl 1 rfl ?_
  refine z_isub C dX9_run_51 ?_
  cases hf
  exact hq _ _ dX9_run_52

theorem mX9_run (l : Launch) (D : va_G) (Ca : Nat → ClassId) (B : Nat) (En : State → Prop) (hE : zEk B En) (σ : zS) (N : Nat) (x0 : Nat) (x1 : Int32) (X : zS × Int32) (hf : fX9_run σ x0 x1 = some X) : zMi l D Ca B En yX9_run cX9_run 4 (Option.some Jvm.ClassFile.FieldType.int) 6 170 [.ref x0, .int x1] σ N X.1 X.2 :=
  zMet_i (own := RX9) hE (by decide +kernel) rfl (Nat.le_of_ble_eq_true rfl) (fun p e s m args below meth c C hr hRm => wfX9_run C hRm σ x0 x1 X.1 X.2 hf (fun pc lv hd => zfin_i C hr hd))
theorem dX9_begin_0 : decode cX9_begin 0 = .ok (.aload_n 0, 1) := by decide +kernel
theorem dX9_begin_1 : decode cX9_begin 1 = .ok (.getfield 50, 3) := by decide +kernel
theorem dX9_begin_4 : decode cX9_begin 4 = .ok (.getfield 227, 3) := by decide +kernel
theorem dX9_begin_7 : decode cX9_begin 7 = .ok (.invokevirtual 231, 3) := by decide +kernel
theorem dX9_begin_10 : decode cX9_begin 10 = .ok (.ifCond .eq 11, 3) := by decide +kernel
theorem dX9_begin_13 : decode cX9_begin 13 = .ok (.new 306, 3) := by decide +kernel
theorem dX9_begin_16 : decode cX9_begin 16 = .ok (.dup, 1) := by decide +kernel
theorem dX9_begin_17 : decode cX9_begin 17 = .ok (.invokespecial 308, 3) := by decide +kernel
theorem dX9_begin_20 : decode cX9_begin 20 = .ok (.athrow, 1) := by decide +kernel
theorem dX9_begin_21 : decode cX9_begin 21 = .ok (.aload_n 0, 1) := by decide +kernel
theorem dX9_begin_22 : decode cX9_begin 22 = .ok (.getfield 63, 3) := by decide +kernel
theorem dX9_begin_25 : decode cX9_begin 25 = .ok (.aload_n 0, 1) := by decide +kernel
theorem dX9_begin_26 : decode cX9_begin 26 = .ok (.getfield 50, 3) := by decide +kernel
theorem dX9_begin_29 : decode cX9_begin 29 = .ok (.invokevirtual 299, 3) := by decide +kernel
theorem dX9_begin_32 : decode cX9_begin 32 = .ok (.aload_n 0, 1) := by decide +kernel
theorem dX9_begin_33 : decode cX9_begin 33 = .ok (.getfield 50, 3) := by decide +kernel
theorem dX9_begin_36 : decode cX9_begin 36 = .ok (.iload_n 1, 1) := by decide +kernel
theorem dX9_begin_37 : decode cX9_begin 37 = .ok (.invokevirtual 309, 3) := by decide +kernel
theorem dX9_begin_40 : decode cX9_begin 40 = .ok (.aload_n 0, 1) := by decide +kernel
theorem dX9_begin_41 : decode cX9_begin 41 = .ok (.getfield 50, 3) := by decide +kernel
theorem dX9_begin_44 : decode cX9_begin 44 = .ok (.getfield 227, 3) := by decide +kernel
theorem dX9_begin_47 : decode cX9_begin 47 = .ok (.getfield 237, 3) := by decide +kernel
theorem dX9_begin_50 : decode cX9_begin 50 = .ok (.ireturn, 1) := by decide +kernel
theorem hyX9_begin : yX9_begin.cls ≠ "java/lang/invoke/MethodHandle" ∧ yX9_begin.cls ≠ "java/lang/invoke/VarHandle" ∧ (parseMethodDescriptor yX9_begin.desc).map (fun d => d.parameters.length) = some 1 := ⟨by decide +kernel, by decide +kernel, by decide +kernel⟩
set_option maxRecDepth 100000 in
set_option maxHeartbeats 4000000 in
theorem wfX9_begin (C : zC p s m args meth c cX9_begin RX9 2 D Ca B En) (hRm : zRm R 6 170 cells slots) (σ : zS) (x0 : Nat) (x1 : Int32) (τ : zS) (r : Int32) (hf : fX9_begin σ x0 x1 = some (τ, r)) (hq : ∀ (pc : Nat) (lv : List (Nat × Value)), decode cX9_begin pc = .ok (.ireturn, 1) → zW p l e R s m args below meth c cells slots Q D Ca B 2 τ N pc lv [.int r]) : zW p l e R s m args below meth c cells slots Q D Ca B 2 σ N 0 [(0, .ref x0), (1, .int x1)] [] := by
  unfold fX9_begin at hf
  refine z_aload_n C dX9_begin_0 rfl 0 rfl ?_
  obtain ⟨v1, hv1, hf⟩ := zbind hf
  refine gf_RX9_50 C hv1 dX9_begin_1 ?_
  obtain ⟨v2, hv2, hf⟩ := zbind hf
  refine gf_RX9_227 C hv2 dX9_begin_4 ?_
  obtain ⟨c3, hc3, hf⟩ := zbind hf
  obtain ⟨kc3, hc3⟩ := zck_ok hc3
  refine z_callVi (As := []) (F0 := 6) (L0 := 170) C (mX0_exists l D Ca B En C.2.2.2.2.2.2.2.1 σ N v2  _ hc3) hRm kc3 rfl kw_316 kw_10 kw_550 kw_314 kw_315 hyX0_exists (Nat.le_of_ble_eq_true rfl) (Nat.le_of_ble_eq_true rfl) rfl rfl (Nat.le_of_ble_eq_true rfl) dX9_begin_7 ?_
  refine z_if_eq C 21 dX9_begin_10 (by decide) (fun q12 => ?_) (fun q12 => ?_)
  · rw [if_pos q12] at hf
    refine z_aload_n C dX9_begin_21 rfl 0 rfl ?_
    obtain ⟨v4, hv4, hf⟩ := zbind hf
    refine gf_RX9_63 C hv4 dX9_begin_22 ?_
    refine z_aload_n C dX9_begin_25 rfl 0 rfl ?_
    obtain ⟨v5, hv5, hf⟩ := zbind hf
    refine gf_RX9_50 C hv5 dX9_begin_26 ?_
    obtain ⟨c6, hc6, hf⟩ := zbind hf
    obtain ⟨kc6, hc6⟩ := zck_ok hc6
    refine z_callVv (As := [.ref v5]) (F0 := 6) (L0 := 170) C (mX6_remember l D Ca B En C.2.2.2.2.2.2.2.1 c3.1 N v4 v5 _ hc6) hRm kc6 rfl kw_588 kw_13 kw_585 kw_586 kw_587 hyX6_remember (Nat.le_of_ble_eq_true rfl) (Nat.le_of_ble_eq_true rfl) rfl rfl (Nat.le_of_ble_eq_true rfl) dX9_begin_29 ?_
    refine z_aload_n C dX9_begin_32 rfl 0 rfl ?_
    obtain ⟨v7, hv7, hf⟩ := zbind hf
    refine gf_RX9_50 C hv7 dX9_begin_33 ?_
    refine z_iload_n C dX9_begin_36 rfl 1 rfl ?_
    obtain ⟨c8, hc8, hf⟩ := zbind hf
    obtain ⟨kc8, hc8⟩ := zck_ok hc8
    refine z_callVv (As := [.int x1]) (F0 := 6) (L0 := 170) C (mX1_startCheckpoint l D Ca B En C.2.2.2.2.2.2.2.1 c6 N v7 x1 _ hc8) hRm kc8 rfl kw_612 kw_8 kw_757 kw_610 kw_611 hyX1_startCheckpoint (Nat.le_of_ble_eq_true rfl) (Nat.le_of_ble_eq_true rfl) rfl rfl (Nat.le_of_ble_eq_true rfl) dX9_begin_37 ?_
    refine z_aload_n C dX9_begin_40 rfl 0 rfl ?_
    obtain ⟨v9, hv9, hf⟩ := zbind hf
    refine gf_RX9_50 C hv9 dX9_begin_41 ?_
    obtain ⟨v10, hv10, hf⟩ := zbind hf
    refine gf_RX9_227 C hv10 dX9_begin_44 ?_
    obtain ⟨v11, hv11, hf⟩ := zbind hf
    refine gf_RX9_237 C hv11 dX9_begin_47 ?_
    cases hf
    exact hq _ _ dX9_begin_50
  · rw [if_neg q12] at hf
    cases hf

theorem mX9_begin (l : Launch) (D : va_G) (Ca : Nat → ClassId) (B : Nat) (En : State → Prop) (hE : zEk B En) (σ : zS) (N : Nat) (x0 : Nat) (x1 : Int32) (X : zS × Int32) (hf : fX9_begin σ x0 x1 = some X) : zMi l D Ca B En yX9_begin cX9_begin 2 (Option.some Jvm.ClassFile.FieldType.int) 6 170 [.ref x0, .int x1] σ N X.1 X.2 :=
  zMet_i (own := RX9) hE (by decide +kernel) rfl (Nat.le_of_ble_eq_true rfl) (fun p e s m args below meth c C hr hRm => wfX9_begin C hRm σ x0 x1 X.1 X.2 hf (fun pc lv hd => zfin_i C hr hd))
theorem dX9_rescale_0 : decode cX9_rescale 0 = .ok (.iload_n 1, 1) := by decide +kernel
theorem dX9_rescale_1 : decode cX9_rescale 1 = .ok (.iconst 1, 1) := by decide +kernel
theorem dX9_rescale_2 : decode cX9_rescale 2 = .ok (.if_icmp .lt 8, 3) := by decide +kernel
theorem dX9_rescale_5 : decode cX9_rescale 5 = .ok (.iload_n 1, 1) := by decide +kernel
theorem dX9_rescale_6 : decode cX9_rescale 6 = .ok (.iconst 4, 1) := by decide +kernel
theorem dX9_rescale_7 : decode cX9_rescale 7 = .ok (.if_icmp .le 11, 3) := by decide +kernel
theorem dX9_rescale_10 : decode cX9_rescale 10 = .ok (.new 224, 3) := by decide +kernel
theorem dX9_rescale_13 : decode cX9_rescale 13 = .ok (.dup, 1) := by decide +kernel
theorem dX9_rescale_14 : decode cX9_rescale 14 = .ok (.invokespecial 226, 3) := by decide +kernel
theorem dX9_rescale_17 : decode cX9_rescale 17 = .ok (.athrow, 1) := by decide +kernel
theorem dX9_rescale_18 : decode cX9_rescale 18 = .ok (.aload_n 0, 1) := by decide +kernel
theorem dX9_rescale_19 : decode cX9_rescale 19 = .ok (.getfield 63, 3) := by decide +kernel
theorem dX9_rescale_22 : decode cX9_rescale 22 = .ok (.aload_n 0, 1) := by decide +kernel
theorem dX9_rescale_23 : decode cX9_rescale 23 = .ok (.getfield 50, 3) := by decide +kernel
theorem dX9_rescale_26 : decode cX9_rescale 26 = .ok (.invokevirtual 299, 3) := by decide +kernel
theorem dX9_rescale_29 : decode cX9_rescale 29 = .ok (.aload_n 0, 1) := by decide +kernel
theorem dX9_rescale_30 : decode cX9_rescale 30 = .ok (.getfield 50, 3) := by decide +kernel
theorem dX9_rescale_33 : decode cX9_rescale 33 = .ok (.getfield 98, 3) := by decide +kernel
theorem dX9_rescale_36 : decode cX9_rescale 36 = .ok (.iload_n 1, 1) := by decide +kernel
theorem dX9_rescale_37 : decode cX9_rescale 37 = .ok (.invokestatic 316, 3) := by decide +kernel
theorem dX9_rescale_40 : decode cX9_rescale 40 = .ok (.istore_n 2, 1) := by decide +kernel
theorem dX9_rescale_41 : decode cX9_rescale 41 = .ok (.aload_n 0, 1) := by decide +kernel
theorem dX9_rescale_42 : decode cX9_rescale 42 = .ok (.getfield 50, 3) := by decide +kernel
theorem dX9_rescale_45 : decode cX9_rescale 45 = .ok (.iload_n 1, 1) := by decide +kernel
theorem dX9_rescale_46 : decode cX9_rescale 46 = .ok (.invokevirtual 319, 3) := by decide +kernel
theorem dX9_rescale_49 : decode cX9_rescale 49 = .ok (.iload_n 2, 1) := by decide +kernel
theorem dX9_rescale_50 : decode cX9_rescale 50 = .ok (.ireturn, 1) := by decide +kernel
theorem hyX9_rescale : yX9_rescale.cls ≠ "java/lang/invoke/MethodHandle" ∧ yX9_rescale.cls ≠ "java/lang/invoke/VarHandle" ∧ (parseMethodDescriptor yX9_rescale.desc).map (fun d => d.parameters.length) = some 1 := ⟨by decide +kernel, by decide +kernel, by decide +kernel⟩
set_option maxRecDepth 100000 in
set_option maxHeartbeats 4000000 in
theorem wfX9_rescale (C : zC p s m args meth c cX9_rescale RX9 3 D Ca B En) (hRm : zRm R 6 170 cells slots) (σ : zS) (x0 : Nat) (x1 : Int32) (τ : zS) (r : Int32) (hf : fX9_rescale σ x0 x1 = some (τ, r)) (hq : ∀ (pc : Nat) (lv : List (Nat × Value)), decode cX9_rescale pc = .ok (.ireturn, 1) → zW p l e R s m args below meth c cells slots Q D Ca B 3 τ N pc lv [.int r]) : zW p l e R s m args below meth c cells slots Q D Ca B 3 σ N 0 [(0, .ref x0), (1, .int x1)] [] := by
  unfold fX9_rescale at hf
  refine z_iload_n C dX9_rescale_0 rfl 1 rfl ?_
  refine z_iconst C (zi 1) dX9_rescale_1 (by decide) ?_
  refine z_icmp_lt C 10 dX9_rescale_2 (by decide) (fun q10 => ?_) (fun q10 => ?_)
  · rw [if_pos q10] at hf
    cases hf
  · rw [if_neg q10] at hf
    refine z_iload_n C dX9_rescale_5 rfl 1 rfl ?_
    refine z_iconst C (zi 4) dX9_rescale_6 (by decide) ?_
    refine z_icmp_le C 18 dX9_rescale_7 (by decide) (fun q9 => ?_) (fun q9 => ?_)
    · rw [if_pos q9] at hf
      refine z_aload_n C dX9_rescale_18 rfl 0 rfl ?_
      obtain ⟨v1, hv1, hf⟩ := zbind hf
      refine gf_RX9_63 C hv1 dX9_rescale_19 ?_
      refine z_aload_n C dX9_rescale_22 rfl 0 rfl ?_
      obtain ⟨v2, hv2, hf⟩ := zbind hf
      refine gf_RX9_50 C hv2 dX9_rescale_23 ?_
      obtain ⟨c3, hc3, hf⟩ := zbind hf
      obtain ⟨kc3, hc3⟩ := zck_ok hc3
      refine z_callVv (As := [.ref v2]) (F0 := 6) (L0 := 170) C (mX6_remember l D Ca B En C.2.2.2.2.2.2.2.1 σ N v1 v2 _ hc3) hRm kc3 rfl kw_588 kw_13 kw_585 kw_586 kw_587 hyX6_remember (Nat.le_of_ble_eq_true rfl) (Nat.le_of_ble_eq_true rfl) rfl rfl (Nat.le_of_ble_eq_true rfl) dX9_rescale_26 ?_
      refine z_aload_n C dX9_rescale_29 rfl 0 rfl ?_
      obtain ⟨v4, hv4, hf⟩ := zbind hf
      refine gf_RX9_50 C hv4 dX9_rescale_30 ?_
      obtain ⟨v5, hv5, hf⟩ := zbind hf
      refine gf_RX9_98 C hv5 dX9_rescale_33 ?_
      refine z_iload_n C dX9_rescale_36 rfl 1 rfl ?_
      obtain ⟨c6, hc6, hf⟩ := zbind hf
      refine z_callSi (As := [.int v5, .int x1]) (F0 := 6) (L0 := 170) C (mX9_groupsMoved l D Ca B En C.2.2.2.2.2.2.2.1 c3 N v5 x1 _ hc6) hRm kw_1193 kw_1 kw_1191 kw_1192 hyX9_groupsMoved (Nat.le_of_ble_eq_true rfl) (Nat.le_of_ble_eq_true rfl) rfl rfl (Nat.le_of_ble_eq_true rfl) dX9_rescale_37 ?_
      refine z_istore_n (lv2 := [(2, .int c6.2), (0, .ref x0), (1, .int x1)]) C dX9_rescale_40 rfl (by decide) rfl ?_
      refine z_aload_n C dX9_rescale_41 rfl 1 rfl ?_
      obtain ⟨v7, hv7, hf⟩ := zbind hf
      refine gf_RX9_50 C hv7 dX9_rescale_42 ?_
      refine z_iload_n C dX9_rescale_45 rfl 2 rfl ?_
      obtain ⟨c8, hc8, hf⟩ := zbind hf
      obtain ⟨kc8, hc8⟩ := zck_ok hc8
      refine z_callVv (As := [.int x1]) (F0 := 6) (L0 := 170) C (mX1_recoverWith l D Ca B En C.2.2.2.2.2.2.2.1 c6.1 N v7 x1 _ hc8) hRm kc8 rfl kw_1198 kw_8 kw_1195 kw_1196 kw_1197 hyX1_recoverWith (Nat.le_of_ble_eq_true rfl) (Nat.le_of_ble_eq_true rfl) rfl rfl (Nat.le_of_ble_eq_true rfl) dX9_rescale_46 ?_
      refine z_iload_n C dX9_rescale_49 rfl 0 rfl ?_
      cases hf
      exact hq _ _ dX9_rescale_50
    · rw [if_neg q9] at hf
      cases hf

theorem mX9_rescale (l : Launch) (D : va_G) (Ca : Nat → ClassId) (B : Nat) (En : State → Prop) (hE : zEk B En) (σ : zS) (N : Nat) (x0 : Nat) (x1 : Int32) (X : zS × Int32) (hf : fX9_rescale σ x0 x1 = some X) : zMi l D Ca B En yX9_rescale cX9_rescale 3 (Option.some Jvm.ClassFile.FieldType.int) 6 170 [.ref x0, .int x1] σ N X.1 X.2 :=
  zMet_i (own := RX9) hE (by decide +kernel) rfl (Nat.le_of_ble_eq_true rfl) (fun p e s m args below meth c C hr hRm => wfX9_rescale C hRm σ x0 x1 X.1 X.2 hf (fun pc lv hd => zfin_i C hr hd))
theorem dX9_setRoom_0 : decode cX9_setRoom 0 = .ok (.iload_n 1, 1) := by decide +kernel
theorem dX9_setRoom_1 : decode cX9_setRoom 1 = .ok (.iconst 1, 1) := by decide +kernel
theorem dX9_setRoom_2 : decode cX9_setRoom 2 = .ok (.if_icmp .lt 9, 3) := by decide +kernel
theorem dX9_setRoom_5 : decode cX9_setRoom 5 = .ok (.iload_n 1, 1) := by decide +kernel
theorem dX9_setRoom_6 : decode cX9_setRoom 6 = .ok (.bipush 9, 2) := by decide +kernel
theorem dX9_setRoom_8 : decode cX9_setRoom 8 = .ok (.if_icmp .le 11, 3) := by decide +kernel
theorem dX9_setRoom_11 : decode cX9_setRoom 11 = .ok (.new 224, 3) := by decide +kernel
theorem dX9_setRoom_14 : decode cX9_setRoom 14 = .ok (.dup, 1) := by decide +kernel
theorem dX9_setRoom_15 : decode cX9_setRoom 15 = .ok (.invokespecial 226, 3) := by decide +kernel
theorem dX9_setRoom_18 : decode cX9_setRoom 18 = .ok (.athrow, 1) := by decide +kernel
theorem dX9_setRoom_19 : decode cX9_setRoom 19 = .ok (.aload_n 0, 1) := by decide +kernel
theorem dX9_setRoom_20 : decode cX9_setRoom 20 = .ok (.getfield 63, 3) := by decide +kernel
theorem dX9_setRoom_23 : decode cX9_setRoom 23 = .ok (.aload_n 0, 1) := by decide +kernel
theorem dX9_setRoom_24 : decode cX9_setRoom 24 = .ok (.getfield 50, 3) := by decide +kernel
theorem dX9_setRoom_27 : decode cX9_setRoom 27 = .ok (.invokevirtual 299, 3) := by decide +kernel
theorem dX9_setRoom_30 : decode cX9_setRoom 30 = .ok (.aload_n 0, 1) := by decide +kernel
theorem dX9_setRoom_31 : decode cX9_setRoom 31 = .ok (.getfield 50, 3) := by decide +kernel
theorem dX9_setRoom_34 : decode cX9_setRoom 34 = .ok (.getfield 104, 3) := by decide +kernel
theorem dX9_setRoom_37 : decode cX9_setRoom 37 = .ok (.istore_n 2, 1) := by decide +kernel
theorem dX9_setRoom_38 : decode cX9_setRoom 38 = .ok (.aload_n 0, 1) := by decide +kernel
theorem dX9_setRoom_39 : decode cX9_setRoom 39 = .ok (.getfield 50, 3) := by decide +kernel
theorem dX9_setRoom_42 : decode cX9_setRoom 42 = .ok (.iload_n 1, 1) := by decide +kernel
theorem dX9_setRoom_43 : decode cX9_setRoom 43 = .ok (.putfield 104, 3) := by decide +kernel
theorem dX9_setRoom_46 : decode cX9_setRoom 46 = .ok (.iload_n 2, 1) := by decide +kernel
theorem dX9_setRoom_47 : decode cX9_setRoom 47 = .ok (.ireturn, 1) := by decide +kernel
theorem hyX9_setRoom : yX9_setRoom.cls ≠ "java/lang/invoke/MethodHandle" ∧ yX9_setRoom.cls ≠ "java/lang/invoke/VarHandle" ∧ (parseMethodDescriptor yX9_setRoom.desc).map (fun d => d.parameters.length) = some 1 := ⟨by decide +kernel, by decide +kernel, by decide +kernel⟩
set_option maxRecDepth 100000 in
set_option maxHeartbeats 4000000 in
theorem wfX9_setRoom (C : zC p s m args meth c cX9_setRoom RX9 3 D Ca B En) (hRm : zRm R 6 170 cells slots) (σ : zS) (x0 : Nat) (x1 : Int32) (τ : zS) (r : Int32) (hf : fX9_setRoom σ x0 x1 = some (τ, r)) (hq : ∀ (pc : Nat) (lv : List (Nat × Value)), decode cX9_setRoom pc = .ok (.ireturn, 1) → zW p l e R s m args below meth c cells slots Q D Ca B 3 τ N pc lv [.int r]) : zW p l e R s m args below meth c cells slots Q D Ca B 3 σ N 0 [(0, .ref x0), (1, .int x1)] [] := by
  unfold fX9_setRoom at hf
  refine z_iload_n C dX9_setRoom_0 rfl 1 rfl ?_
  refine z_iconst C (zi 1) dX9_setRoom_1 (by decide) ?_
  refine z_icmp_lt C 11 dX9_setRoom_2 (by decide) (fun q9 => ?_) (fun q9 => ?_)
  · rw [if_pos q9] at hf
    cases hf
  · rw [if_neg q9] at hf
    refine z_iload_n C dX9_setRoom_5 rfl 1 rfl ?_
    refine z_bipush C (zi 9) dX9_setRoom_6 (by decide) ?_
    refine z_icmp_le C 19 dX9_setRoom_8 (by decide) (fun q8 => ?_) (fun q8 => ?_)
    · rw [if_pos q8] at hf
      refine z_aload_n C dX9_setRoom_19 rfl 0 rfl ?_
      obtain ⟨v1, hv1, hf⟩ := zbind hf
      refine gf_RX9_63 C hv1 dX9_setRoom_20 ?_
      refine z_aload_n C dX9_setRoom_23 rfl 0 rfl ?_
      obtain ⟨v2, hv2, hf⟩ := zbind hf
      refine gf_RX9_50 C hv2 dX9_setRoom_24 ?_
      obtain ⟨c3, hc3, hf⟩ := zbind hf
      obtain ⟨kc3, hc3⟩ := zck_ok hc3
      refine z_callVv (As := [.ref v2]) (F0 := 6) (L0 := 170) C (mX6_remember l D Ca B En C.2.2.2.2.2.2.2.1 σ N v1 v2 _ hc3) hRm kc3 rfl kw_588 kw_13 kw_585 kw_586 kw_587 hyX6_remember (Nat.le_of_ble_eq_true rfl) (Nat.le_of_ble_eq_true rfl) rfl rfl (Nat.le_of_ble_eq_true rfl) dX9_setRoom_27 ?_
      refine z_aload_n C dX9_setRoom_30 rfl 0 rfl ?_
      obtain ⟨v4, hv4, hf⟩ := zbind hf
      refine gf_RX9_50 C hv4 dX9_setRoom_31 ?_
      obtain ⟨v5, hv5, hf⟩ := zbind hf
      refine gf_RX9_104 C hv5 dX9_setRoom_34 ?_
      refine z_istore_n (lv2 := [(2, .int v5), (0, .ref x0), (1, .int x1)]) C dX9_setRoom_37 rfl (by decide) rfl ?_
      refine z_aload_n C dX9_setRoom_38 rfl 1 rfl ?_
      obtain ⟨v6, hv6, hf⟩ := zbind hf
      refine gf_RX9_50 C hv6 dX9_setRoom_39 ?_
      refine z_iload_n C dX9_setRoom_42 rfl 2 rfl ?_
      obtain ⟨σ7, hσ7, hf⟩ := zbind hf
      refine gp_RX9_104 C hσ7 dX9_setRoom_43 ?_
      refine z_iload_n C dX9_setRoom_46 rfl 0 rfl ?_
      cases hf
      exact hq _ _ dX9_setRoom_47
    · rw [if_neg q8] at hf
      cases hf

theorem mX9_setRoom (l : Launch) (D : va_G) (Ca : Nat → ClassId) (B : Nat) (En : State → Prop) (hE : zEk B En) (σ : zS) (N : Nat) (x0 : Nat) (x1 : Int32) (X : zS × Int32) (hf : fX9_setRoom σ x0 x1 = some X) : zMi l D Ca B En yX9_setRoom cX9_setRoom 3 (Option.some Jvm.ClassFile.FieldType.int) 6 170 [.ref x0, .int x1] σ N X.1 X.2 :=
  zMet_i (own := RX9) hE (by decide +kernel) rfl (Nat.le_of_ble_eq_true rfl) (fun p e s m args below meth c C hr hRm => wfX9_setRoom C hRm σ x0 x1 X.1 X.2 hf (fun pc lv hd => zfin_i C hr hd))
theorem dX9_setLag_0 : decode cX9_setLag 0 = .ok (.aload_n 0, 1) := by decide +kernel
theorem dX9_setLag_1 : decode cX9_setLag 1 = .ok (.iload_n 1, 1) := by decide +kernel
theorem dX9_setLag_2 : decode cX9_setLag 2 = .ok (.invokevirtual 139, 3) := by decide +kernel
theorem dX9_setLag_5 : decode cX9_setLag 5 = .ok (.iload_n 2, 1) := by decide +kernel
theorem dX9_setLag_6 : decode cX9_setLag 6 = .ok (.ifCond .lt 9, 3) := by decide +kernel
theorem dX9_setLag_9 : decode cX9_setLag 9 = .ok (.iload_n 2, 1) := by decide +kernel
theorem dX9_setLag_10 : decode cX9_setLag 10 = .ok (.bipush 9, 2) := by decide +kernel
theorem dX9_setLag_12 : decode cX9_setLag 12 = .ok (.if_icmp .le 11, 3) := by decide +kernel
theorem dX9_setLag_15 : decode cX9_setLag 15 = .ok (.new 224, 3) := by decide +kernel
theorem dX9_setLag_18 : decode cX9_setLag 18 = .ok (.dup, 1) := by decide +kernel
theorem dX9_setLag_19 : decode cX9_setLag 19 = .ok (.invokespecial 226, 3) := by decide +kernel
theorem dX9_setLag_22 : decode cX9_setLag 22 = .ok (.athrow, 1) := by decide +kernel
theorem dX9_setLag_23 : decode cX9_setLag 23 = .ok (.aload_n 0, 1) := by decide +kernel
theorem dX9_setLag_24 : decode cX9_setLag 24 = .ok (.getfield 63, 3) := by decide +kernel
theorem dX9_setLag_27 : decode cX9_setLag 27 = .ok (.aload_n 0, 1) := by decide +kernel
theorem dX9_setLag_28 : decode cX9_setLag 28 = .ok (.getfield 50, 3) := by decide +kernel
theorem dX9_setLag_31 : decode cX9_setLag 31 = .ok (.invokevirtual 299, 3) := by decide +kernel
theorem dX9_setLag_34 : decode cX9_setLag 34 = .ok (.aload_n 0, 1) := by decide +kernel
theorem dX9_setLag_35 : decode cX9_setLag 35 = .ok (.getfield 50, 3) := by decide +kernel
theorem dX9_setLag_38 : decode cX9_setLag 38 = .ok (.getfield 149, 3) := by decide +kernel
theorem dX9_setLag_41 : decode cX9_setLag 41 = .ok (.iload_n 1, 1) := by decide +kernel
theorem dX9_setLag_42 : decode cX9_setLag 42 = .ok (.iaload, 1) := by decide +kernel
theorem dX9_setLag_43 : decode cX9_setLag 43 = .ok (.istore_n 3, 1) := by decide +kernel
theorem dX9_setLag_44 : decode cX9_setLag 44 = .ok (.aload_n 0, 1) := by decide +kernel
theorem dX9_setLag_45 : decode cX9_setLag 45 = .ok (.getfield 50, 3) := by decide +kernel
theorem dX9_setLag_48 : decode cX9_setLag 48 = .ok (.getfield 149, 3) := by decide +kernel
theorem dX9_setLag_51 : decode cX9_setLag 51 = .ok (.iload_n 1, 1) := by decide +kernel
theorem dX9_setLag_52 : decode cX9_setLag 52 = .ok (.iload_n 2, 1) := by decide +kernel
theorem dX9_setLag_53 : decode cX9_setLag 53 = .ok (.iastore, 1) := by decide +kernel
theorem dX9_setLag_54 : decode cX9_setLag 54 = .ok (.iload_n 3, 1) := by decide +kernel
theorem dX9_setLag_55 : decode cX9_setLag 55 = .ok (.ireturn, 1) := by decide +kernel
theorem hyX9_setLag : yX9_setLag.cls ≠ "java/lang/invoke/MethodHandle" ∧ yX9_setLag.cls ≠ "java/lang/invoke/VarHandle" ∧ (parseMethodDescriptor yX9_setLag.desc).map (fun d => d.parameters.length) = some 2 := ⟨by decide +kernel, by decide +kernel, by decide +kernel⟩
set_option maxRecDepth 100000 in
set_option maxHeartbeats 4000000 in
theorem wfX9_setLag (C : zC p s m args meth c cX9_setLag RX9 4 D Ca B En) (hRm : zRm R 6 170 cells slots) (σ : zS) (x0 : Nat) (x1 : Int32) (x2 : Int32) (τ : zS) (r : Int32) (hf : fX9_setLag σ x0 x1 x2 = some (τ, r)) (hq : ∀ (pc : Nat) (lv : List (Nat × Value)), decode cX9_setLag pc = .ok (.ireturn, 1) → zW p l e R s m args below meth c cells slots Q D Ca B 4 τ N pc lv [.int r]) : zW p l e R s m args below meth c cells slots Q D Ca B 4 σ N 0 [(0, .ref x0), (1, .int x1), (2, .int x2)] [] := by
  unfold fX9_setLag at hf
  refine z_aload_n C dX9_setLag_0 rfl 0 rfl ?_
  refine z_iload_n C dX9_setLag_1 rfl 1 rfl ?_
  obtain ⟨c1, hc1, hf⟩ := zbind hf
  obtain ⟨kc1, hc1⟩ := zck_ok hc1
  refine z_callVv (As := [.int x1]) (F0 := 6) (L0 := 170) C (mX9_needSource l D Ca B En C.2.2.2.2.2.2.2.1 σ N x0 x1 _ hc1) hRm kc1 rfl kw_1224 kw_1 kw_1221 kw_1223 kp_32 hyX9_needSource (Nat.le_of_ble_eq_true rfl) (Nat.le_of_ble_eq_true rfl) rfl rfl (Nat.le_of_ble_eq_true rfl) dX9_setLag_2 ?_
  refine z_iload_n C dX9_setLag_5 rfl 2 rfl ?_
  refine z_if_lt C 15 dX9_setLag_6 (by decide) (fun q12 => ?_) (fun q12 => ?_)
  · rw [if_pos q12] at hf
    cases hf
  · rw [if_neg q12] at hf
    refine z_iload_n C dX9_setLag_9 rfl 2 rfl ?_
    refine z_bipush C (zi 9) dX9_setLag_10 (by decide) ?_
    refine z_icmp_le C 23 dX9_setLag_12 (by decide) (fun q11 => ?_) (fun q11 => ?_)
    · rw [if_pos q11] at hf
      refine z_aload_n C dX9_setLag_23 rfl 0 rfl ?_
      obtain ⟨v2, hv2, hf⟩ := zbind hf
      refine gf_RX9_63 C hv2 dX9_setLag_24 ?_
      refine z_aload_n C dX9_setLag_27 rfl 0 rfl ?_
      obtain ⟨v3, hv3, hf⟩ := zbind hf
      refine gf_RX9_50 C hv3 dX9_setLag_28 ?_
      obtain ⟨c4, hc4, hf⟩ := zbind hf
      obtain ⟨kc4, hc4⟩ := zck_ok hc4
      refine z_callVv (As := [.ref v3]) (F0 := 6) (L0 := 170) C (mX6_remember l D Ca B En C.2.2.2.2.2.2.2.1 c1 N v2 v3 _ hc4) hRm kc4 rfl kw_588 kw_13 kw_585 kw_586 kw_587 hyX6_remember (Nat.le_of_ble_eq_true rfl) (Nat.le_of_ble_eq_true rfl) rfl rfl (Nat.le_of_ble_eq_true rfl) dX9_setLag_31 ?_
      refine z_aload_n C dX9_setLag_34 rfl 0 rfl ?_
      obtain ⟨v5, hv5, hf⟩ := zbind hf
      refine gf_RX9_50 C hv5 dX9_setLag_35 ?_
      obtain ⟨v6, hv6, hf⟩ := zbind hf
      refine gf_RX9_149 C hv6 dX9_setLag_38 ?_
      refine z_iload_n C dX9_setLag_41 rfl 1 rfl ?_
      obtain ⟨v7, hv7, hf⟩ := zbind hf
      refine z_aI C hv7 dX9_setLag_42 ?_
      refine z_istore_n (lv2 := [(3, .int v7), (0, .ref x0), (1, .int x1), (2, .int x2)]) C dX9_setLag_43 rfl (by decide) rfl ?_
      refine z_aload_n C dX9_setLag_44 rfl 1 rfl ?_
      obtain ⟨v8, hv8, hf⟩ := zbind hf
      refine gf_RX9_50 C hv8 dX9_setLag_45 ?_
      obtain ⟨v9, hv9, hf⟩ := zbind hf
      refine gf_RX9_149 C hv9 dX9_setLag_48 ?_
      refine z_iload_n C dX9_setLag_51 rfl 2 rfl ?_
      refine z_iload_n C dX9_setLag_52 rfl 3 rfl ?_
      obtain ⟨σ10, hσ10, hf⟩ := zbind hf
      refine z_sI C hσ10 dX9_setLag_53 ?_
      refine z_iload_n C dX9_setLag_54 rfl 0 rfl ?_
      cases hf
      exact hq _ _ dX9_setLag_55
    · rw [if_neg q11] at hf
      cases hf

theorem mX9_setLag (l : Launch) (D : va_G) (Ca : Nat → ClassId) (B : Nat) (En : State → Prop) (hE : zEk B En) (σ : zS) (N : Nat) (x0 : Nat) (x1 : Int32) (x2 : Int32) (X : zS × Int32) (hf : fX9_setLag σ x0 x1 x2 = some X) : zMi l D Ca B En yX9_setLag cX9_setLag 4 (Option.some Jvm.ClassFile.FieldType.int) 6 170 [.ref x0, .int x1, .int x2] σ N X.1 X.2 :=
  zMet_i (own := RX9) hE (by decide +kernel) rfl (Nat.le_of_ble_eq_true rfl) (fun p e s m args below meth c C hr hRm => wfX9_setLag C hRm σ x0 x1 x2 X.1 X.2 hf (fun pc lv hd => zfin_i C hr hd))
theorem dX9_setEvery_0 : decode cX9_setEvery 0 = .ok (.iload_n 1, 1) := by decide +kernel
theorem dX9_setEvery_1 : decode cX9_setEvery 1 = .ok (.ifCond .lt 9, 3) := by decide +kernel
theorem dX9_setEvery_4 : decode cX9_setEvery 4 = .ok (.iload_n 1, 1) := by decide +kernel
theorem dX9_setEvery_5 : decode cX9_setEvery 5 = .ok (.bipush 99, 2) := by decide +kernel
theorem dX9_setEvery_7 : decode cX9_setEvery 7 = .ok (.if_icmp .le 11, 3) := by decide +kernel
theorem dX9_setEvery_10 : decode cX9_setEvery 10 = .ok (.new 224, 3) := by decide +kernel
theorem dX9_setEvery_13 : decode cX9_setEvery 13 = .ok (.dup, 1) := by decide +kernel
theorem dX9_setEvery_14 : decode cX9_setEvery 14 = .ok (.invokespecial 226, 3) := by decide +kernel
theorem dX9_setEvery_17 : decode cX9_setEvery 17 = .ok (.athrow, 1) := by decide +kernel
theorem dX9_setEvery_18 : decode cX9_setEvery 18 = .ok (.aload_n 0, 1) := by decide +kernel
theorem dX9_setEvery_19 : decode cX9_setEvery 19 = .ok (.getfield 63, 3) := by decide +kernel
theorem dX9_setEvery_22 : decode cX9_setEvery 22 = .ok (.aload_n 0, 1) := by decide +kernel
theorem dX9_setEvery_23 : decode cX9_setEvery 23 = .ok (.getfield 50, 3) := by decide +kernel
theorem dX9_setEvery_26 : decode cX9_setEvery 26 = .ok (.invokevirtual 299, 3) := by decide +kernel
theorem dX9_setEvery_29 : decode cX9_setEvery 29 = .ok (.aload_n 0, 1) := by decide +kernel
theorem dX9_setEvery_30 : decode cX9_setEvery 30 = .ok (.getfield 50, 3) := by decide +kernel
theorem dX9_setEvery_33 : decode cX9_setEvery 33 = .ok (.getfield 107, 3) := by decide +kernel
theorem dX9_setEvery_36 : decode cX9_setEvery 36 = .ok (.istore_n 3, 1) := by decide +kernel
theorem dX9_setEvery_37 : decode cX9_setEvery 37 = .ok (.aload_n 0, 1) := by decide +kernel
theorem dX9_setEvery_38 : decode cX9_setEvery 38 = .ok (.getfield 50, 3) := by decide +kernel
theorem dX9_setEvery_41 : decode cX9_setEvery 41 = .ok (.iload_n 1, 1) := by decide +kernel
theorem dX9_setEvery_42 : decode cX9_setEvery 42 = .ok (.putfield 107, 3) := by decide +kernel
theorem dX9_setEvery_45 : decode cX9_setEvery 45 = .ok (.aload_n 0, 1) := by decide +kernel
theorem dX9_setEvery_46 : decode cX9_setEvery 46 = .ok (.getfield 50, 3) := by decide +kernel
theorem dX9_setEvery_49 : decode cX9_setEvery 49 = .ok (.iload_n 2, 1) := by decide +kernel
theorem dX9_setEvery_50 : decode cX9_setEvery 50 = .ok (.putfield 128, 3) := by decide +kernel
theorem dX9_setEvery_53 : decode cX9_setEvery 53 = .ok (.iload_n 3, 1) := by decide +kernel
theorem dX9_setEvery_54 : decode cX9_setEvery 54 = .ok (.ireturn, 1) := by decide +kernel
theorem hyX9_setEvery : yX9_setEvery.cls ≠ "java/lang/invoke/MethodHandle" ∧ yX9_setEvery.cls ≠ "java/lang/invoke/VarHandle" ∧ (parseMethodDescriptor yX9_setEvery.desc).map (fun d => d.parameters.length) = some 2 := ⟨by decide +kernel, by decide +kernel, by decide +kernel⟩
set_option maxRecDepth 100000 in
set_option maxHeartbeats 4000000 in
theorem wfX9_setEvery (C : zC p s m args meth c cX9_setEvery RX9 4 D Ca B En) (hRm : zRm R 6 170 cells slots) (σ : zS) (x0 : Nat) (x1 : Int32) (x2 : Int32) (τ : zS) (r : Int32) (hf : fX9_setEvery σ x0 x1 x2 = some (τ, r)) (hq : ∀ (pc : Nat) (lv : List (Nat × Value)), decode cX9_setEvery pc = .ok (.ireturn, 1) → zW p l e R s m args below meth c cells slots Q D Ca B 4 τ N pc lv [.int r]) : zW p l e R s m args below meth c cells slots Q D Ca B 4 σ N 0 [(0, .ref x0), (1, .int x1), (2, .int x2)] [] := by
  unfold fX9_setEvery at hf
  refine z_iload_n C dX9_setEvery_0 rfl 1 rfl ?_
  refine z_if_lt C 10 dX9_setEvery_1 (by decide) (fun q11 => ?_) (fun q11 => ?_)
  · rw [if_pos q11] at hf
    cases hf
  · rw [if_neg q11] at hf
    refine z_iload_n C dX9_setEvery_4 rfl 1 rfl ?_
    refine z_bipush C (zi 99) dX9_setEvery_5 (by decide) ?_
    refine z_icmp_le C 18 dX9_setEvery_7 (by decide) (fun q10 => ?_) (fun q10 => ?_)
    · rw [if_pos q10] at hf
      refine z_aload_n C dX9_setEvery_18 rfl 0 rfl ?_
      obtain ⟨v1, hv1, hf⟩ := zbind hf
      refine gf_RX9_63 C hv1 dX9_setEvery_19 ?_
      refine z_aload_n C dX9_setEvery_22 rfl 0 rfl ?_
      obtain ⟨v2, hv2, hf⟩ := zbind hf
      refine gf_RX9_50 C hv2 dX9_setEvery_23 ?_
      obtain ⟨c3, hc3, hf⟩ := zbind hf
      obtain ⟨kc3, hc3⟩ := zck_ok hc3
      refine z_callVv (As := [.ref v2]) (F0 := 6) (L0 := 170) C (mX6_remember l D Ca B En C.2.2.2.2.2.2.2.1 σ N v1 v2 _ hc3) hRm kc3 rfl kw_588 kw_13 kw_585 kw_586 kw_587 hyX6_remember (Nat.le_of_ble_eq_true rfl) (Nat.le_of_ble_eq_true rfl) rfl rfl (Nat.le_of_ble_eq_true rfl) dX9_setEvery_26 ?_
      refine z_aload_n C dX9_setEvery_29 rfl 0 rfl ?_
      obtain ⟨v4, hv4, hf⟩ := zbind hf
      refine gf_RX9_50 C hv4 dX9_setEvery_30 ?_
      obtain ⟨v5, hv5, hf⟩ := zbind hf
      refine gf_RX9_107 C hv5 dX9_setEvery_33 ?_
      refine z_istore_n (lv2 := [(3, .int v5), (0, .ref x0), (1, .int x1), (2, .int x2)]) C dX9_setEvery_36 rfl (by decide) rfl ?_
      refine z_aload_n C dX9_setEvery_37 rfl 1 rfl ?_
      obtain ⟨v6, hv6, hf⟩ := zbind hf
      refine gf_RX9_50 C hv6 dX9_setEvery_38 ?_
      refine z_iload_n C dX9_setEvery_41 rfl 2 rfl ?_
      obtain ⟨σ7, hσ7, hf⟩ := zbind hf
      refine gp_RX9_107 C hσ7 dX9_setEvery_42 ?_
      refine z_aload_n C dX9_setEvery_45 rfl 1 rfl ?_
      obtain ⟨v8, hv8, hf⟩ := zbind hf
      refine gf_RX9_50 C hv8 dX9_setEvery_46 ?_
      refine z_iload_n C dX9_setEvery_49 rfl 3 rfl ?_
      obtain ⟨σ9, hσ9, hf⟩ := zbind hf
      refine gp_RX9_128 C hσ9 dX9_setEvery_50 ?_
      refine z_iload_n C dX9_setEvery_53 rfl 0 rfl ?_
      cases hf
      exact hq _ _ dX9_setEvery_54
    · rw [if_neg q10] at hf
      cases hf

theorem mX9_setEvery (l : Launch) (D : va_G) (Ca : Nat → ClassId) (B : Nat) (En : State → Prop) (hE : zEk B En) (σ : zS) (N : Nat) (x0 : Nat) (x1 : Int32) (x2 : Int32) (X : zS × Int32) (hf : fX9_setEvery σ x0 x1 x2 = some X) : zMi l D Ca B En yX9_setEvery cX9_setEvery 4 (Option.some Jvm.ClassFile.FieldType.int) 6 170 [.ref x0, .int x1, .int x2] σ N X.1 X.2 :=
  zMet_i (own := RX9) hE (by decide +kernel) rfl (Nat.le_of_ble_eq_true rfl) (fun p e s m args below meth c C hr hRm => wfX9_setEvery C hRm σ x0 x1 x2 X.1 X.2 hf (fun pc lv hd => zfin_i C hr hd))
end ZM
