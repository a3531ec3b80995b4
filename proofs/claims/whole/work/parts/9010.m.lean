/-! Methods: X10_source, X10_record, X10_owner, X10_sum, X10_groupsOf, X10_blockedOf, X10_blockedOfSink, X10_recordsTo, X10_resultsFrom, X10_instance, X10_sink, X10_shown, X10_inChannel, X10_outChannel, X10_sumOf, X10_progress, X10_completed, X10_notedPosition, X10_notedSum -/
section ZM
variable {p : Program} {l : Launch} {e : Env} {R : Room} {s : State} {m : MethodId} {args : Array Value} {below : List Frame} {meth : Method} {c : Code} {cells slots : Nat} {Q : State → Prop} {D : va_G} {Ca : Nat → ClassId} {B : Nat} {En : State → Prop} {N : Nat}
theorem dX10_source_0 : decode cX10_source 0 = .ok (.aload_n 0, 1) := by decide +kernel
theorem dX10_source_1 : decode cX10_source 1 = .ok (.aload_n 0, 1) := by decide +kernel
theorem dX10_source_2 : decode cX10_source 2 = .ok (.iload_n 1, 1) := by decide +kernel
theorem dX10_source_3 : decode cX10_source 3 = .ok (.invokevirtual 289, 3) := by decide +kernel
theorem dX10_source_6 : decode cX10_source 6 = .ok (.ifCond .eq 19, 3) := by decide +kernel
theorem dX10_source_9 : decode cX10_source 9 = .ok (.iload_n 2, 1) := by decide +kernel
theorem dX10_source_10 : decode cX10_source 10 = .ok (.i2l, 1) := by decide +kernel
theorem dX10_source_11 : decode cX10_source 11 = .ok (.lconst 0, 1) := by decide +kernel
theorem dX10_source_12 : decode cX10_source 12 = .ok (.ldc2_w 324, 3) := by decide +kernel
theorem dX10_source_15 : decode cX10_source 15 = .ok (.invokestatic 247, 3) := by decide +kernel
theorem dX10_source_18 : decode cX10_source 18 = .ok (.ifCond .eq 7, 3) := by decide +kernel
theorem dX10_source_21 : decode cX10_source 21 = .ok (.iconst 1, 1) := by decide +kernel
theorem dX10_source_22 : decode cX10_source 22 = .ok (.goto 4, 3) := by decide +kernel
theorem dX10_source_25 : decode cX10_source 25 = .ok (.iconst 0, 1) := by decide +kernel
theorem dX10_source_26 : decode cX10_source 26 = .ok (.invokevirtual 96, 3) := by decide +kernel
theorem dX10_source_29 : decode cX10_source 29 = .ok (.ifCond .ne 5, 3) := by decide +kernel
theorem dX10_source_32 : decode cX10_source 32 = .ok (.iconst 0, 1) := by decide +kernel
theorem dX10_source_33 : decode cX10_source 33 = .ok (.ireturn, 1) := by decide +kernel
theorem dX10_source_34 : decode cX10_source 34 = .ok (.iload_n 2, 1) := by decide +kernel
theorem dX10_source_35 : decode cX10_source 35 = .ok (.tableswitch 49 0 2 #[25, 32, 39], 25) := by decide +kernel
theorem dX10_source_60 : decode cX10_source 60 = .ok (.aload_n 0, 1) := by decide +kernel
theorem dX10_source_61 : decode cX10_source 61 = .ok (.getfield 7, 3) := by decide +kernel
theorem dX10_source_64 : decode cX10_source 64 = .ok (.iload_n 1, 1) := by decide +kernel
theorem dX10_source_65 : decode cX10_source 65 = .ok (.iaload, 1) := by decide +kernel
theorem dX10_source_66 : decode cX10_source 66 = .ok (.ireturn, 1) := by decide +kernel
theorem dX10_source_67 : decode cX10_source 67 = .ok (.aload_n 0, 1) := by decide +kernel
theorem dX10_source_68 : decode cX10_source 68 = .ok (.getfield 13, 3) := by decide +kernel
theorem dX10_source_71 : decode cX10_source 71 = .ok (.iload_n 1, 1) := by decide +kernel
theorem dX10_source_72 : decode cX10_source 72 = .ok (.iaload, 1) := by decide +kernel
theorem dX10_source_73 : decode cX10_source 73 = .ok (.ireturn, 1) := by decide +kernel
theorem dX10_source_74 : decode cX10_source 74 = .ok (.aload_n 0, 1) := by decide +kernel
theorem dX10_source_75 : decode cX10_source 75 = .ok (.getfield 21, 3) := by decide +kernel
theorem dX10_source_78 : decode cX10_source 78 = .ok (.bipush 9, 2) := by decide +kernel
theorem dX10_source_80 : decode cX10_source 80 = .ok (.iload_n 1, 1) := by decide +kernel
theorem dX10_source_81 : decode cX10_source 81 = .ok (.iadd, 1) := by decide +kernel
theorem dX10_source_82 : decode cX10_source 82 = .ok (.iaload, 1) := by decide +kernel
theorem dX10_source_83 : decode cX10_source 83 = .ok (.ireturn, 1) := by decide +kernel
theorem dX10_source_84 : decode cX10_source 84 = .ok (.aload_n 0, 1) := by decide +kernel
theorem dX10_source_85 : decode cX10_source 85 = .ok (.getfield 21, 3) := by decide +kernel
theorem dX10_source_88 : decode cX10_source 88 = .ok (.bipush 13, 2) := by decide +kernel
theorem dX10_source_90 : decode cX10_source 90 = .ok (.iload_n 1, 1) := by decide +kernel
theorem dX10_source_91 : decode cX10_source 91 = .ok (.iadd, 1) := by decide +kernel
theorem dX10_source_92 : decode cX10_source 92 = .ok (.iaload, 1) := by decide +kernel
theorem dX10_source_93 : decode cX10_source 93 = .ok (.ireturn, 1) := by decide +kernel
theorem hyX10_source : yX10_source.cls ≠ "java/lang/invoke/MethodHandle" ∧ yX10_source.cls ≠ "java/lang/invoke/VarHandle" ∧ (parseMethodDescriptor yX10_source.desc).map (fun d => d.parameters.length) = some 2 := ⟨by decide +kernel, by decide +kernel, by decide +kernel⟩
set_option maxRecDepth 100000 in
set_option maxHeartbeats 4000000 in
theorem wjX10_source_26 (C : zC p s m args meth c cX10_source RX10 3 D Ca B En) (hRm : zRm R 2 46 cells slots) (σ : zS) (x0 : Nat) (x1 : Int32) (x2 : Int32) (y0 : Int32) (y1 : Nat) (τ : zS) (r : Int32) (hf : jX10_source_26 σ x0 x1 x2 y0 y1 = some (τ, r)) (hq : ∀ (pc : Nat) (lv : List (Nat × Value)), decode cX10_source pc = .ok (.ireturn, 1) → zW p l e R s m args below meth c cells slots Q D Ca B 3 τ N pc lv [.int r]) : zW p l e R s m args below meth c cells slots Q D Ca B 3 σ N 26 [(0, .ref x0), (1, .int x1), (2, .int x2)] [.int y0, .ref y1] := by
  unfold jX10_source_26 at hf
  obtain ⟨c2, hc2, hf⟩ := zbind hf
  obtain ⟨kc2, hc2⟩ := zck_ok hc2
  refine z_callVi (As := [.int y0]) (F0 := 2) (L0 := 46) C (mX10_is l D Ca B En C.2.2.2.2.2.2.2.1 σ N y1 y0 _ hc2) hRm kc2 rfl kw_1373 kw_14 kw_1370 kw_1372 kp_37 hyX10_is (Nat.le_of_ble_eq_true rfl) (Nat.le_of_ble_eq_true rfl) rfl rfl (Nat.le_of_ble_eq_true rfl) dX10_source_26 ?_
  refine z_if_ne C 34 dX10_source_29 (by decide) (fun q14 => ?_) (fun q14 => ?_)
  · rw [if_neg q14] at hf
    refine z_iload_n C dX10_source_34 rfl 2 rfl ?_
    by_cases q3 : x2 = (zi 0)
    · rw [if_pos q3] at hf
      refine z_tableIn C 60 dX10_source_35 (by rw [q3]; decide) (by rw [q3]; decide) (by rw [q3]; rfl) (by decide) ?_
      refine z_aload_n C dX10_source_60 rfl 0 rfl ?_
      obtain ⟨v4, hv4, hf⟩ := zbind hf
      refine gf_RX10_7 C hv4 dX10_source_61 ?_
      refine z_iload_n C dX10_source_64 rfl 1 rfl ?_
      obtain ⟨v5, hv5, hf⟩ := zbind hf
      refine z_aI C hv5 dX10_source_65 ?_
      cases hf
      exact hq _ _ dX10_source_66
    · rw [if_neg q3] at hf
      by_cases q6 : x2 = (zi 1)
      · rw [if_pos q6] at hf
        refine z_tableIn C 67 dX10_source_35 (by rw [q6]; decide) (by rw [q6]; decide) (by rw [q6]; rfl) (by decide) ?_
        refine z_aload_n C dX10_source_67 rfl 0 rfl ?_
        obtain ⟨v7, hv7, hf⟩ := zbind hf
        refine gf_RX10_13 C hv7 dX10_source_68 ?_
        refine z_iload_n C dX10_source_71 rfl 1 rfl ?_
        obtain ⟨v8, hv8, hf⟩ := zbind hf
        refine z_aI C hv8 dX10_source_72 ?_
        cases hf
        exact hq _ _ dX10_source_73
      · rw [if_neg q6] at hf
        by_cases q9 : x2 = (zi 2)
        · rw [if_pos q9] at hf
          refine z_tableIn C 74 dX10_source_35 (by rw [q9]; decide) (by rw [q9]; decide) (by rw [q9]; rfl) (by decide) ?_
          refine z_aload_n C dX10_source_74 rfl 0 rfl ?_
          obtain ⟨v10, hv10, hf⟩ := zbind hf
          refine gf_RX10_21 C hv10 dX10_source_75 ?_
          refine z_bipush C (zi 9) dX10_source_78 (by decide) ?_
          refine z_iload_n C dX10_source_80 rfl 1 rfl ?_
          refine z_iadd C dX10_source_81 ?_
          obtain ⟨v11, hv11, hf⟩ := zbind hf
          refine z_aI C hv11 dX10_source_82 ?_
          cases hf
          exact hq _ _ dX10_source_83
        · rw [if_neg q9] at hf
          have w9 : ∀ k : Nat, k < 3 → ¬ x2 = Int32.ofInt ((0 : Int) + k) := by
            intro k hk
            match k, hk with
            | 0, _ => exact q3
            | 1, _ => exact q6
            | 2, _ => exact q9
            | k + 3, hk => exact absurd hk (by omega)
          refine z_tableOut C 84 dX10_source_35 (zsw 0 3 w9 (by decide)) (by decide) ?_
          refine z_aload_n C dX10_source_84 rfl 0 rfl ?_
          obtain ⟨v12, hv12, hf⟩ := zbind hf
          refine gf_RX10_21 C hv12 dX10_source_85 ?_
          refine z_bipush C (zi 13) dX10_source_88 (by decide) ?_
          refine z_iload_n C dX10_source_90 rfl 1 rfl ?_
          refine z_iadd C dX10_source_91 ?_
          obtain ⟨v13, hv13, hf⟩ := zbind hf
          refine z_aI C hv13 dX10_source_92 ?_
          cases hf
          exact hq _ _ dX10_source_93
  · rw [if_pos q14] at hf
    refine z_iconst C (zi 0) dX10_source_32 (by decide) ?_
    cases hf
    exact hq _ _ dX10_source_33

set_option maxRecDepth 100000 in
set_option maxHeartbeats 4000000 in
theorem wjX10_source_25 (C : zC p s m args meth c cX10_source RX10 3 D Ca B En) (hRm : zRm R 2 46 cells slots) (σ : zS) (x0 : Nat) (x1 : Int32) (x2 : Int32) (y0 : Nat) (τ : zS) (r : Int32) (hf : jX10_source_25 σ x0 x1 x2 y0 = some (τ, r)) (hq : ∀ (pc : Nat) (lv : List (Nat × Value)), decode cX10_source pc = .ok (.ireturn, 1) → zW p l e R s m args below meth c cells slots Q D Ca B 3 τ N pc lv [.int r]) : zW p l e R s m args below meth c cells slots Q D Ca B 3 σ N 25 [(0, .ref x0), (1, .int x1), (2, .int x2)] [.ref y0] := by
  unfold jX10_source_25 at hf
  refine z_iconst C (zi 0) dX10_source_25 (by decide) ?_
  refine z_sub [0, 1, 2] rfl ?_
  exact wjX10_source_26 C hRm _ _ _ _ _ _ _ _ hf hq

set_option maxRecDepth 100000 in
set_option maxHeartbeats 4000000 in
theorem wfX10_source (C : zC p s m args meth c cX10_source RX10 3 D Ca B En) (hRm : zRm R 2 46 cells slots) (σ : zS) (x0 : Nat) (x1 : Int32) (x2 : Int32) (τ : zS) (r : Int32) (hf : fX10_source σ x0 x1 x2 = some (τ, r)) (hq : ∀ (pc : Nat) (lv : List (Nat × Value)), decode cX10_source pc = .ok (.ireturn, 1) → zW p l e R s m args below meth c cells slots Q D Ca B 3 τ N pc lv [.int r]) : zW p l e R s m args below meth c cells slots Q D Ca B 3 σ N 0 [(0, .ref x0), (1, .int x1), (2, .int x2)] [] := by
  unfold fX10_source at hf
  refine z_aload_n C dX10_source_0 rfl 0 rfl ?_
  refine z_aload_n C dX10_source_1 rfl 0 rfl ?_
  refine z_iload_n C dX10_source_2 rfl 1 rfl ?_
  obtain ⟨c1, hc1, hf⟩ := zbind hf
  obtain ⟨kc1, hc1⟩ := zck_ok hc1
  refine z_callVi (As := [.int x1]) (F0 := 2) (L0 := 46) C (mX10_isSource l D Ca B En C.2.2.2.2.2.2.2.1 σ N x0 x1 _ hc1) hRm kc1 rfl kw_1632 kw_14 kw_1629 kw_1631 kp_83 hyX10_isSource (Nat.le_of_ble_eq_true rfl) (Nat.le_of_ble_eq_true rfl) rfl rfl (Nat.le_of_ble_eq_true rfl) dX10_source_3 ?_
  refine z_if_eq C 25 dX10_source_6 (by decide) (fun q17 => ?_) (fun q17 => ?_)
  · rw [if_pos q17] at hf
    refine z_sub [0, 1, 2] rfl ?_
    exact wjX10_source_25 C hRm _ _ _ _ _ _ _ hf hq
  · rw [if_neg q17] at hf
    refine z_iload_n C dX10_source_9 rfl 2 rfl ?_
    refine z_i2l C dX10_source_10 ?_
    refine z_lconst C 0 dX10_source_11 (by decide) ?_
    refine z_ldc2 C kw_1702 dX10_source_12 ?_
    obtain ⟨c15, hc15, hf⟩ := zbind hf
    refine z_callSi (As := [.long x2.toInt64, .long 0, .long 3]) (F0 := 2) (L0 := 46) C (mX10_isIn l D Ca B En C.2.2.2.2.2.2.2.1 c1.1 N x2.toInt64 0 3 _ hc15) hRm kw_1392 kw_14 kw_1390 kw_1391 hyX10_isIn (Nat.le_of_ble_eq_true rfl) (Nat.le_of_ble_eq_true rfl) rfl rfl (Nat.le_of_ble_eq_true rfl) dX10_source_15 ?_
    refine z_if_eq C 25 dX10_source_18 (by decide) (fun q16 => ?_) (fun q16 => ?_)
    · rw [if_pos q16] at hf
      refine z_sub [0, 1, 2] rfl ?_
      exact wjX10_source_25 C hRm _ _ _ _ _ _ _ hf hq
    · rw [if_neg q16] at hf
      refine z_iconst C (zi 1) dX10_source_21 (by decide) ?_
      refine z_goto C 26 dX10_source_22 (by decide) ?_
      refine z_sub [0, 1, 2] rfl ?_
      exact wjX10_source_26 C hRm _ _ _ _ _ _ _ _ hf hq

theorem mX10_source (l : Launch) (D : va_G) (Ca : Nat → ClassId) (B : Nat) (En : State → Prop) (hE : zEk B En) (σ : zS) (N : Nat) (x0 : Nat) (x1 : Int32) (x2 : Int32) (X : zS × Int32) (hf : fX10_source σ x0 x1 x2 = some X) : zMi l D Ca B En yX10_source cX10_source 3 (Option.some Jvm.ClassFile.FieldType.int) 2 46 [.ref x0, .int x1, .int x2] σ N X.1 X.2 :=
  zMet_i (own := RX10) hE (by decide +kernel) rfl (Nat.le_of_ble_eq_true rfl) (fun p e s m args below meth c C hr hRm => wfX10_source C hRm σ x0 x1 x2 X.1 X.2 hf (fun pc lv hd => zfin_i C hr hd))
theorem dX10_record_0 : decode cX10_record 0 = .ok (.aload_n 0, 1) := by decide +kernel
theorem dX10_record_1 : decode cX10_record 1 = .ok (.aload_n 0, 1) := by decide +kernel
theorem dX10_record_2 : decode cX10_record 2 = .ok (.iload_n 1, 1) := by decide +kernel
theorem dX10_record_3 : decode cX10_record 3 = .ok (.invokevirtual 289, 3) := by decide +kernel
theorem dX10_record_6 : decode cX10_record 6 = .ok (.ifCond .eq 17, 3) := by decide +kernel
theorem dX10_record_9 : decode cX10_record 9 = .ok (.iload_n 3, 1) := by decide +kernel
theorem dX10_record_10 : decode cX10_record 10 = .ok (.i2l, 1) := by decide +kernel
theorem dX10_record_11 : decode cX10_record 11 = .ok (.lconst 0, 1) := by decide +kernel
theorem dX10_record_12 : decode cX10_record 12 = .ok (.lconst 1, 1) := by decide +kernel
theorem dX10_record_13 : decode cX10_record 13 = .ok (.invokestatic 247, 3) := by decide +kernel
theorem dX10_record_16 : decode cX10_record 16 = .ok (.ifCond .eq 7, 3) := by decide +kernel
theorem dX10_record_19 : decode cX10_record 19 = .ok (.iconst 1, 1) := by decide +kernel
theorem dX10_record_20 : decode cX10_record 20 = .ok (.goto 4, 3) := by decide +kernel
theorem dX10_record_23 : decode cX10_record 23 = .ok (.iconst 0, 1) := by decide +kernel
theorem dX10_record_24 : decode cX10_record 24 = .ok (.invokevirtual 96, 3) := by decide +kernel
theorem dX10_record_27 : decode cX10_record 27 = .ok (.ifCond .eq 25, 3) := by decide +kernel
theorem dX10_record_30 : decode cX10_record 30 = .ok (.aload_n 0, 1) := by decide +kernel
theorem dX10_record_31 : decode cX10_record 31 = .ok (.iload_n 2, 1) := by decide +kernel
theorem dX10_record_32 : decode cX10_record 32 = .ok (.i2l, 1) := by decide +kernel
theorem dX10_record_33 : decode cX10_record 33 = .ok (.lconst 0, 1) := by decide +kernel
theorem dX10_record_34 : decode cX10_record 34 = .ok (.aload_n 0, 1) := by decide +kernel
theorem dX10_record_35 : decode cX10_record 35 = .ok (.getfield 7, 3) := by decide +kernel
theorem dX10_record_38 : decode cX10_record 38 = .ok (.iload_n 1, 1) := by decide +kernel
theorem dX10_record_39 : decode cX10_record 39 = .ok (.iaload, 1) := by decide +kernel
theorem dX10_record_40 : decode cX10_record 40 = .ok (.iconst 1, 1) := by decide +kernel
theorem dX10_record_41 : decode cX10_record 41 = .ok (.isub, 1) := by decide +kernel
theorem dX10_record_42 : decode cX10_record 42 = .ok (.i2l, 1) := by decide +kernel
theorem dX10_record_43 : decode cX10_record 43 = .ok (.invokestatic 247, 3) := by decide +kernel
theorem dX10_record_46 : decode cX10_record 46 = .ok (.invokevirtual 96, 3) := by decide +kernel
theorem dX10_record_49 : decode cX10_record 49 = .ok (.ifCond .ne 5, 3) := by decide +kernel
theorem dX10_record_52 : decode cX10_record 52 = .ok (.iconst 0, 1) := by decide +kernel
theorem dX10_record_53 : decode cX10_record 53 = .ok (.ireturn, 1) := by decide +kernel
theorem dX10_record_54 : decode cX10_record 54 = .ok (.iload_n 3, 1) := by decide +kernel
theorem dX10_record_55 : decode cX10_record 55 = .ok (.ifCond .ne 12, 3) := by decide +kernel
theorem dX10_record_58 : decode cX10_record 58 = .ok (.aload_n 0, 1) := by decide +kernel
theorem dX10_record_59 : decode cX10_record 59 = .ok (.iload_n 1, 1) := by decide +kernel
theorem dX10_record_60 : decode cX10_record 60 = .ok (.iload_n 2, 1) := by decide +kernel
theorem dX10_record_61 : decode cX10_record 61 = .ok (.invokevirtual 185, 3) := by decide +kernel
theorem dX10_record_64 : decode cX10_record 64 = .ok (.goto 9, 3) := by decide +kernel
theorem dX10_record_67 : decode cX10_record 67 = .ok (.aload_n 0, 1) := by decide +kernel
theorem dX10_record_68 : decode cX10_record 68 = .ok (.iload_n 1, 1) := by decide +kernel
theorem dX10_record_69 : decode cX10_record 69 = .ok (.iload_n 2, 1) := by decide +kernel
theorem dX10_record_70 : decode cX10_record 70 = .ok (.invokevirtual 209, 3) := by decide +kernel
theorem dX10_record_73 : decode cX10_record 73 = .ok (.ireturn, 1) := by decide +kernel
theorem hyX10_record : yX10_record.cls ≠ "java/lang/invoke/MethodHandle" ∧ yX10_record.cls ≠ "java/lang/invoke/VarHandle" ∧ (parseMethodDescriptor yX10_record.desc).map (fun d => d.parameters.length) = some 3 := ⟨by decide +kernel, by decide +kernel, by decide +kernel⟩
set_option maxRecDepth 100000 in
set_option maxHeartbeats 4000000 in
theorem wjX10_record_24 (C : zC p s m args meth c cX10_record RX10 4 D Ca B En) (hRm : zRm R 2 46 cells slots) (σ : zS) (x0 : Nat) (x1 : Int32) (x2 : Int32) (x3 : Int32) (y0 : Int32) (y1 : Nat) (τ : zS) (r : Int32) (hf : jX10_record_24 σ x0 x1 x2 x3 y0 y1 = some (τ, r)) (hq : ∀ (pc : Nat) (lv : List (Nat × Value)), decode cX10_record pc = .ok (.ireturn, 1) → zW p l e R s m args below meth c cells slots Q D Ca B 4 τ N pc lv [.int r]) : zW p l e R s m args below meth c cells slots Q D Ca B 4 σ N 24 [(0, .ref x0), (1, .int x1), (2, .int x2), (3, .int x3)] [.int y0, .ref y1] := by
  unfold jX10_record_24 at hf
  obtain ⟨c2, hc2, hf⟩ := zbind hf
  obtain ⟨kc2, hc2⟩ := zck_ok hc2
  refine z_callVi (As := [.int y0]) (F0 := 2) (L0 := 46) C (mX10_is l D Ca B En C.2.2.2.2.2.2.2.1 σ N y1 y0 _ hc2) hRm kc2 rfl kw_1373 kw_14 kw_1370 kw_1372 kp_37 hyX10_is (Nat.le_of_ble_eq_true rfl) (Nat.le_of_ble_eq_true rfl) rfl rfl (Nat.le_of_ble_eq_true rfl) dX10_record_24 ?_
  refine z_if_eq C 52 dX10_record_27 (by decide) (fun q11 => ?_) (fun q11 => ?_)
  · rw [if_pos q11] at hf
    refine z_iconst C (zi 0) dX10_record_52 (by decide) ?_
    cases hf
    exact hq _ _ dX10_record_53
  · rw [if_neg q11] at hf
    refine z_aload_n C dX10_record_30 rfl 0 rfl ?_
    refine z_iload_n C dX10_record_31 rfl 2 rfl ?_
    refine z_i2l C dX10_record_32 ?_
    refine z_lconst C 0 dX10_record_33 (by decide) ?_
    refine z_aload_n C dX10_record_34 rfl 0 rfl ?_
    obtain ⟨v3, hv3, hf⟩ := zbind hf
    refine gf_RX10_7 C hv3 dX10_record_35 ?_
    refine z_iload_n C dX10_record_38 rfl 1 rfl ?_
    obtain ⟨v4, hv4, hf⟩ := zbind hf
    refine z_aI C hv4 dX10_record_39 ?_
    refine z_iconst C (zi 1) dX10_record_40 (by decide) ?_
    refine z_isub C dX10_record_41 ?_
    refine z_i2l C dX10_record_42 ?_
    obtain ⟨c5, hc5, hf⟩ := zbind hf
    refine z_callSi (As := [.long x2.toInt64, .long 0, .long ((v4 - ((zi 1)) : Int32).toInt64)]) (F0 := 2) (L0 := 46) C (mX10_isIn l D Ca B En C.2.2.2.2.2.2.2.1 c2.1 N x2.toInt64 0 ((v4 - ((zi 1)) : Int32).toInt64) _ hc5) hRm kw_1392 kw_14 kw_1390 kw_1391 hyX10_isIn (Nat.le_of_ble_eq_true rfl) (Nat.le_of_ble_eq_true rfl) rfl rfl (Nat.le_of_ble_eq_true rfl) dX10_record_43 ?_
    obtain ⟨c6, hc6, hf⟩ := zbind hf
    obtain ⟨kc6, hc6⟩ := zck_ok hc6
    refine z_callVi (As := [.int c5.2]) (F0 := 2) (L0 := 46) C (mX10_is l D Ca B En C.2.2.2.2.2.2.2.1 c5.1 N x0 c5.2 _ hc6) hRm kc6 rfl kw_1373 kw_14 kw_1370 kw_1372 kp_37 hyX10_is (Nat.le_of_ble_eq_true rfl) (Nat.le_of_ble_eq_true rfl) rfl rfl (Nat.le_of_ble_eq_true rfl) dX10_record_46 ?_
    refine z_if_ne C 54 dX10_record_49 (by decide) (fun q10 => ?_) (fun q10 => ?_)
    · rw [if_neg q10] at hf
      refine z_iload_n C dX10_record_54 rfl 3 rfl ?_
      refine z_if_ne C 67 dX10_record_55 (by decide) (fun q9 => ?_) (fun q9 => ?_)
      · rw [if_neg q9] at hf
        refine z_aload_n C dX10_record_67 rfl 0 rfl ?_
        refine z_iload_n C dX10_record_68 rfl 1 rfl ?_
        refine z_iload_n C dX10_record_69 rfl 2 rfl ?_
        obtain ⟨c7, hc7, hf⟩ := zbind hf
        obtain ⟨kc7, hc7⟩ := zck_ok hc7
        refine z_callVi (As := [.int x1, .int x2]) (F0 := 2) (L0 := 46) C (mX10_valueOf l D Ca B En C.2.2.2.2.2.2.2.1 c6.1 N x0 x1 x2 _ hc7) hRm kc7 rfl kw_1528 kw_14 kw_1525 kw_1527 kp_65 hyX10_valueOf (Nat.le_of_ble_eq_true rfl) (Nat.le_of_ble_eq_true rfl) rfl rfl (Nat.le_of_ble_eq_true rfl) dX10_record_70 ?_
        cases hf
        exact hq _ _ dX10_record_73
      · rw [if_pos q9] at hf
        refine z_aload_n C dX10_record_58 rfl 0 rfl ?_
        refine z_iload_n C dX10_record_59 rfl 1 rfl ?_
        refine z_iload_n C dX10_record_60 rfl 2 rfl ?_
        obtain ⟨c8, hc8, hf⟩ := zbind hf
        obtain ⟨kc8, hc8⟩ := zck_ok hc8
        refine z_callVi (As := [.int x1, .int x2]) (F0 := 2) (L0 := 46) C (mX10_keyOf l D Ca B En C.2.2.2.2.2.2.2.1 c6.1 N x0 x1 x2 _ hc8) hRm kc8 rfl kw_1454 kw_14 kw_1451 kw_1453 kp_48 hyX10_keyOf (Nat.le_of_ble_eq_true rfl) (Nat.le_of_ble_eq_true rfl) rfl rfl (Nat.le_of_ble_eq_true rfl) dX10_record_61 ?_
        refine z_goto C 73 dX10_record_64 (by decide) ?_
        cases hf
        exact hq _ _ dX10_record_73
    · rw [if_pos q10] at hf
      refine z_iconst C (zi 0) dX10_record_52 (by decide) ?_
      cases hf
      exact hq _ _ dX10_record_53

set_option maxRecDepth 100000 in
set_option maxHeartbeats 4000000 in
theorem wjX10_record_23 (C : zC p s m args meth c cX10_record RX10 4 D Ca B En) (hRm : zRm R 2 46 cells slots) (σ : zS) (x0 : Nat) (x1 : Int32) (x2 : Int32) (x3 : Int32) (y0 : Nat) (τ : zS) (r : Int32) (hf : jX10_record_23 σ x0 x1 x2 x3 y0 = some (τ, r)) (hq : ∀ (pc : Nat) (lv : List (Nat × Value)), decode cX10_record pc = .ok (.ireturn, 1) → zW p l e R s m args below meth c cells slots Q D Ca B 4 τ N pc lv [.int r]) : zW p l e R s m args below meth c cells slots Q D Ca B 4 σ N 23 [(0, .ref x0), (1, .int x1), (2, .int x2), (3, .int x3)] [.ref y0] := by
  unfold jX10_record_23 at hf
  refine z_iconst C (zi 0) dX10_record_23 (by decide) ?_
  refine z_sub [0, 1, 2, 3] rfl ?_
  exact wjX10_record_24 C hRm _ _ _ _ _ _ _ _ _ hf hq

set_option maxRecDepth 100000 in
set_option maxHeartbeats 4000000 in
theorem wfX10_record (C : zC p s m args meth c cX10_record RX10 4 D Ca B En) (hRm : zRm R 2 46 cells slots) (σ : zS) (x0 : Nat) (x1 : Int32) (x2 : Int32) (x3 : Int32) (τ : zS) (r : Int32) (hf : fX10_record σ x0 x1 x2 x3 = some (τ, r)) (hq : ∀ (pc : Nat) (lv : List (Nat × Value)), decode cX10_record pc = .ok (.ireturn, 1) → zW p l e R s m args below meth c cells slots Q D Ca B 4 τ N pc lv [.int r]) : zW p l e R s m args below meth c cells slots Q D Ca B 4 σ N 0 [(0, .ref x0), (1, .int x1), (2, .int x2), (3, .int x3)] [] := by
  unfold fX10_record at hf
  refine z_aload_n C dX10_record_0 rfl 0 rfl ?_
  refine z_aload_n C dX10_record_1 rfl 0 rfl ?_
  refine z_iload_n C dX10_record_2 rfl 1 rfl ?_
  obtain ⟨c1, hc1, hf⟩ := zbind hf
  obtain ⟨kc1, hc1⟩ := zck_ok hc1
  refine z_callVi (As := [.int x1]) (F0 := 2) (L0 := 46) C (mX10_isSource l D Ca B En C.2.2.2.2.2.2.2.1 σ N x0 x1 _ hc1) hRm kc1 rfl kw_1632 kw_14 kw_1629 kw_1631 kp_83 hyX10_isSource (Nat.le_of_ble_eq_true rfl) (Nat.le_of_ble_eq_true rfl) rfl rfl (Nat.le_of_ble_eq_true rfl) dX10_record_3 ?_
  refine z_if_eq C 23 dX10_record_6 (by decide) (fun q14 => ?_) (fun q14 => ?_)
  · rw [if_pos q14] at hf
    refine z_sub [0, 1, 2, 3] rfl ?_
    exact wjX10_record_23 C hRm _ _ _ _ _ _ _ _ hf hq
  · rw [if_neg q14] at hf
    refine z_iload_n C dX10_record_9 rfl 3 rfl ?_
    refine z_i2l C dX10_record_10 ?_
    refine z_lconst C 0 dX10_record_11 (by decide) ?_
    refine z_lconst C 1 dX10_record_12 (by decide) ?_
    obtain ⟨c12, hc12, hf⟩ := zbind hf
    refine z_callSi (As := [.long x3.toInt64, .long 0, .long 1]) (F0 := 2) (L0 := 46) C (mX10_isIn l D Ca B En C.2.2.2.2.2.2.2.1 c1.1 N x3.toInt64 0 1 _ hc12) hRm kw_1392 kw_14 kw_1390 kw_1391 hyX10_isIn (Nat.le_of_ble_eq_true rfl) (Nat.le_of_ble_eq_true rfl) rfl rfl (Nat.le_of_ble_eq_true rfl) dX10_record_13 ?_
    refine z_if_eq C 23 dX10_record_16 (by decide) (fun q13 => ?_) (fun q13 => ?_)
    · rw [if_pos q13] at hf
      refine z_sub [0, 1, 2, 3] rfl ?_
      exact wjX10_record_23 C hRm _ _ _ _ _ _ _ _ hf hq
    · rw [if_neg q13] at hf
      refine z_iconst C (zi 1) dX10_record_19 (by decide) ?_
      refine z_goto C 24 dX10_record_20 (by decide) ?_
      refine z_sub [0, 1, 2, 3] rfl ?_
      exact wjX10_record_24 C hRm _ _ _ _ _ _ _ _ _ hf hq

theorem mX10_record (l : Launch) (D : va_G) (Ca : Nat → ClassId) (B : Nat) (En : State → Prop) (hE : zEk B En) (σ : zS) (N : Nat) (x0 : Nat) (x1 : Int32) (x2 : Int32) (x3 : Int32) (X : zS × Int32) (hf : fX10_record σ x0 x1 x2 x3 = some X) : zMi l D Ca B En yX10_record cX10_record 4 (Option.some Jvm.ClassFile.FieldType.int) 2 46 [.ref x0, .int x1, .int x2, .int x3] σ N X.1 X.2 :=
  zMet_i (own := RX10) hE (by decide +kernel) rfl (Nat.le_of_ble_eq_true rfl) (fun p e s m args below meth c C hr hRm => wfX10_record C hRm σ x0 x1 x2 x3 X.1 X.2 hf (fun pc lv hd => zfin_i C hr hd))
theorem dX10_owner_0 : decode cX10_owner 0 = .ok (.aload_n 0, 1) := by decide +kernel
theorem dX10_owner_1 : decode cX10_owner 1 = .ok (.iload_n 1, 1) := by decide +kernel
theorem dX10_owner_2 : decode cX10_owner 2 = .ok (.invokestatic 326, 3) := by decide +kernel
theorem dX10_owner_5 : decode cX10_owner 5 = .ok (.invokevirtual 96, 3) := by decide +kernel
theorem dX10_owner_8 : decode cX10_owner 8 = .ok (.ifCond .eq 11, 3) := by decide +kernel
theorem dX10_owner_11 : decode cX10_owner 11 = .ok (.aload_n 0, 1) := by decide +kernel
theorem dX10_owner_12 : decode cX10_owner 12 = .ok (.iload_n 1, 1) := by decide +kernel
theorem dX10_owner_13 : decode cX10_owner 13 = .ok (.invokevirtual 149, 3) := by decide +kernel
theorem dX10_owner_16 : decode cX10_owner 16 = .ok (.goto 4, 3) := by decide +kernel
theorem dX10_owner_19 : decode cX10_owner 19 = .ok (.iconst 0, 1) := by decide +kernel
theorem dX10_owner_20 : decode cX10_owner 20 = .ok (.ireturn, 1) := by decide +kernel
theorem hyX10_owner : yX10_owner.cls ≠ "java/lang/invoke/MethodHandle" ∧ yX10_owner.cls ≠ "java/lang/invoke/VarHandle" ∧ (parseMethodDescriptor yX10_owner.desc).map (fun d => d.parameters.length) = some 1 := ⟨by decide +kernel, by decide +kernel, by decide +kernel⟩
set_option maxRecDepth 100000 in
set_option maxHeartbeats 4000000 in
theorem wfX10_owner (C : zC p s m args meth c cX10_owner RX10 2 D Ca B En) (hRm : zRm R 2 45 cells slots) (σ : zS) (x0 : Nat) (x1 : Int32) (τ : zS) (r : Int32) (hf : fX10_owner σ x0 x1 = some (τ, r)) (hq : ∀ (pc : Nat) (lv : List (Nat × Value)), decode cX10_owner pc = .ok (.ireturn, 1) → zW p l e R s m args below meth c cells slots Q D Ca B 2 τ N pc lv [.int r]) : zW p l e R s m args below meth c cells slots Q D Ca B 2 σ N 0 [(0, .ref x0), (1, .int x1)] [] := by
  unfold fX10_owner at hf
  refine z_aload_n C dX10_owner_0 rfl 0 rfl ?_
  refine z_iload_n C dX10_owner_1 rfl 1 rfl ?_
  obtain ⟨c1, hc1, hf⟩ := zbind hf
  refine z_callSi (As := [.int x1]) (F0 := 2) (L0 := 45) C (mX10_isKey l D Ca B En C.2.2.2.2.2.2.2.1 σ N x1 _ hc1) hRm kw_1713 kw_14 kw_1711 kw_1712 hyX10_isKey (Nat.le_of_ble_eq_true rfl) (Nat.le_of_ble_eq_true rfl) rfl rfl (Nat.le_of_ble_eq_true rfl) dX10_owner_2 ?_
  obtain ⟨c2, hc2, hf⟩ := zbind hf
  obtain ⟨kc2, hc2⟩ := zck_ok hc2
  refine z_callVi (As := [.int c1.2]) (F0 := 2) (L0 := 45) C (mX10_is l D Ca B En C.2.2.2.2.2.2.2.1 c1.1 N x0 c1.2 _ hc2) hRm kc2 rfl kw_1373 kw_14 kw_1370 kw_1372 kp_37 hyX10_is (Nat.le_of_ble_eq_true rfl) (Nat.le_of_ble_eq_true rfl) rfl rfl (Nat.le_of_ble_eq_true rfl) dX10_owner_5 ?_
  refine z_if_eq C 19 dX10_owner_8 (by decide) (fun q4 => ?_) (fun q4 => ?_)
  · rw [if_pos q4] at hf
    refine z_iconst C (zi 0) dX10_owner_19 (by decide) ?_
    cases hf
    exact hq _ _ dX10_owner_20
  · rw [if_neg q4] at hf
    refine z_aload_n C dX10_owner_11 rfl 0 rfl ?_
    refine z_iload_n C dX10_owner_12 rfl 1 rfl ?_
    obtain ⟨c3, hc3, hf⟩ := zbind hf
    obtain ⟨kc3, hc3⟩ := zck_ok hc3
    refine z_callVi (As := [.int x1]) (F0 := 2) (L0 := 45) C (mX10_ownerOf l D Ca B En C.2.2.2.2.2.2.2.1 c2.1 N x0 x1 _ hc3) hRm kc3 rfl kw_1458 kw_14 kw_1455 kw_1457 kp_49 hyX10_ownerOf (Nat.le_of_ble_eq_true rfl) (Nat.le_of_ble_eq_true rfl) rfl rfl (Nat.le_of_ble_eq_true rfl) dX10_owner_13 ?_
    refine z_goto C 20 dX10_owner_16 (by decide) ?_
    cases hf
    exact hq _ _ dX10_owner_20

theorem mX10_owner (l : Launch) (D : va_G) (Ca : Nat → ClassId) (B : Nat) (En : State → Prop) (hE : zEk B En) (σ : zS) (N : Nat) (x0 : Nat) (x1 : Int32) (X : zS × Int32) (hf : fX10_owner σ x0 x1 = some X) : zMi l D Ca B En yX10_owner cX10_owner 2 (Option.some Jvm.ClassFile.FieldType.int) 2 45 [.ref x0, .int x1] σ N X.1 X.2 :=
  zMet_i (own := RX10) hE (by decide +kernel) rfl (Nat.le_of_ble_eq_true rfl) (fun p e s m args below meth c C hr hRm => wfX10_owner C hRm σ x0 x1 X.1 X.2 hf (fun pc lv hd => zfin_i C hr hd))
theorem dX10_sum_0 : decode cX10_sum 0 = .ok (.aload_n 0, 1) := by decide +kernel
theorem dX10_sum_1 : decode cX10_sum 1 = .ok (.iload_n 1, 1) := by decide +kernel
theorem dX10_sum_2 : decode cX10_sum 2 = .ok (.invokestatic 326, 3) := by decide +kernel
theorem dX10_sum_5 : decode cX10_sum 5 = .ok (.invokevirtual 96, 3) := by decide +kernel
theorem dX10_sum_8 : decode cX10_sum 8 = .ok (.ifCond .eq 15, 3) := by decide +kernel
theorem dX10_sum_11 : decode cX10_sum 11 = .ok (.aload_n 0, 1) := by decide +kernel
theorem dX10_sum_12 : decode cX10_sum 12 = .ok (.getfield 21, 3) := by decide +kernel
theorem dX10_sum_15 : decode cX10_sum 15 = .ok (.bipush 17, 2) := by decide +kernel
theorem dX10_sum_17 : decode cX10_sum 17 = .ok (.iload_n 1, 1) := by decide +kernel
theorem dX10_sum_18 : decode cX10_sum 18 = .ok (.iadd, 1) := by decide +kernel
theorem dX10_sum_19 : decode cX10_sum 19 = .ok (.iaload, 1) := by decide +kernel
theorem dX10_sum_20 : decode cX10_sum 20 = .ok (.goto 4, 3) := by decide +kernel
theorem dX10_sum_23 : decode cX10_sum 23 = .ok (.iconst 0, 1) := by decide +kernel
theorem dX10_sum_24 : decode cX10_sum 24 = .ok (.ireturn, 1) := by decide +kernel
theorem hyX10_sum : yX10_sum.cls ≠ "java/lang/invoke/MethodHandle" ∧ yX10_sum.cls ≠ "java/lang/invoke/VarHandle" ∧ (parseMethodDescriptor yX10_sum.desc).map (fun d => d.parameters.length) = some 1 := ⟨by decide +kernel, by decide +kernel, by decide +kernel⟩
set_option maxRecDepth 100000 in
set_option maxHeartbeats 4000000 in
theorem wfX10_sum (C : zC p s m args meth c cX10_sum RX10 2 D Ca B En) (hRm : zRm R 2 45 cells slots) (σ : zS) (x0 : Nat) (x1 : Int32) (τ : zS) (r : Int32) (hf : fX10_sum σ x0 x1 = some (τ, r)) (hq : ∀ (pc : Nat) (lv : List (Nat × Value)), decode cX10_sum pc = .ok (.ireturn, 1) → zW p l e R s m args below meth c cells slots Q D Ca B 2 τ N pc lv [.int r]) : zW p l e R s m args below meth c cells slots Q D Ca B 2 σ N 0 [(0, .ref x0), (1, .int x1)] [] := by
  unfold fX10_sum at hf
  refine z_aload_n C dX10_sum_0 rfl 0 rfl ?_
  refine z_iload_n C dX10_sum_1 rfl 1 rfl ?_
  obtain ⟨c1, hc1, hf⟩ := zbind hf
  refine z_callSi (As := [.int x1]) (F0 := 2) (L0 := 45) C (mX10_isKey l D Ca B En C.2.2.2.2.2.2.2.1 σ N x1 _ hc1) hRm kw_1713 kw_14 kw_1711 kw_1712 hyX10_isKey (Nat.le_of_ble_eq_true rfl) (Nat.le_of_ble_eq_true rfl) rfl rfl (Nat.le_of_ble_eq_true rfl) dX10_sum_2 ?_
  obtain ⟨c2, hc2, hf⟩ := zbind hf
  obtain ⟨kc2, hc2⟩ := zck_ok hc2
  refine z_callVi (As := [.int c1.2]) (F0 := 2) (L0 := 45) C (mX10_is l D Ca B En C.2.2.2.2.2.2.2.1 c1.1 N x0 c1.2 _ hc2) hRm kc2 rfl kw_1373 kw_14 kw_1370 kw_1372 kp_37 hyX10_is (Nat.le_of_ble_eq_true rfl) (Nat.le_of_ble_eq_true rfl) rfl rfl (Nat.le_of_ble_eq_true rfl) dX10_sum_5 ?_
  refine z_if_eq C 23 dX10_sum_8 (by decide) (fun q5 => ?_) (fun q5 => ?_)
  · rw [if_pos q5] at hf
    refine z_iconst C (zi 0) dX10_sum_23 (by decide) ?_
    cases hf
    exact hq _ _ dX10_sum_24
  · rw [if_neg q5] at hf
    refine z_aload_n C dX10_sum_11 rfl 0 rfl ?_
    obtain ⟨v3, hv3, hf⟩ := zbind hf
    refine gf_RX10_21 C hv3 dX10_sum_12 ?_
    refine z_bipush C (zi 17) dX10_sum_15 (by decide) ?_
    refine z_iload_n C dX10_sum_17 rfl 1 rfl ?_
    refine z_iadd C dX10_sum_18 ?_
    obtain ⟨v4, hv4, hf⟩ := zbind hf
    refine z_aI C hv4 dX10_sum_19 ?_
    refine z_goto C 24 dX10_sum_20 (by decide) ?_
    cases hf
    exact hq _ _ dX10_sum_24

theorem mX10_sum (l : Launch) (D : va_G) (Ca : Nat → ClassId) (B : Nat) (En : State → Prop) (hE : zEk B En) (σ : zS) (N : Nat) (x0 : Nat) (x1 : Int32) (X : zS × Int32) (hf : fX10_sum σ x0 x1 = some X) : zMi l D Ca B En yX10_sum cX10_sum 2 (Option.some Jvm.ClassFile.FieldType.int) 2 45 [.ref x0, .int x1] σ N X.1 X.2 :=
  zMet_i (own := RX10) hE (by decide +kernel) rfl (Nat.le_of_ble_eq_true rfl) (fun p e s m args below meth c C hr hRm => wfX10_sum C hRm σ x0 x1 X.1 X.2 hf (fun pc lv hd => zfin_i C hr hd))
theorem dX10_groupsOf_0 : decode cX10_groupsOf 0 = .ok (.iconst 0, 1) := by decide +kernel
theorem dX10_groupsOf_1 : decode cX10_groupsOf 1 = .ok (.istore_n 2, 1) := by decide +kernel
theorem dX10_groupsOf_2 : decode cX10_groupsOf 2 = .ok (.iconst 0, 1) := by decide +kernel
theorem dX10_groupsOf_3 : decode cX10_groupsOf 3 = .ok (.istore_n 3, 1) := by decide +kernel
theorem dX10_groupsOf_4 : decode cX10_groupsOf 4 = .ok (.iload_n 3, 1) := by decide +kernel
theorem dX10_groupsOf_5 : decode cX10_groupsOf 5 = .ok (.bipush 8, 2) := by decide +kernel
theorem dX10_groupsOf_7 : decode cX10_groupsOf 7 = .ok (.if_icmp .ge 27, 3) := by decide +kernel
theorem dX10_groupsOf_10 : decode cX10_groupsOf 10 = .ok (.iload_n 3, 1) := by decide +kernel
theorem dX10_groupsOf_11 : decode cX10_groupsOf 11 = .ok (.aload_n 0, 1) := by decide +kernel
theorem dX10_groupsOf_12 : decode cX10_groupsOf 12 = .ok (.getfield 21, 3) := by decide +kernel
theorem dX10_groupsOf_15 : decode cX10_groupsOf 15 = .ok (.iconst 1, 1) := by decide +kernel
theorem dX10_groupsOf_16 : decode cX10_groupsOf 16 = .ok (.iaload, 1) := by decide +kernel
theorem dX10_groupsOf_17 : decode cX10_groupsOf 17 = .ok (.invokestatic 128, 3) := by decide +kernel
theorem dX10_groupsOf_20 : decode cX10_groupsOf 20 = .ok (.iload_n 1, 1) := by decide +kernel
theorem dX10_groupsOf_21 : decode cX10_groupsOf 21 = .ok (.if_icmp .ne 7, 3) := by decide +kernel
theorem dX10_groupsOf_24 : decode cX10_groupsOf 24 = .ok (.iload_n 2, 1) := by decide +kernel
theorem dX10_groupsOf_25 : decode cX10_groupsOf 25 = .ok (.iconst 1, 1) := by decide +kernel
theorem dX10_groupsOf_26 : decode cX10_groupsOf 26 = .ok (.iadd, 1) := by decide +kernel
theorem dX10_groupsOf_27 : decode cX10_groupsOf 27 = .ok (.istore_n 2, 1) := by decide +kernel
theorem dX10_groupsOf_28 : decode cX10_groupsOf 28 = .ok (.iinc 3 1, 3) := by decide +kernel
theorem dX10_groupsOf_31 : decode cX10_groupsOf 31 = .ok (.goto (-27), 3) := by decide +kernel
theorem dX10_groupsOf_34 : decode cX10_groupsOf 34 = .ok (.iload_n 2, 1) := by decide +kernel
theorem dX10_groupsOf_35 : decode cX10_groupsOf 35 = .ok (.ireturn, 1) := by decide +kernel
theorem hyX10_groupsOf : yX10_groupsOf.cls ≠ "java/lang/invoke/MethodHandle" ∧ yX10_groupsOf.cls ≠ "java/lang/invoke/VarHandle" ∧ (parseMethodDescriptor yX10_groupsOf.desc).map (fun d => d.parameters.length) = some 1 := ⟨by decide +kernel, by decide +kernel, by decide +kernel⟩
set_option maxRecDepth 100000 in
set_option maxHeartbeats 4000000 in
theorem wjX10_groupsOf_28_L4 (C : zC p s m args meth c cX10_groupsOf RX10 4 D Ca B En) (hRm : zRm R 1 21 cells slots) (σ : zS) (x0 : Nat) (x1 : Int32) (x2 : Int32) (x3 : Int32)  (y : (zS × Int32 × Int32) ⊕ (zS × Int32)) (hf : jX10_groupsOf_28_L4 σ x0 x1 x2 x3  = some y) (hk : (∀ z : (zS × Int32 × Int32), y = .inl z → zW p l e R s m args below meth c cells slots Q D Ca B 4 z.1 N 4 [(0, .ref x0), (1, .int x1), (2, .int z.2.1), (3, .int z.2.2)] []) ∧ (∀ z : (zS × Int32), y = .inr z → zW p l e R s m args below meth c cells slots Q D Ca B 4 z.1 N 34 [(2, .int z.2)] [])) : zW p l e R s m args below meth c cells slots Q D Ca B 4 σ N 28 [(0, .ref x0), (1, .int x1), (2, .int x2), (3, .int x3)] [] := by
  unfold jX10_groupsOf_28_L4 at hf
  refine z_iinc (lv2 := [(3, .int (x3 + (zi 1))), (0, .ref x0), (1, .int x1), (2, .int x2)]) C (x3 + (zi 1)) dX10_groupsOf_28 3 rfl rfl (by decide) rfl ?_
  refine z_goto C 4 dX10_groupsOf_31 (by decide) ?_
  cases hf
  refine z_sub [1, 2, 3, 0] rfl ?_
  exact hk.1 _ rfl

set_option maxRecDepth 100000 in
set_option maxHeartbeats 4000000 in
theorem wsX10_groupsOf_4b (C : zC p s m args meth c cX10_groupsOf RX10 4 D Ca B En) (hRm : zRm R 1 21 cells slots) (x0 : Nat) (x1 : Int32) (σ : zS) (u2 : Int32) (u3 : Int32) (y : (zS × Int32 × Int32) ⊕ (zS × Int32)) (hf : sX10_groupsOf_4b x0 x1 σ u2 u3 = some y) (hk : (∀ z : (zS × Int32 × Int32), y = .inl z → zW p l e R s m args below meth c cells slots Q D Ca B 4 z.1 N 4 [(0, .ref x0), (1, .int x1), (2, .int z.2.1), (3, .int z.2.2)] []) ∧ (∀ z : (zS × Int32), y = .inr z → zW p l e R s m args below meth c cells slots Q D Ca B 4 z.1 N 34 [(2, .int z.2)] [])) : zW p l e R s m args below meth c cells slots Q D Ca B 4 σ N 4 [(0, .ref x0), (1, .int x1), (2, .int u2), (3, .int u3)] [] := by
  unfold sX10_groupsOf_4b at hf
  refine z_iload_n C dX10_groupsOf_4 rfl 3 rfl ?_
  refine z_bipush C (zi 8) dX10_groupsOf_5 (by decide) ?_
  refine z_icmp_ge C 34 dX10_groupsOf_7 (by decide) (fun q5 => ?_) (fun q5 => ?_)
  · rw [if_pos q5] at hf
    cases hf
    refine z_sub [2] rfl ?_
    exact hk.2 _ rfl
  · rw [if_neg q5] at hf
    refine z_iload_n C dX10_groupsOf_10 rfl 3 rfl ?_
    refine z_aload_n C dX10_groupsOf_11 rfl 0 rfl ?_
    obtain ⟨v1, hv1, hf⟩ := zbind hf
    refine gf_RX10_21 C hv1 dX10_groupsOf_12 ?_
    refine z_iconst C (zi 1) dX10_groupsOf_15 (by decide) ?_
    obtain ⟨v2, hv2, hf⟩ := zbind hf
    refine z_aI C hv2 dX10_groupsOf_16 ?_
    obtain ⟨c3, hc3, hf⟩ := zbind hf
    refine z_callSi (As := [.int u3, .int v2]) (F0 := 1) (L0 := 21) C (mX10_ownerAmong l D Ca B En C.2.2.2.2.2.2.2.1 σ N u3 v2 _ hc3) hRm kw_1461 kw_14 kw_1459 kw_1460 hyX10_ownerAmong (Nat.le_of_ble_eq_true rfl) (Nat.le_of_ble_eq_true rfl) rfl rfl (Nat.le_of_ble_eq_true rfl) dX10_groupsOf_17 ?_
    refine z_iload_n C dX10_groupsOf_20 rfl 1 rfl ?_
    refine z_icmp_ne C 28 dX10_groupsOf_21 (by decide) (fun q4 => ?_) (fun q4 => ?_)
    · rw [if_neg q4] at hf
      refine z_sub [0, 1, 2, 3] rfl ?_
      exact wjX10_groupsOf_28_L4 C hRm _ _ _ _ _  _ hf hk
    · rw [if_pos q4] at hf
      refine z_iload_n C dX10_groupsOf_24 rfl 2 rfl ?_
      refine z_iconst C (zi 1) dX10_groupsOf_25 (by decide) ?_
      refine z_iadd C dX10_groupsOf_26 ?_
      refine z_istore_n (lv2 := [(2, .int (u2 + ((zi 1)))), (0, .ref x0), (1, .int x1), (3, .int u3)]) C dX10_groupsOf_27 rfl (by decide) rfl ?_
      refine z_sub [1, 2, 0, 3] rfl ?_
      exact wjX10_groupsOf_28_L4 C hRm _ _ _ _ _  _ hf hk

theorem wsX10_groupsOf_4 (C : zC p s m args meth c cX10_groupsOf RX10 4 D Ca B En) (hRm : zRm R 1 21 cells slots) (x0 : Nat) (x1 : Int32) (n : Nat) (z : (zS × Int32 × Int32)) (x : (zS × Int32)) (hf : zloop (sX10_groupsOf_4 x0 x1) n z = some x) (hk : (∀ o : (zS × Int32), x = o → zW p l e R s m args below meth c cells slots Q D Ca B 4 o.1 N 34 [(2, .int o.2)] [])) : zW p l e R s m args below meth c cells slots Q D Ca B 4 z.1 N 4 [(0, .ref x0), (1, .int x1), (2, .int z.2.1), (3, .int z.2.2)] [] := by
  refine zloop_W (P := fun z : (zS × Int32 × Int32) => zW p l e R s m args below meth c cells slots Q D Ca B 4 z.1 N 4 [(0, .ref x0), (1, .int x1), (2, .int z.2.1), (3, .int z.2.2)] []) (K := fun x : (zS × Int32) => (∀ o : (zS × Int32), x = o → zW p l e R s m args below meth c cells slots Q D Ca B 4 o.1 N 34 [(2, .int o.2)] [])) ?_ n z x hf hk
  intro z y hy h1 h2
  refine wsX10_groupsOf_4b C hRm x0 x1 z.1 z.2.1 z.2.2 y hy ⟨fun z2 e => h1 z2 e, fun o e => (h2 _ e) o rfl⟩
set_option maxRecDepth 100000 in
set_option maxHeartbeats 4000000 in
theorem wfX10_groupsOf (C : zC p s m args meth c cX10_groupsOf RX10 4 D Ca B En) (hRm : zRm R 1 21 cells slots) (σ : zS) (x0 : Nat) (x1 : Int32) (τ : zS) (r : Int32) (hf : fX10_groupsOf σ x0 x1 = some (τ, r)) (hq : ∀ (pc : Nat) (lv : List (Nat × Value)), decode cX10_groupsOf pc = .ok (.ireturn, 1) → zW p l e R s m args below meth c cells slots Q D Ca B 4 τ N pc lv [.int r]) : zW p l e R s m args below meth c cells slots Q D Ca B 4 σ N 0 [(0, .ref x0), (1, .int x1)] [] := by
  unfold fX10_groupsOf at hf
  refine z_iconst C (zi 0) dX10_groupsOf_0 (by decide) ?_
  refine z_istore_n (lv2 := [(2, .int ((zi 0))), (0, .ref x0), (1, .int x1)]) C dX10_groupsOf_1 rfl (by decide) rfl ?_
  refine z_iconst C (zi 0) dX10_groupsOf_2 (by decide) ?_
  refine z_istore_n (lv2 := [(3, .int ((zi 0))), (2, .int ((zi 0))), (0, .ref x0), (1, .int x1)]) C dX10_groupsOf_3 rfl (by decide) rfl ?_
  obtain ⟨o6, ho6, hf⟩ := zbind hf
  refine z_sub [2, 3, 1, 0] rfl ?_
  refine wsX10_groupsOf_4 C hRm _ _ zfuel (σ, (zi 0), (zi 0)) o6 ho6 ?_
  intro z9 e9
  subst e9
  refine z_iload_n C dX10_groupsOf_34 rfl 0 rfl ?_
  cases hf
  exact hq _ _ dX10_groupsOf_35

theorem mX10_groupsOf (l : Launch) (D : va_G) (Ca : Nat → ClassId) (B : Nat) (En : State → Prop) (hE : zEk B En) (σ : zS) (N : Nat) (x0 : Nat) (x1 : Int32) (X : zS × Int32) (hf : fX10_groupsOf σ x0 x1 = some X) : zMi l D Ca B En yX10_groupsOf cX10_groupsOf 4 (Option.some Jvm.ClassFile.FieldType.int) 1 21 [.ref x0, .int x1] σ N X.1 X.2 :=
  zMet_i (own := RX10) hE (by decide +kernel) rfl (Nat.le_of_ble_eq_true rfl) (fun p e s m args below meth c C hr hRm => wfX10_groupsOf C hRm σ x0 x1 X.1 X.2 hf (fun pc lv hd => zfin_i C hr hd))
theorem dX10_blockedOf_0 : decode cX10_blockedOf 0 = .ok (.iconst 0, 1) := by decide +kernel
theorem dX10_blockedOf_1 : decode cX10_blockedOf 1 = .ok (.istore_n 2, 1) := by decide +kernel
theorem dX10_blockedOf_2 : decode cX10_blockedOf 2 = .ok (.iconst 0, 1) := by decide +kernel
theorem dX10_blockedOf_3 : decode cX10_blockedOf 3 = .ok (.istore_n 3, 1) := by decide +kernel
theorem dX10_blockedOf_4 : decode cX10_blockedOf 4 = .ok (.iload_n 3, 1) := by decide +kernel
theorem dX10_blockedOf_5 : decode cX10_blockedOf 5 = .ok (.aload_n 0, 1) := by decide +kernel
theorem dX10_blockedOf_6 : decode cX10_blockedOf 6 = .ok (.getfield 75, 3) := by decide +kernel
theorem dX10_blockedOf_9 : decode cX10_blockedOf 9 = .ok (.if_icmp .ge 32, 3) := by decide +kernel
theorem dX10_blockedOf_12 : decode cX10_blockedOf 12 = .ok (.aload_n 0, 1) := by decide +kernel
theorem dX10_blockedOf_13 : decode cX10_blockedOf 13 = .ok (.getfield 21, 3) := by decide +kernel
theorem dX10_blockedOf_16 : decode cX10_blockedOf 16 = .ok (.bipush 43, 2) := by decide +kernel
theorem dX10_blockedOf_18 : decode cX10_blockedOf 18 = .ok (.iload_n 3, 1) := by decide +kernel
theorem dX10_blockedOf_19 : decode cX10_blockedOf 19 = .ok (.iload_n 1, 1) := by decide +kernel
theorem dX10_blockedOf_20 : decode cX10_blockedOf 20 = .ok (.invokestatic 122, 3) := by decide +kernel
theorem dX10_blockedOf_23 : decode cX10_blockedOf 23 = .ok (.iadd, 1) := by decide +kernel
theorem dX10_blockedOf_24 : decode cX10_blockedOf 24 = .ok (.iaload, 1) := by decide +kernel
theorem dX10_blockedOf_25 : decode cX10_blockedOf 25 = .ok (.iconst 1, 1) := by decide +kernel
theorem dX10_blockedOf_26 : decode cX10_blockedOf 26 = .ok (.if_icmp .ne 9, 3) := by decide +kernel
theorem dX10_blockedOf_29 : decode cX10_blockedOf 29 = .ok (.iload_n 2, 1) := by decide +kernel
theorem dX10_blockedOf_30 : decode cX10_blockedOf 30 = .ok (.iconst 1, 1) := by decide +kernel
theorem dX10_blockedOf_31 : decode cX10_blockedOf 31 = .ok (.iload_n 3, 1) := by decide +kernel
theorem dX10_blockedOf_32 : decode cX10_blockedOf 32 = .ok (.ishl, 1) := by decide +kernel
theorem dX10_blockedOf_33 : decode cX10_blockedOf 33 = .ok (.ior, 1) := by decide +kernel
theorem dX10_blockedOf_34 : decode cX10_blockedOf 34 = .ok (.istore_n 2, 1) := by decide +kernel
theorem dX10_blockedOf_35 : decode cX10_blockedOf 35 = .ok (.iinc 3 1, 3) := by decide +kernel
theorem dX10_blockedOf_38 : decode cX10_blockedOf 38 = .ok (.goto (-34), 3) := by decide +kernel
theorem dX10_blockedOf_41 : decode cX10_blockedOf 41 = .ok (.iload_n 2, 1) := by decide +kernel
theorem dX10_blockedOf_42 : decode cX10_blockedOf 42 = .ok (.ireturn, 1) := by decide +kernel
theorem hyX10_blockedOf : yX10_blockedOf.cls ≠ "java/lang/invoke/MethodHandle" ∧ yX10_blockedOf.cls ≠ "java/lang/invoke/VarHandle" ∧ (parseMethodDescriptor yX10_blockedOf.desc).map (fun d => d.parameters.length) = some 1 := ⟨by decide +kernel, by decide +kernel, by decide +kernel⟩
set_option maxRecDepth 100000 in
set_option maxHeartbeats 4000000 in
theorem wjX10_blockedOf_35_L4 (C : zC p s m args meth c cX10_blockedOf RX10 4 D Ca B En) (hRm : zRm R 1 21 cells slots) (σ : zS) (x0 : Nat) (x1 : Int32) (x2 : Int32) (x3 : Int32)  (y : (zS × Int32 × Int32) ⊕ (zS × Int32)) (hf : jX10_blockedOf_35_L4 σ x0 x1 x2 x3  = some y) (hk : (∀ z : (zS × Int32 × Int32), y = .inl z → zW p l e R s m args below meth c cells slots Q D Ca B 4 z.1 N 4 [(0, .ref x0), (1, .int x1), (2, .int z.2.1), (3, .int z.2.2)] []) ∧ (∀ z : (zS × Int32), y = .inr z → zW p l e R s m args below meth c cells slots Q D Ca B 4 z.1 N 41 [(2, .int z.2)] [])) : zW p l e R s m args below meth c cells slots Q D Ca B 4 σ N 35 [(0, .ref x0), (1, .int x1), (2, .int x2), (3, .int x3)] [] := by
  unfold jX10_blockedOf_35_L4 at hf
  refine z_iinc (lv2 := [(3, .int (x3 + (zi 1))), (0, .ref x0), (1, .int x1), (2, .int x2)]) C (x3 + (zi 1)) dX10_blockedOf_35 3 rfl rfl (by decide) rfl ?_
  refine z_goto C 4 dX10_blockedOf_38 (by decide) ?_
  cases hf
  refine z_sub [1, 2, 3, 0] rfl ?_
  exact hk.1 _ rfl

set_option maxRecDepth 100000 in
set_option maxHeartbeats 4000000 in
theorem wsX10_blockedOf_4b (C : zC p s m args meth c cX10_blockedOf RX10 4 D Ca B En) (hRm : zRm R 1 21 cells slots) (x0 : Nat) (x1 : Int32) (σ : zS) (u2 : Int32) (u3 : Int32) (y : (zS × Int32 × Int32) ⊕ (zS × Int32)) (hf : sX10_blockedOf_4b x0 x1 σ u2 u3 = some y) (hk : (∀ z : (zS × Int32 × Int32), y = .inl z → zW p l e R s m args below meth c cells slots Q D Ca B 4 z.1 N 4 [(0, .ref x0), (1, .int x1), (2, .int z.2.1), (3, .int z.2.2)] []) ∧ (∀ z : (zS × Int32), y = .inr z → zW p l e R s m args below meth c cells slots Q D Ca B 4 z.1 N 41 [(2, .int z.2)] [])) : zW p l e R s m args below meth c cells slots Q D Ca B 4 σ N 4 [(0, .ref x0), (1, .int x1), (2, .int u2), (3, .int u3)] [] := by
  unfold sX10_blockedOf_4b at hf
  refine z_iload_n C dX10_blockedOf_4 rfl 3 rfl ?_
  refine z_aload_n C dX10_blockedOf_5 rfl 0 rfl ?_
  obtain ⟨v1, hv1, hf⟩ := zbind hf
  refine gf_RX10_75 C hv1 dX10_blockedOf_6 ?_
  refine z_icmp_ge C 41 dX10_blockedOf_9 (by decide) (fun q6 => ?_) (fun q6 => ?_)
  · rw [if_pos q6] at hf
    cases hf
    refine z_sub [2] rfl ?_
    exact hk.2 _ rfl
  · rw [if_neg q6] at hf
    refine z_aload_n C dX10_blockedOf_12 rfl 0 rfl ?_
    obtain ⟨v2, hv2, hf⟩ := zbind hf
    refine gf_RX10_21 C hv2 dX10_blockedOf_13 ?_
    refine z_bipush C (zi 43) dX10_blockedOf_16 (by decide) ?_
    refine z_iload_n C dX10_blockedOf_18 rfl 3 rfl ?_
    refine z_iload_n C dX10_blockedOf_19 rfl 1 rfl ?_
    obtain ⟨c3, hc3, hf⟩ := zbind hf
    refine z_callSi (As := [.int u3, .int x1]) (F0 := 1) (L0 := 21) C (mX10_channelIn l D Ca B En C.2.2.2.2.2.2.2.1 σ N u3 x1 _ hc3) hRm kw_1414 kw_14 kw_1412 kw_1413 hyX10_channelIn (Nat.le_of_ble_eq_true rfl) (Nat.le_of_ble_eq_true rfl) rfl rfl (Nat.le_of_ble_eq_true rfl) dX10_blockedOf_20 ?_
    refine z_iadd C dX10_blockedOf_23 ?_
    obtain ⟨v4, hv4, hf⟩ := zbind hf
    refine z_aI C hv4 dX10_blockedOf_24 ?_
    refine z_iconst C (zi 1) dX10_blockedOf_25 (by decide) ?_
    refine z_icmp_ne C 35 dX10_blockedOf_26 (by decide) (fun q5 => ?_) (fun q5 => ?_)
    · rw [if_neg q5] at hf
      refine z_sub [0, 1, 2, 3] rfl ?_
      exact wjX10_blockedOf_35_L4 C hRm _ _ _ _ _  _ hf hk
    · rw [if_pos q5] at hf
      refine z_iload_n C dX10_blockedOf_29 rfl 2 rfl ?_
      refine z_iconst C (zi 1) dX10_blockedOf_30 (by decide) ?_
      refine z_iload_n C dX10_blockedOf_31 rfl 3 rfl ?_
      refine z_ishl C dX10_blockedOf_32 ?_
      refine z_ior C dX10_blockedOf_33 ?_
      refine z_istore_n (lv2 := [(2, .int (u2 ||| (((zi 1)) <<< (u3 &&& 31)))), (0, .ref x0), (1, .int x1), (3, .int u3)]) C dX10_blockedOf_34 rfl (by decide) rfl ?_
      refine z_sub [1, 2, 0, 3] rfl ?_
      exact wjX10_blockedOf_35_L4 C hRm _ _ _ _ _  _ hf hk

theorem wsX10_blockedOf_4 (C : zC p s m args meth c cX10_blockedOf RX10 4 D Ca B En) (hRm : zRm R 1 21 cells slots) (x0 : Nat) (x1 : Int32) (n : Nat) (z : (zS × Int32 × Int32)) (x : (zS × Int32)) (hf : zloop (sX10_blockedOf_4 x0 x1) n z = some x) (hk : (∀ o : (zS × Int32), x = o → zW p l e R s m args below meth c cells slots Q D Ca B 4 o.1 N 41 [(2, .int o.2)] [])) : zW p l e R s m args below meth c cells slots Q D Ca B 4 z.1 N 4 [(0, .ref x0), (1, .int x1), (2, .int z.2.1), (3, .int z.2.2)] [] := by
  refine zloop_W (P := fun z : (zS × Int32 × Int32) => zW p l e R s m args below meth c cells slots Q D Ca B 4 z.1 N 4 [(0, .ref x0), (1, .int x1), (2, .int z.2.1), (3, .int z.2.2)] []) (K := fun x : (zS × Int32) => (∀ o : (zS × Int32), x = o → zW p l e R s m args below meth c cells slots Q D Ca B 4 o.1 N 41 [(2, .int o.2)] [])) ?_ n z x hf hk
  intro z y hy h1 h2
  refine wsX10_blockedOf_4b C hRm x0 x1 z.1 z.2.1 z.2.2 y hy ⟨fun z2 e => h1 z2 e, fun o e => (h2 _ e) o rfl⟩
set_option maxRecDepth 100000 in
set_option maxHeartbeats 4000000 in
theorem wfX10_blockedOf (C : zC p s m args meth c cX10_blockedOf RX10 4 D Ca B En) (hRm : zRm R 1 21 cells slots) (σ : zS) (x0 : Nat) (x1 : Int32) (τ : zS) (r : Int32) (hf : fX10_blockedOf σ x0 x1 = some (τ, r)) (hq : ∀ (pc : Nat) (lv : List (Nat × Value)), decode cX10_blockedOf pc = .ok (.ireturn, 1) → zW p l e R s m args below meth c cells slots Q D Ca B 4 τ N pc lv [.int r]) : zW p l e R s m args below meth c cells slots Q D Ca B 4 σ N 0 [(0, .ref x0), (1, .int x1)] [] := by
  unfold fX10_blockedOf at hf
  refine z_iconst C (zi 0) dX10_blockedOf_0 (by decide) ?_
  refine z_istore_n (lv2 := [(2, .int ((zi 0))), (0, .ref x0), (1, .int x1)]) C dX10_blockedOf_1 rfl (by decide) rfl ?_
  refine z_iconst C (zi 0) dX10_blockedOf_2 (by decide) ?_
  refine z_istore_n (lv2 := [(3, .int ((zi 0))), (2, .int ((zi 0))), (0, .ref x0), (1, .int x1)]) C dX10_blockedOf_3 rfl (by decide) rfl ?_
  obtain ⟨o7, ho7, hf⟩ := zbind hf
  refine z_sub [2, 3, 1, 0] rfl ?_
  refine wsX10_blockedOf_4 C hRm _ _ zfuel (σ, (zi 0), (zi 0)) o7 ho7 ?_
  intro z9 e9
  subst e9
  refine z_iload_n C dX10_blockedOf_41 rfl 0 rfl ?_
  cases hf
  exact hq _ _ dX10_blockedOf_42

theorem mX10_blockedOf (l : Launch) (D : va_G) (Ca : Nat → ClassId) (B : Nat) (En : State → Prop) (hE : zEk B En) (σ : zS) (N : Nat) (x0 : Nat) (x1 : Int32) (X : zS × Int32) (hf : fX10_blockedOf σ x0 x1 = some X) : zMi l D Ca B En yX10_blockedOf cX10_blockedOf 4 (Option.some Jvm.ClassFile.FieldType.int) 1 21 [.ref x0, .int x1] σ N X.1 X.2 :=
  zMet_i (own := RX10) hE (by decide +kernel) rfl (Nat.le_of_ble_eq_true rfl) (fun p e s m args below meth c C hr hRm => wfX10_blockedOf C hRm σ x0 x1 X.1 X.2 hf (fun pc lv hd => zfin_i C hr hd))
theorem dX10_blockedOfSink_0 : decode cX10_blockedOfSink 0 = .ok (.iconst 0, 1) := by decide +kernel
theorem dX10_blockedOfSink_1 : decode cX10_blockedOfSink 1 = .ok (.istore_n 2, 1) := by decide +kernel
theorem dX10_blockedOfSink_2 : decode cX10_blockedOfSink 2 = .ok (.iconst 0, 1) := by decide +kernel
theorem dX10_blockedOfSink_3 : decode cX10_blockedOfSink 3 = .ok (.istore_n 3, 1) := by decide +kernel
theorem dX10_blockedOfSink_4 : decode cX10_blockedOfSink 4 = .ok (.iload_n 3, 1) := by decide +kernel
theorem dX10_blockedOfSink_5 : decode cX10_blockedOfSink 5 = .ok (.aload_n 0, 1) := by decide +kernel
theorem dX10_blockedOfSink_6 : decode cX10_blockedOfSink 6 = .ok (.getfield 21, 3) := by decide +kernel
theorem dX10_blockedOfSink_9 : decode cX10_blockedOfSink 9 = .ok (.iconst 1, 1) := by decide +kernel
theorem dX10_blockedOfSink_10 : decode cX10_blockedOfSink 10 = .ok (.iaload, 1) := by decide +kernel
theorem dX10_blockedOfSink_11 : decode cX10_blockedOfSink 11 = .ok (.if_icmp .ge 32, 3) := by decide +kernel
theorem dX10_blockedOfSink_14 : decode cX10_blockedOfSink 14 = .ok (.aload_n 0, 1) := by decide +kernel
theorem dX10_blockedOfSink_15 : decode cX10_blockedOfSink 15 = .ok (.getfield 21, 3) := by decide +kernel
theorem dX10_blockedOfSink_18 : decode cX10_blockedOfSink 18 = .ok (.bipush 59, 2) := by decide +kernel
theorem dX10_blockedOfSink_20 : decode cX10_blockedOfSink 20 = .ok (.iload_n 3, 1) := by decide +kernel
theorem dX10_blockedOfSink_21 : decode cX10_blockedOfSink 21 = .ok (.iload_n 1, 1) := by decide +kernel
theorem dX10_blockedOfSink_22 : decode cX10_blockedOfSink 22 = .ok (.invokestatic 125, 3) := by decide +kernel
theorem dX10_blockedOfSink_25 : decode cX10_blockedOfSink 25 = .ok (.iadd, 1) := by decide +kernel
theorem dX10_blockedOfSink_26 : decode cX10_blockedOfSink 26 = .ok (.iaload, 1) := by decide +kernel
theorem dX10_blockedOfSink_27 : decode cX10_blockedOfSink 27 = .ok (.iconst 1, 1) := by decide +kernel
theorem dX10_blockedOfSink_28 : decode cX10_blockedOfSink 28 = .ok (.if_icmp .ne 9, 3) := by decide +kernel
theorem dX10_blockedOfSink_31 : decode cX10_blockedOfSink 31 = .ok (.iload_n 2, 1) := by decide +kernel
theorem dX10_blockedOfSink_32 : decode cX10_blockedOfSink 32 = .ok (.iconst 1, 1) := by decide +kernel
theorem dX10_blockedOfSink_33 : decode cX10_blockedOfSink 33 = .ok (.iload_n 3, 1) := by decide +kernel
theorem dX10_blockedOfSink_34 : decode cX10_blockedOfSink 34 = .ok (.ishl, 1) := by decide +kernel
theorem dX10_blockedOfSink_35 : decode cX10_blockedOfSink 35 = .ok (.ior, 1) := by decide +kernel
theorem dX10_blockedOfSink_36 : decode cX10_blockedOfSink 36 = .ok (.istore_n 2, 1) := by decide +kernel
theorem dX10_blockedOfSink_37 : decode cX10_blockedOfSink 37 = .ok (.iinc 3 1, 3) := by decide +kernel
theorem dX10_blockedOfSink_40 : decode cX10_blockedOfSink 40 = .ok (.goto (-36), 3) := by decide +kernel
theorem dX10_blockedOfSink_43 : decode cX10_blockedOfSink 43 = .ok (.iload_n 2, 1) := by decide +kernel
theorem dX10_blockedOfSink_44 : decode cX10_blockedOfSink 44 = .ok (.ireturn, 1) := by decide +kernel
theorem hyX10_blockedOfSink : yX10_blockedOfSink.cls ≠ "java/lang/invoke/MethodHandle" ∧ yX10_blockedOfSink.cls ≠ "java/lang/invoke/VarHandle" ∧ (parseMethodDescriptor yX10_blockedOfSink.desc).map (fun d => d.parameters.length) = some 1 := ⟨by decide +kernel, by decide +kernel, by decide +kernel⟩
set_option maxRecDepth 100000 in
set_option maxHeartbeats 4000000 in
theorem wjX10_blockedOfSink_37_L4 (C : zC p s m args meth c cX10_blockedOfSink RX10 4 D Ca B En) (hRm : zRm R 1 21 cells slots) (σ : zS) (x0 : Nat) (x1 : Int32) (x2 : Int32) (x3 : Int32)  (y : (zS × Int32 × Int32) ⊕ (zS × Int32)) (hf : jX10_blockedOfSink_37_L4 σ x0 x1 x2 x3  = some y) (hk : (∀ z : (zS × Int32 × Int32), y = .inl z → zW p l e R s m args below meth c cells slots Q D Ca B 4 z.1 N 4 [(0, .ref x0), (1, .int x1), (2, .int z.2.1), (3, .int z.2.2)] []) ∧ (∀ z : (zS × Int32), y = .inr z → zW p l e R s m args below meth c cells slots Q D Ca B 4 z.1 N 43 [(2, .int z.2)] [])) : zW p l e R s m args below meth c cells slots Q D Ca B 4 σ N 37 [(0, .ref x0), (1, .int x1), (2, .int x2), (3, .int x3)] [] := by
  unfold jX10_blockedOfSink_37_L4 at hf
  refine z_iinc (lv2 := [(3, .int (x3 + (zi 1))), (0, .ref x0), (1, .int x1), (2, .int x2)]) C (x3 + (zi 1)) dX10_blockedOfSink_37 3 rfl rfl (by decide) rfl ?_
  refine z_goto C 4 dX10_blockedOfSink_40 (by decide) ?_
  cases hf
  refine z_sub [1, 2, 3, 0] rfl ?_
  exact hk.1 _ rfl

set_option maxRecDepth 100000 in
set_option maxHeartbeats 4000000 in
theorem wsX10_blockedOfSink_4b (C : zC p s m args meth c cX10_blockedOfSink RX10 4 D Ca B En) (hRm : zRm R 1 21 cells slots) (x0 : Nat) (x1 : Int32) (σ : zS) (u2 : Int32) (u3 : Int32) (y : (zS × Int32 × Int32) ⊕ (zS × Int32)) (hf : sX10_blockedOfSink_4b x0 x1 σ u2 u3 = some y) (hk : (∀ z : (zS × Int32 × Int32), y = .inl z → zW p l e R s m args below meth c cells slots Q D Ca B 4 z.1 N 4 [(0, .ref x0), (1, .int x1), (2, .int z.2.1), (3, .int z.2.2)] []) ∧ (∀ z : (zS × Int32), y = .inr z → zW p l e R s m args below meth c cells slots Q D Ca B 4 z.1 N 43 [(2, .int z.2)] [])) : zW p l e R s m args below meth c cells slots Q D Ca B 4 σ N 4 [(0, .ref x0), (1, .int x1), (2, .int u2), (3, .int u3)] [] := by
  unfold sX10_blockedOfSink_4b at hf
  refine z_iload_n C dX10_blockedOfSink_4 rfl 3 rfl ?_
  refine z_aload_n C dX10_blockedOfSink_5 rfl 0 rfl ?_
  obtain ⟨v1, hv1, hf⟩ := zbind hf
  refine gf_RX10_21 C hv1 dX10_blockedOfSink_6 ?_
  refine z_iconst C (zi 1) dX10_blockedOfSink_9 (by decide) ?_
  obtain ⟨v2, hv2, hf⟩ := zbind hf
  refine z_aI C hv2 dX10_blockedOfSink_10 ?_
  refine z_icmp_ge C 43 dX10_blockedOfSink_11 (by decide) (fun q7 => ?_) (fun q7 => ?_)
  · rw [if_pos q7] at hf
    cases hf
    refine z_sub [2] rfl ?_
    exact hk.2 _ rfl
  · rw [if_neg q7] at hf
    refine z_aload_n C dX10_blockedOfSink_14 rfl 0 rfl ?_
    obtain ⟨v3, hv3, hf⟩ := zbind hf
    refine gf_RX10_21 C hv3 dX10_blockedOfSink_15 ?_
    refine z_bipush C (zi 59) dX10_blockedOfSink_18 (by decide) ?_
    refine z_iload_n C dX10_blockedOfSink_20 rfl 3 rfl ?_
    refine z_iload_n C dX10_blockedOfSink_21 rfl 1 rfl ?_
    obtain ⟨c4, hc4, hf⟩ := zbind hf
    refine z_callSi (As := [.int u3, .int x1]) (F0 := 1) (L0 := 21) C (mX10_channelOut l D Ca B En C.2.2.2.2.2.2.2.1 σ N u3 x1 _ hc4) hRm kw_1424 kw_14 kw_1422 kw_1423 hyX10_channelOut (Nat.le_of_ble_eq_true rfl) (Nat.le_of_ble_eq_true rfl) rfl rfl (Nat.le_of_ble_eq_true rfl) dX10_blockedOfSink_22 ?_
    refine z_iadd C dX10_blockedOfSink_25 ?_
    obtain ⟨v5, hv5, hf⟩ := zbind hf
    refine z_aI C hv5 dX10_blockedOfSink_26 ?_
    refine z_iconst C (zi 1) dX10_blockedOfSink_27 (by decide) ?_
    refine z_icmp_ne C 37 dX10_blockedOfSink_28 (by decide) (fun q6 => ?_) (fun q6 => ?_)
    · rw [if_neg q6] at hf
      refine z_sub [0, 1, 2, 3] rfl ?_
      exact wjX10_blockedOfSink_37_L4 C hRm _ _ _ _ _  _ hf hk
    · rw [if_pos q6] at hf
      refine z_iload_n C dX10_blockedOfSink_31 rfl 2 rfl ?_
      refine z_iconst C (zi 1) dX10_blockedOfSink_32 (by decide) ?_
      refine z_iload_n C dX10_blockedOfSink_33 rfl 3 rfl ?_
      refine z_ishl C dX10_blockedOfSink_34 ?_
      refine z_ior C dX10_blockedOfSink_35 ?_
      refine z_istore_n (lv2 := [(2, .int (u2 ||| (((zi 1)) <<< (u3 &&& 31)))), (0, .ref x0), (1, .int x1), (3, .int u3)]) C dX10_blockedOfSink_36 rfl (by decide) rfl ?_
      refine z_sub [1, 2, 0, 3] rfl ?_
      exact wjX10_blockedOfSink_37_L4 C hRm _ _ _ _ _  _ hf hk

theorem wsX10_blockedOfSink_4 (C : zC p s m args meth c cX10_blockedOfSink RX10 4 D Ca B En) (hRm : zRm R 1 21 cells slots) (x0 : Nat) (x1 : Int32) (n : Nat) (z : (zS × Int32 × Int32)) (x : (zS × Int32)) (hf : zloop (sX10_blockedOfSink_4 x0 x1) n z = some x) (hk : (∀ o : (zS × Int32), x = o → zW p l e R s m args below meth c cells slots Q D Ca B 4 o.1 N 43 [(2, .int o.2)] [])) : zW p l e R s m args below meth c cells slots Q D Ca B 4 z.1 N 4 [(0, .ref x0), (1, .int x1), (2, .int z.2.1), (3, .int z.2.2)] [] := by
  refine zloop_W (P := fun z : (zS × Int32 × Int32) => zW p l e R s m args below meth c cells slots Q D Ca B 4 z.1 N 4 [(0, .ref x0), (1, .int x1), (2, .int z.2.1), (3, .int z.2.2)] []) (K := fun x : (zS × Int32) => (∀ o : (zS × Int32), x = o → zW p l e R s m args below meth c cells slots Q D Ca B 4 o.1 N 43 [(2, .int o.2)] [])) ?_ n z x hf hk
  intro z y hy h1 h2
  refine wsX10_blockedOfSink_4b C hRm x0 x1 z.1 z.2.1 z.2.2 y hy ⟨fun z2 e => h1 z2 e, fun o e => (h2 _ e) o rfl⟩
set_option maxRecDepth 100000 in
set_option maxHeartbeats 4000000 in
theorem wfX10_blockedOfSink (C : zC p s m args meth c cX10_blockedOfSink RX10 4 D Ca B En) (hRm : zRm R 1 21 cells slots) (σ : zS) (x0 : Nat) (x1 : Int32) (τ : zS) (r : Int32) (hf : fX10_blockedOfSink σ x0 x1 = some (τ, r)) (hq : ∀ (pc : Nat) (lv : List (Nat × Value)), decode cX10_blockedOfSink pc = .ok (.ireturn, 1) → zW p l e R s m args below meth c cells slots Q D Ca B 4 τ N pc lv [.int r]) : zW p l e R s m args below meth c cells slots Q D Ca B 4 σ N 0 [(0, .ref x0), (1, .int x1)] [] := by
  unfold fX10_blockedOfSink at hf
  refine z_iconst C (zi 0) dX10_blockedOfSink_0 (by decide) ?_
  refine z_istore_n (lv2 := [(2, .int ((zi 0))), (0, .ref x0), (1, .int x1)]) C dX10_blockedOfSink_1 rfl (by decide) rfl ?_
  refine z_iconst C (zi 0) dX10_blockedOfSink_2 (by decide) ?_
  refine z_istore_n (lv2 := [(3, .int ((zi 0))), (2, .int ((zi 0))), (0, .ref x0), (1, .int x1)]) C dX10_blockedOfSink_3 rfl (by decide) rfl ?_
  obtain ⟨o8, ho8, hf⟩ := zbind hf
  refine z_sub [2, 3, 1, 0] rfl ?_
  refine wsX10_blockedOfSink_4 C hRm _ _ zfuel (σ, (zi 0), (zi 0)) o8 ho8 ?_
  intro z9 e9
  subst e9
  refine z_iload_n C dX10_blockedOfSink_43 rfl 0 rfl ?_
  cases hf
  exact hq _ _ dX10_blockedOfSink_44

theorem mX10_blockedOfSink (l : Launch) (D : va_G) (Ca : Nat → ClassId) (B : Nat) (En : State → Prop) (hE : zEk B En) (σ : zS) (N : Nat) (x0 : Nat) (x1 : Int32) (X : zS × Int32) (hf : fX10_blockedOfSink σ x0 x1 = some X) : zMi l D Ca B En yX10_blockedOfSink cX10_blockedOfSink 4 (Option.some Jvm.ClassFile.FieldType.int) 1 21 [.ref x0, .int x1] σ N X.1 X.2 :=
  zMet_i (own := RX10) hE (by decide +kernel) rfl (Nat.le_of_ble_eq_true rfl) (fun p e s m args below meth c C hr hRm => wfX10_blockedOfSink C hRm σ x0 x1 X.1 X.2 hf (fun pc lv hd => zfin_i C hr hd))
theorem dX10_recordsTo_0 : decode cX10_recordsTo 0 = .ok (.iconst 0, 1) := by decide +kernel
theorem dX10_recordsTo_1 : decode cX10_recordsTo 1 = .ok (.istore_n 2, 1) := by decide +kernel
theorem dX10_recordsTo_2 : decode cX10_recordsTo 2 = .ok (.iconst 0, 1) := by decide +kernel
theorem dX10_recordsTo_3 : decode cX10_recordsTo 3 = .ok (.istore_n 3, 1) := by decide +kernel
theorem dX10_recordsTo_4 : decode cX10_recordsTo 4 = .ok (.iload_n 3, 1) := by decide +kernel
theorem dX10_recordsTo_5 : decode cX10_recordsTo 5 = .ok (.aload_n 0, 1) := by decide +kernel
theorem dX10_recordsTo_6 : decode cX10_recordsTo 6 = .ok (.getfield 75, 3) := by decide +kernel
theorem dX10_recordsTo_9 : decode cX10_recordsTo 9 = .ok (.if_icmp .ge 21, 3) := by decide +kernel
theorem dX10_recordsTo_12 : decode cX10_recordsTo 12 = .ok (.iload_n 2, 1) := by decide +kernel
theorem dX10_recordsTo_13 : decode cX10_recordsTo 13 = .ok (.aload_n 0, 1) := by decide +kernel
theorem dX10_recordsTo_14 : decode cX10_recordsTo 14 = .ok (.iload_n 3, 1) := by decide +kernel
theorem dX10_recordsTo_15 : decode cX10_recordsTo 15 = .ok (.iload_n 1, 1) := by decide +kernel
theorem dX10_recordsTo_16 : decode cX10_recordsTo 16 = .ok (.invokestatic 176, 3) := by decide +kernel
theorem dX10_recordsTo_19 : decode cX10_recordsTo 19 = .ok (.invokevirtual 119, 3) := by decide +kernel
theorem dX10_recordsTo_22 : decode cX10_recordsTo 22 = .ok (.iadd, 1) := by decide +kernel
theorem dX10_recordsTo_23 : decode cX10_recordsTo 23 = .ok (.istore_n 2, 1) := by decide +kernel
theorem dX10_recordsTo_24 : decode cX10_recordsTo 24 = .ok (.iinc 3 1, 3) := by decide +kernel
theorem dX10_recordsTo_27 : decode cX10_recordsTo 27 = .ok (.goto (-23), 3) := by decide +kernel
theorem dX10_recordsTo_30 : decode cX10_recordsTo 30 = .ok (.iload_n 2, 1) := by decide +kernel
theorem dX10_recordsTo_31 : decode cX10_recordsTo 31 = .ok (.ireturn, 1) := by decide +kernel
theorem hyX10_recordsTo : yX10_recordsTo.cls ≠ "java/lang/invoke/MethodHandle" ∧ yX10_recordsTo.cls ≠ "java/lang/invoke/VarHandle" ∧ (parseMethodDescriptor yX10_recordsTo.desc).map (fun d => d.parameters.length) = some 1 := ⟨by decide +kernel, by decide +kernel, by decide +kernel⟩
set_option maxRecDepth 100000 in
set_option maxHeartbeats 4000000 in
theorem wsX10_recordsTo_4b (C : zC p s m args meth c cX10_recordsTo RX10 4 D Ca B En) (hRm : zRm R 3 66 cells slots) (x0 : Nat) (x1 : Int32) (σ : zS) (u2 : Int32) (u3 : Int32) (y : (zS × Int32 × Int32) ⊕ (zS × Int32)) (hf : sX10_recordsTo_4b x0 x1 σ u2 u3 = some y) (hk : (∀ z : (zS × Int32 × Int32), y = .inl z → zW p l e R s m args below meth c cells slots Q D Ca B 4 z.1 N 4 [(0, .ref x0), (1, .int x1), (2, .int z.2.1), (3, .int z.2.2)] []) ∧ (∀ z : (zS × Int32), y = .inr z → zW p l e R s m args below meth c cells slots Q D Ca B 4 z.1 N 30 [(2, .int z.2)] [])) : zW p l e R s m args below meth c cells slots Q D Ca B 4 σ N 4 [(0, .ref x0), (1, .int x1), (2, .int u2), (3, .int u3)] [] := by
  unfold sX10_recordsTo_4b at hf
  refine z_iload_n C dX10_recordsTo_4 rfl 3 rfl ?_
  refine z_aload_n C dX10_recordsTo_5 rfl 0 rfl ?_
  obtain ⟨v1, hv1, hf⟩ := zbind hf
  refine gf_RX10_75 C hv1 dX10_recordsTo_6 ?_
  refine z_icmp_ge C 30 dX10_recordsTo_9 (by decide) (fun q4 => ?_) (fun q4 => ?_)
  · rw [if_pos q4] at hf
    cases hf
    refine z_sub [2] rfl ?_
    exact hk.2 _ rfl
  · rw [if_neg q4] at hf
    refine z_iload_n C dX10_recordsTo_12 rfl 2 rfl ?_
    refine z_aload_n C dX10_recordsTo_13 rfl 0 rfl ?_
    refine z_iload_n C dX10_recordsTo_14 rfl 3 rfl ?_
    refine z_iload_n C dX10_recordsTo_15 rfl 1 rfl ?_
    obtain ⟨c2, hc2, hf⟩ := zbind hf
    refine z_callSi (As := [.int u3, .int x1]) (F0 := 3) (L0 := 66) C (mX10_toInstance l D Ca B En C.2.2.2.2.2.2.2.1 σ N u3 x1 _ hc2) hRm kw_1450 kw_14 kw_1448 kw_1449 hyX10_toInstance (Nat.le_of_ble_eq_true rfl) (Nat.le_of_ble_eq_true rfl) rfl rfl (Nat.le_of_ble_eq_true rfl) dX10_recordsTo_16 ?_
    obtain ⟨c3, hc3, hf⟩ := zbind hf
    obtain ⟨kc3, hc3⟩ := zck_ok hc3
    refine z_callVi (As := [.int c2.2]) (F0 := 3) (L0 := 66) C (mX10_things l D Ca B En C.2.2.2.2.2.2.2.1 c2.1 N x0 c2.2 _ hc3) hRm kc3 rfl kw_1469 kw_14 kw_1466 kw_1468 kp_51 hyX10_things (Nat.le_of_ble_eq_true rfl) (Nat.le_of_ble_eq_true rfl) rfl rfl (Nat.le_of_ble_eq_true rfl) dX10_recordsTo_19 ?_
    refine z_iadd C dX10_recordsTo_22 ?_
    refine z_istore_n (lv2 := [(2, .int (u2 + c3.2)), (0, .ref x0), (1, .int x1), (3, .int u3)]) C dX10_recordsTo_23 rfl (by decide) rfl ?_
    refine z_iinc (lv2 := [(3, .int (u3 + (zi 1))), (2, .int (u2 + c3.2)), (0, .ref x0), (1, .int x1)]) C (u3 + (zi 1)) dX10_recordsTo_24 3 rfl rfl (by decide) rfl ?_
    refine z_goto C 4 dX10_recordsTo_27 (by decide) ?_
    cases hf
    refine z_sub [2, 3, 1, 0] rfl ?_
    exact hk.1 _ rfl

theorem wsX10_recordsTo_4 (C : zC p s m args meth c cX10_recordsTo RX10 4 D Ca B En) (hRm : zRm R 3 66 cells slots) (x0 : Nat) (x1 : Int32) (n : Nat) (z : (zS × Int32 × Int32)) (x : (zS × Int32)) (hf : zloop (sX10_recordsTo_4 x0 x1) n z = some x) (hk : (∀ o : (zS × Int32), x = o → zW p l e R s m args below meth c cells slots Q D Ca B 4 o.1 N 30 [(2, .int o.2)] [])) : zW p l e R s m args below meth c cells slots Q D Ca B 4 z.1 N 4 [(0, .ref x0), (1, .int x1), (2, .int z.2.1), (3, .int z.2.2)] [] := by
  refine zloop_W (P := fun z : (zS × Int32 × Int32) => zW p l e R s m args below meth c cells slots Q D Ca B 4 z.1 N 4 [(0, .ref x0), (1, .int x1), (2, .int z.2.1), (3, .int z.2.2)] []) (K := fun x : (zS × Int32) => (∀ o : (zS × Int32), x = o → zW p l e R s m args below meth c cells slots Q D Ca B 4 o.1 N 30 [(2, .int o.2)] [])) ?_ n z x hf hk
  intro z y hy h1 h2
  refine wsX10_recordsTo_4b C hRm x0 x1 z.1 z.2.1 z.2.2 y hy ⟨fun z2 e => h1 z2 e, fun o e => (h2 _ e) o rfl⟩
set_option maxRecDepth 100000 in
set_option maxHeartbeats 4000000 in
theorem wfX10_recordsTo (C : zC p s m args meth c cX10_recordsTo RX10 4 D Ca B En) (hRm : zRm R 3 66 cells slots) (σ : zS) (x0 : Nat) (x1 : Int32) (τ : zS) (r : Int32) (hf : fX10_recordsTo σ x0 x1 = some (τ, r)) (hq : ∀ (pc : Nat) (lv : List (Nat × Value)), decode cX10_recordsTo pc = .ok (.ireturn, 1) → zW p l e R s m args below meth c cells slots Q D Ca B 4 τ N pc lv [.int r]) : zW p l e R s m args below meth c cells slots Q D Ca B 4 σ N 0 [(0, .ref x0), (1, .int x1)] [] := by
  unfold fX10_recordsTo at hf
  refine z_iconst C (zi 0) dX10_recordsTo_0 (by decide) ?_
  refine z_istore_n (lv2 := [(2, .int ((zi 0))), (0, .ref x0), (1, .int x1)]) C dX10_recordsTo_1 rfl (by decide) rfl ?_
  refine z_iconst C (zi 0) dX10_recordsTo_2 (by decide) ?_
  refine z_istore_n (lv2 := [(3, .int ((zi 0))), (2, .int ((zi 0))), (0, .ref x0), (1, .int x1)]) C dX10_recordsTo_3 rfl (by decide) rfl ?_
  obtain ⟨o5, ho5, hf⟩ := zbind hf
  refine z_sub [2, 3, 1, 0] rfl ?_
  refine wsX10_recordsTo_4 C hRm _ _ zfuel (σ, (zi 0), (zi 0)) o5 ho5 ?_
  intro z9 e9
  subst e9
  refine z_iload_n C dX10_recordsTo_30 rfl 0 rfl ?_
  cases hf
  exact hq _ _ dX10_recordsTo_31

theorem mX10_recordsTo (l : Launch) (D : va_G) (Ca : Nat → ClassId) (B : Nat) (En : State → Prop) (hE : zEk B En) (σ : zS) (N : Nat) (x0 : Nat) (x1 : Int32) (X : zS × Int32) (hf : fX10_recordsTo σ x0 x1 = some X) : zMi l D Ca B En yX10_recordsTo cX10_recordsTo 4 (Option.some Jvm.ClassFile.FieldType.int) 3 66 [.ref x0, .int x1] σ N X.1 X.2 :=
  zMet_i (own := RX10) hE (by decide +kernel) rfl (Nat.le_of_ble_eq_true rfl) (fun p e s m args below meth c C hr hRm => wfX10_recordsTo C hRm σ x0 x1 X.1 X.2 hf (fun pc lv hd => zfin_i C hr hd))
theorem dX10_resultsFrom_0 : decode cX10_resultsFrom 0 = .ok (.iconst 0, 1) := by decide +kernel
theorem dX10_resultsFrom_1 : decode cX10_resultsFrom 1 = .ok (.istore_n 2, 1) := by decide +kernel
theorem dX10_resultsFrom_2 : decode cX10_resultsFrom 2 = .ok (.iconst 0, 1) := by decide +kernel
theorem dX10_resultsFrom_3 : decode cX10_resultsFrom 3 = .ok (.istore_n 3, 1) := by decide +kernel
theorem dX10_resultsFrom_4 : decode cX10_resultsFrom 4 = .ok (.iload_n 3, 1) := by decide +kernel
theorem dX10_resultsFrom_5 : decode cX10_resultsFrom 5 = .ok (.aload_n 0, 1) := by decide +kernel
theorem dX10_resultsFrom_6 : decode cX10_resultsFrom 6 = .ok (.getfield 78, 3) := by decide +kernel
theorem dX10_resultsFrom_9 : decode cX10_resultsFrom 9 = .ok (.if_icmp .ge 21, 3) := by decide +kernel
theorem dX10_resultsFrom_12 : decode cX10_resultsFrom 12 = .ok (.iload_n 2, 1) := by decide +kernel
theorem dX10_resultsFrom_13 : decode cX10_resultsFrom 13 = .ok (.aload_n 0, 1) := by decide +kernel
theorem dX10_resultsFrom_14 : decode cX10_resultsFrom 14 = .ok (.iload_n 1, 1) := by decide +kernel
theorem dX10_resultsFrom_15 : decode cX10_resultsFrom 15 = .ok (.iload_n 3, 1) := by decide +kernel
theorem dX10_resultsFrom_16 : decode cX10_resultsFrom 16 = .ok (.invokestatic 152, 3) := by decide +kernel
theorem dX10_resultsFrom_19 : decode cX10_resultsFrom 19 = .ok (.invokevirtual 119, 3) := by decide +kernel
theorem dX10_resultsFrom_22 : decode cX10_resultsFrom 22 = .ok (.iadd, 1) := by decide +kernel
theorem dX10_resultsFrom_23 : decode cX10_resultsFrom 23 = .ok (.istore_n 2, 1) := by decide +kernel
theorem dX10_resultsFrom_24 : decode cX10_resultsFrom 24 = .ok (.iinc 3 1, 3) := by decide +kernel
theorem dX10_resultsFrom_27 : decode cX10_resultsFrom 27 = .ok (.goto (-23), 3) := by decide +kernel
theorem dX10_resultsFrom_30 : decode cX10_resultsFrom 30 = .ok (.iload_n 2, 1) := by decide +kernel
theorem dX10_resultsFrom_31 : decode cX10_resultsFrom 31 = .ok (.ireturn, 1) := by decide +kernel
theorem hyX10_resultsFrom : yX10_resultsFrom.cls ≠ "java/lang/invoke/MethodHandle" ∧ yX10_resultsFrom.cls ≠ "java/lang/invoke/VarHandle" ∧ (parseMethodDescriptor yX10_resultsFrom.desc).map (fun d => d.parameters.length) = some 1 := ⟨by decide +kernel, by decide +kernel, by decide +kernel⟩
set_option maxRecDepth 100000 in
set_option maxHeartbeats 4000000 in
theorem wsX10_resultsFrom_4b (C : zC p s m args meth c cX10_resultsFrom RX10 4 D Ca B En) (hRm : zRm R 3 66 cells slots) (x0 : Nat) (x1 : Int32) (σ : zS) (u2 : Int32) (u3 : Int32) (y : (zS × Int32 × Int32) ⊕ (zS × Int32)) (hf : sX10_resultsFrom_4b x0 x1 σ u2 u3 = some y) (hk : (∀ z : (zS × Int32 × Int32), y = .inl z → zW p l e R s m args below meth c cells slots Q D Ca B 4 z.1 N 4 [(0, .ref x0), (1, .int x1), (2, .int z.2.1), (3, .int z.2.2)] []) ∧ (∀ z : (zS × Int32), y = .inr z → zW p l e R s m args below meth c cells slots Q D Ca B 4 z.1 N 30 [(2, .int z.2)] [])) : zW p l e R s m args below meth c cells slots Q D Ca B 4 σ N 4 [(0, .ref x0), (1, .int x1), (2, .int u2), (3, .int u3)] [] := by
  unfold sX10_resultsFrom_4b at hf
  refine z_iload_n C dX10_resultsFrom_4 rfl 3 rfl ?_
  refine z_aload_n C dX10_resultsFrom_5 rfl 0 rfl ?_
  obtain ⟨v1, hv1, hf⟩ := zbind hf
  refine gf_RX10_78 C hv1 dX10_resultsFrom_6 ?_
  refine z_icmp_ge C 30 dX10_resultsFrom_9 (by decide) (fun q4 => ?_) (fun q4 => ?_)
  · rw [if_pos q4] at hf
    cases hf
    refine z_sub [2] rfl ?_
    exact hk.2 _ rfl
  · rw [if_neg q4] at hf
    refine z_iload_n C dX10_resultsFrom_12 rfl 2 rfl ?_
    refine z_aload_n C dX10_resultsFrom_13 rfl 0 rfl ?_
    refine z_iload_n C dX10_resultsFrom_14 rfl 1 rfl ?_
    refine z_iload_n C dX10_resultsFrom_15 rfl 3 rfl ?_
    obtain ⟨c2, hc2, hf⟩ := zbind hf
    refine z_callSi (As := [.int x1, .int u3]) (F0 := 3) (L0 := 66) C (mX10_toSink l D Ca B En C.2.2.2.2.2.2.2.1 σ N x1 u3 _ hc2) hRm kw_1496 kw_14 kw_1494 kw_1495 hyX10_toSink (Nat.le_of_ble_eq_true rfl) (Nat.le_of_ble_eq_true rfl) rfl rfl (Nat.le_of_ble_eq_true rfl) dX10_resultsFrom_16 ?_
    obtain ⟨c3, hc3, hf⟩ := zbind hf
    obtain ⟨kc3, hc3⟩ := zck_ok hc3
    refine z_callVi (As := [.int c2.2]) (F0 := 3) (L0 := 66) C (mX10_things l D Ca B En C.2.2.2.2.2.2.2.1 c2.1 N x0 c2.2 _ hc3) hRm kc3 rfl kw_1469 kw_14 kw_1466 kw_1468 kp_51 hyX10_things (Nat.le_of_ble_eq_true rfl) (Nat.le_of_ble_eq_true rfl) rfl rfl (Nat.le_of_ble_eq_true rfl) dX10_resultsFrom_19 ?_
    refine z_iadd C dX10_resultsFrom_22 ?_
    refine z_istore_n (lv2 := [(2, .int (u2 + c3.2)), (0, .ref x0), (1, .int x1), (3, .int u3)]) C dX10_resultsFrom_23 rfl (by decide) rfl ?_
    refine z_iinc (lv2 := [(3, .int (u3 + (zi 1))), (2, .int (u2 + c3.2)), (0, .ref x0), (1, .int x1)]) C (u3 + (zi 1)) dX10_resultsFrom_24 3 rfl rfl (by decide) rfl ?_
    refine z_goto C 4 dX10_resultsFrom_27 (by decide) ?_
    cases hf
    refine z_sub [2, 3, 1, 0] rfl ?_
    exact hk.1 _ rfl

theorem wsX10_resultsFrom_4 (C : zC p s m args meth c cX10_resultsFrom RX10 4 D Ca B En) (hRm : zRm R 3 66 cells slots) (x0 : Nat) (x1 : Int32) (n : Nat) (z : (zS × Int32 × Int32)) (x : (zS × Int32)) (hf : zloop (sX10_resultsFrom_4 x0 x1) n z = some x) (hk : (∀ o : (zS × Int32), x = o → zW p l e R s m args below meth c cells slots Q D Ca B 4 o.1 N 30 [(2, .int o.2)] [])) : zW p l e R s m args below meth c cells slots Q D Ca B 4 z.1 N 4 [(0, .ref x0), (1, .int x1), (2, .int z.2.1), (3, .int z.2.2)] [] := by
  refine zloop_W (P := fun z : (zS × Int32 × Int32) => zW p l e R s m args below meth c cells slots Q D Ca B 4 z.1 N 4 [(0, .ref x0), (1, .int x1), (2, .int z.2.1), (3, .int z.2.2)] []) (K := fun x : (zS × Int32) => (∀ o : (zS × Int32), x = o → zW p l e R s m args below meth c cells slots Q D Ca B 4 o.1 N 30 [(2, .int o.2)] [])) ?_ n z x hf hk
  intro z y hy h1 h2
  refine wsX10_resultsFrom_4b C hRm x0 x1 z.1 z.2.1 z.2.2 y hy ⟨fun z2 e => h1 z2 e, fun o e => (h2 _ e) o rfl⟩
set_option maxRecDepth 100000 in
set_option maxHeartbeats 4000000 in
theorem wfX10_resultsFrom (C : zC p s m args meth c cX10_resultsFrom RX10 4 D Ca B En) (hRm : zRm R 3 66 cells slots) (σ : zS) (x0 : Nat) (x1 : Int32) (τ : zS) (r : Int32) (hf : fX10_resultsFrom σ x0 x1 = some (τ, r)) (hq : ∀ (pc : Nat) (lv : List (Nat × Value)), decode cX10_resultsFrom pc = .ok (.ireturn, 1) → zW p l e R s m args below meth c cells slots Q D Ca B 4 τ N pc lv [.int r]) : zW p l e R s m args below meth c cells slots Q D Ca B 4 σ N 0 [(0, .ref x0), (1, .int x1)] [] := by
  unfold fX10_resultsFrom at hf
  refine z_iconst C (zi 0) dX10_resultsFrom_0 (by decide) ?_
  refine z_istore_n (lv2 := [(2, .int ((zi 0))), (0, .ref x0), (1, .int x1)]) C dX10_resultsFrom_1 rfl (by decide) rfl ?_
  refine z_iconst C (zi 0) dX10_resultsFrom_2 (by decide) ?_
  refine z_istore_n (lv2 := [(3, .int ((zi 0))), (2, .int ((zi 0))), (0, .ref x0), (1, .int x1)]) C dX10_resultsFrom_3 rfl (by decide) rfl ?_
  obtain ⟨o5, ho5, hf⟩ := zbind hf
  refine z_sub [2, 3, 1, 0] rfl ?_
  refine wsX10_resultsFrom_4 C hRm _ _ zfuel (σ, (zi 0), (zi 0)) o5 ho5 ?_
  intro z9 e9
  subst e9
  refine z_iload_n C dX10_resultsFrom_30 rfl 0 rfl ?_
  cases hf
  exact hq _ _ dX10_resultsFrom_31

theorem mX10_resultsFrom (l : Launch) (D : va_G) (Ca : Nat → ClassId) (B : Nat) (En : State → Prop) (hE : zEk B En) (σ : zS) (N : Nat) (x0 : Nat) (x1 : Int32) (X : zS × Int32) (hf : fX10_resultsFrom σ x0 x1 = some X) : zMi l D Ca B En yX10_resultsFrom cX10_resultsFrom 4 (Option.some Jvm.ClassFile.FieldType.int) 3 66 [.ref x0, .int x1] σ N X.1 X.2 :=
  zMet_i (own := RX10) hE (by decide +kernel) rfl (Nat.le_of_ble_eq_true rfl) (fun p e s m args below meth c C hr hRm => wfX10_resultsFrom C hRm σ x0 x1 X.1 X.2 hf (fun pc lv hd => zfin_i C hr hd))
theorem dX10_instance_0 : decode cX10_instance 0 = .ok (.aload_n 0, 1) := by decide +kernel
theorem dX10_instance_1 : decode cX10_instance 1 = .ok (.aload_n 0, 1) := by decide +kernel
theorem dX10_instance_2 : decode cX10_instance 2 = .ok (.iload_n 1, 1) := by decide +kernel
theorem dX10_instance_3 : decode cX10_instance 3 = .ok (.invokevirtual 329, 3) := by decide +kernel
theorem dX10_instance_6 : decode cX10_instance 6 = .ok (.ifCond .eq 19, 3) := by decide +kernel
theorem dX10_instance_9 : decode cX10_instance 9 = .ok (.iload_n 2, 1) := by decide +kernel
theorem dX10_instance_10 : decode cX10_instance 10 = .ok (.i2l, 1) := by decide +kernel
theorem dX10_instance_11 : decode cX10_instance 11 = .ok (.lconst 0, 1) := by decide +kernel
theorem dX10_instance_12 : decode cX10_instance 12 = .ok (.ldc2_w 276, 3) := by decide +kernel
theorem dX10_instance_15 : decode cX10_instance 15 = .ok (.invokestatic 247, 3) := by decide +kernel
theorem dX10_instance_18 : decode cX10_instance 18 = .ok (.ifCond .eq 7, 3) := by decide +kernel
theorem dX10_instance_21 : decode cX10_instance 21 = .ok (.iconst 1, 1) := by decide +kernel
theorem dX10_instance_22 : decode cX10_instance 22 = .ok (.goto 4, 3) := by decide +kernel
theorem dX10_instance_25 : decode cX10_instance 25 = .ok (.iconst 0, 1) := by decide +kernel
theorem dX10_instance_26 : decode cX10_instance 26 = .ok (.invokevirtual 96, 3) := by decide +kernel
theorem dX10_instance_29 : decode cX10_instance 29 = .ok (.ifCond .ne 5, 3) := by decide +kernel
theorem dX10_instance_32 : decode cX10_instance 32 = .ok (.iconst 0, 1) := by decide +kernel
theorem dX10_instance_33 : decode cX10_instance 33 = .ok (.ireturn, 1) := by decide +kernel
theorem dX10_instance_34 : decode cX10_instance 34 = .ok (.iload_n 2, 1) := by decide +kernel
theorem dX10_instance_35 : decode cX10_instance 35 = .ok (.tableswitch 57 0 3 #[29, 35, 45, 51], 29) := by decide +kernel
theorem dX10_instance_64 : decode cX10_instance 64 = .ok (.aload_n 0, 1) := by decide +kernel
theorem dX10_instance_65 : decode cX10_instance 65 = .ok (.iload_n 1, 1) := by decide +kernel
theorem dX10_instance_66 : decode cX10_instance 66 = .ok (.invokevirtual 332, 3) := by decide +kernel
theorem dX10_instance_69 : decode cX10_instance 69 = .ok (.ireturn, 1) := by decide +kernel
theorem dX10_instance_70 : decode cX10_instance 70 = .ok (.aload_n 0, 1) := by decide +kernel
theorem dX10_instance_71 : decode cX10_instance 71 = .ok (.getfield 21, 3) := by decide +kernel
theorem dX10_instance_74 : decode cX10_instance 74 = .ok (.bipush 33, 2) := by decide +kernel
theorem dX10_instance_76 : decode cX10_instance 76 = .ok (.iload_n 1, 1) := by decide +kernel
theorem dX10_instance_77 : decode cX10_instance 77 = .ok (.iadd, 1) := by decide +kernel
theorem dX10_instance_78 : decode cX10_instance 78 = .ok (.iaload, 1) := by decide +kernel
theorem dX10_instance_79 : decode cX10_instance 79 = .ok (.ireturn, 1) := by decide +kernel
theorem dX10_instance_80 : decode cX10_instance 80 = .ok (.aload_n 0, 1) := by decide +kernel
theorem dX10_instance_81 : decode cX10_instance 81 = .ok (.iload_n 1, 1) := by decide +kernel
theorem dX10_instance_82 : decode cX10_instance 82 = .ok (.invokevirtual 335, 3) := by decide +kernel
theorem dX10_instance_85 : decode cX10_instance 85 = .ok (.ireturn, 1) := by decide +kernel
theorem dX10_instance_86 : decode cX10_instance 86 = .ok (.aload_n 0, 1) := by decide +kernel
theorem dX10_instance_87 : decode cX10_instance 87 = .ok (.iload_n 1, 1) := by decide +kernel
theorem dX10_instance_88 : decode cX10_instance 88 = .ok (.invokevirtual 338, 3) := by decide +kernel
theorem dX10_instance_91 : decode cX10_instance 91 = .ok (.ireturn, 1) := by decide +kernel
theorem dX10_instance_92 : decode cX10_instance 92 = .ok (.aload_n 0, 1) := by decide +kernel
theorem dX10_instance_93 : decode cX10_instance 93 = .ok (.iload_n 1, 1) := by decide +kernel
theorem dX10_instance_94 : decode cX10_instance 94 = .ok (.invokevirtual 341, 3) := by decide +kernel
theorem dX10_instance_97 : decode cX10_instance 97 = .ok (.ireturn, 1) := by decide +kernel
theorem hyX10_instance : yX10_instance.cls ≠ "java/lang/invoke/MethodHandle" ∧ yX10_instance.cls ≠ "java/lang/invoke/VarHandle" ∧ (parseMethodDescriptor yX10_instance.desc).map (fun d => d.parameters.length) = some 2 := ⟨by decide +kernel, by decide +kernel, by decide +kernel⟩
set_option maxRecDepth 100000 in
set_option maxHeartbeats 4000000 in
theorem wjX10_instance_26 (C : zC p s m args meth c cX10_instance RX10 3 D Ca B En) (hRm : zRm R 4 89 cells slots) (σ : zS) (x0 : Nat) (x1 : Int32) (x2 : Int32) (y0 : Int32) (y1 : Nat) (τ : zS) (r : Int32) (hf : jX10_instance_26 σ x0 x1 x2 y0 y1 = some (τ, r)) (hq : ∀ (pc : Nat) (lv : List (Nat × Value)), decode cX10_instance pc = .ok (.ireturn, 1) → zW p l e R s m args below meth c cells slots Q D Ca B 3 τ N pc lv [.int r]) : zW p l e R s m args below meth c cells slots Q D Ca B 3 σ N 26 [(0, .ref x0), (1, .int x1), (2, .int x2)] [.int y0, .ref y1] := by
  unfold jX10_instance_26 at hf
  obtain ⟨c2, hc2, hf⟩ := zbind hf
  obtain ⟨kc2, hc2⟩ := zck_ok hc2
  refine z_callVi (As := [.int y0]) (F0 := 4) (L0 := 89) C (mX10_is l D Ca B En C.2.2.2.2.2.2.2.1 σ N y1 y0 _ hc2) hRm kc2 rfl kw_1373 kw_14 kw_1370 kw_1372 kp_37 hyX10_is (Nat.le_of_ble_eq_true rfl) (Nat.le_of_ble_eq_true rfl) rfl rfl (Nat.le_of_ble_eq_true rfl) dX10_instance_26 ?_
  refine z_if_ne C 34 dX10_instance_29 (by decide) (fun q13 => ?_) (fun q13 => ?_)
  · rw [if_neg q13] at hf
    refine z_iload_n C dX10_instance_34 rfl 2 rfl ?_
    by_cases q3 : x2 = (zi 0)
    · rw [if_pos q3] at hf
      refine z_tableIn C 64 dX10_instance_35 (by rw [q3]; decide) (by rw [q3]; decide) (by rw [q3]; rfl) (by decide) ?_
      refine z_aload_n C dX10_instance_64 rfl 0 rfl ?_
      refine z_iload_n C dX10_instance_65 rfl 1 rfl ?_
      obtain ⟨c4, hc4, hf⟩ := zbind hf
      obtain ⟨kc4, hc4⟩ := zck_ok hc4
      refine z_callVi (As := [.int x1]) (F0 := 4) (L0 := 89) C (mX10_groupsOf l D Ca B En C.2.2.2.2.2.2.2.1 c2.1 N x0 x1 _ hc4) hRm kc4 rfl kw_1730 kw_14 kw_1727 kw_1729 kp_94 hyX10_groupsOf (Nat.le_of_ble_eq_true rfl) (Nat.le_of_ble_eq_true rfl) rfl rfl (Nat.le_of_ble_eq_true rfl) dX10_instance_66 ?_
      cases hf
      exact hq _ _ dX10_instance_69
    · rw [if_neg q3] at hf
      by_cases q5 : x2 = (zi 1)
      · rw [if_pos q5] at hf
        refine z_tableIn C 70 dX10_instance_35 (by rw [q5]; decide) (by rw [q5]; decide) (by rw [q5]; rfl) (by decide) ?_
        refine z_aload_n C dX10_instance_70 rfl 0 rfl ?_
        obtain ⟨v6, hv6, hf⟩ := zbind hf
        refine gf_RX10_21 C hv6 dX10_instance_71 ?_
        refine z_bipush C (zi 33) dX10_instance_74 (by decide) ?_
        refine z_iload_n C dX10_instance_76 rfl 1 rfl ?_
        refine z_iadd C dX10_instance_77 ?_
        obtain ⟨v7, hv7, hf⟩ := zbind hf
        refine z_aI C hv7 dX10_instance_78 ?_
        cases hf
        exact hq _ _ dX10_instance_79
      · rw [if_neg q5] at hf
        by_cases q8 : x2 = (zi 2)
        · rw [if_pos q8] at hf
          refine z_tableIn C 80 dX10_instance_35 (by rw [q8]; decide) (by rw [q8]; decide) (by rw [q8]; rfl) (by decide) ?_
          refine z_aload_n C dX10_instance_80 rfl 0 rfl ?_
          refine z_iload_n C dX10_instance_81 rfl 1 rfl ?_
          obtain ⟨c9, hc9, hf⟩ := zbind hf
          obtain ⟨kc9, hc9⟩ := zck_ok hc9
          refine z_callVi (As := [.int x1]) (F0 := 4) (L0 := 89) C (mX10_blockedOf l D Ca B En C.2.2.2.2.2.2.2.1 c2.1 N x0 x1 _ hc9) hRm kc9 rfl kw_1734 kw_14 kw_1731 kw_1733 kp_95 hyX10_blockedOf (Nat.le_of_ble_eq_true rfl) (Nat.le_of_ble_eq_true rfl) rfl rfl (Nat.le_of_ble_eq_true rfl) dX10_instance_82 ?_
          cases hf
          exact hq _ _ dX10_instance_85
        · rw [if_neg q8] at hf
          by_cases q10 : x2 = (zi 3)
          · rw [if_pos q10] at hf
            refine z_tableIn C 86 dX10_instance_35 (by rw [q10]; decide) (by rw [q10]; decide) (by rw [q10]; rfl) (by decide) ?_
            refine z_aload_n C dX10_instance_86 rfl 0 rfl ?_
            refine z_iload_n C dX10_instance_87 rfl 1 rfl ?_
            obtain ⟨c11, hc11, hf⟩ := zbind hf
            obtain ⟨kc11, hc11⟩ := zck_ok hc11
            refine z_callVi (As := [.int x1]) (F0 := 4) (L0 := 89) C (mX10_recordsTo l D Ca B En C.2.2.2.2.2.2.2.1 c2.1 N x0 x1 _ hc11) hRm kc11 rfl kw_1738 kw_14 kw_1735 kw_1737 kp_96 hyX10_recordsTo (Nat.le_of_ble_eq_true rfl) (Nat.le_of_ble_eq_true rfl) rfl rfl (Nat.le_of_ble_eq_true rfl) dX10_instance_88 ?_
            cases hf
            exact hq _ _ dX10_instance_91
          · rw [if_neg q10] at hf
            have w9 : ∀ k : Nat, k < 4 → ¬ x2 = Int32.ofInt ((0 : Int) + k) := by
              intro k hk
              match k, hk with
              | 0, _ => exact q3
              | 1, _ => exact q5
              | 2, _ => exact q8
              | 3, _ => exact q10
              | k + 4, hk => exact absurd hk (by omega)
            refine z_tableOut C 92 dX10_instance_35 (zsw 0 4 w9 (by decide)) (by decide) ?_
            refine z_aload_n C dX10_instance_92 rfl 0 rfl ?_
            refine z_iload_n C dX10_instance_93 rfl 1 rfl ?_
            obtain ⟨c12, hc12, hf⟩ := zbind hf
            obtain ⟨kc12, hc12⟩ := zck_ok hc12
            refine z_callVi (As := [.int x1]) (F0 := 4) (L0 := 89) C (mX10_resultsFrom l D Ca B En C.2.2.2.2.2.2.2.1 c2.1 N x0 x1 _ hc12) hRm kc12 rfl kw_1742 kw_14 kw_1739 kw_1741 kp_97 hyX10_resultsFrom (Nat.le_of_ble_eq_true rfl) (Nat.le_of_ble_eq_true rfl) rfl rfl (Nat.le_of_ble_eq_true rfl) dX10_instance_94 ?_
            cases hf
            exact hq _ _ dX10_instance_97
  · rw [if_pos q13] at hf
    refine z_iconst C (zi 0) dX10_instance_32 (by decide) ?_
    cases hf
    exact hq _ _ dX10_instance_33

set_option maxRecDepth 100000 in
set_option maxHeartbeats 4000000 in
theorem wjX10_instance_25 (C : zC p s m args meth c cX10_instance RX10 3 D Ca B En) (hRm : zRm R 4 89 cells slots) (σ : zS) (x0 : Nat) (x1 : Int32) (x2 : Int32) (y0 : Nat) (τ : zS) (r : Int32) (hf : jX10_instance_25 σ x0 x1 x2 y0 = some (τ, r)) (hq : ∀ (pc : Nat) (lv : List (Nat × Value)), decode cX10_instance pc = .ok (.ireturn, 1) → zW p l e R s m args below meth c cells slots Q D Ca B 3 τ N pc lv [.int r]) : zW p l e R s m args below meth c cells slots Q D Ca B 3 σ N 25 [(0, .ref x0), (1, .int x1), (2, .int x2)] [.ref y0] := by
  unfold jX10_instance_25 at hf
  refine z_iconst C (zi 0) dX10_instance_25 (by decide) ?_
  refine z_sub [0, 1, 2] rfl ?_
  exact wjX10_instance_26 C hRm _ _ _ _ _ _ _ _ hf hq

set_option maxRecDepth 100000 in
set_option maxHeartbeats 4000000 in
theorem wfX10_instance (C : zC p s m args meth c cX10_instance RX10 3 D Ca B En) (hRm : zRm R 4 89 cells slots) (σ : zS) (x0 : Nat) (x1 : Int32) (x2 : Int32) (τ : zS) (r : Int32) (hf : fX10_instance σ x0 x1 x2 = some (τ, r)) (hq : ∀ (pc : Nat) (lv : List (Nat × Value)), decode cX10_instance pc = .ok (.ireturn, 1) → zW p l e R s m args below meth c cells slots Q D Ca B 3 τ N pc lv [.int r]) : zW p l e R s m args below meth c cells slots Q D Ca B 3 σ N 0 [(0, .ref x0), (1, .int x1), (2, .int x2)] [] := by
  unfold fX10_instance at hf
  refine z_aload_n C dX10_instance_0 rfl 0 rfl ?_
  refine z_aload_n C dX10_instance_1 rfl 0 rfl ?_
  refine z_iload_n C dX10_instance_2 rfl 1 rfl ?_
  obtain ⟨c1, hc1, hf⟩ := zbind hf
  obtain ⟨kc1, hc1⟩ := zck_ok hc1
  refine z_callVi (As := [.int x1]) (F0 := 4) (L0 := 89) C (mX10_isInstance l D Ca B En C.2.2.2.2.2.2.2.1 σ N x0 x1 _ hc1) hRm kc1 rfl kw_1726 kw_14 kw_1723 kw_1725 kp_93 hyX10_isInstance (Nat.le_of_ble_eq_true rfl) (Nat.le_of_ble_eq_true rfl) rfl rfl (Nat.le_of_ble_eq_true rfl) dX10_instance_3 ?_
  refine z_if_eq C 25 dX10_instance_6 (by decide) (fun q16 => ?_) (fun q16 => ?_)
  · rw [if_pos q16] at hf
    refine z_sub [0, 1, 2] rfl ?_
    exact wjX10_instance_25 C hRm _ _ _ _ _ _ _ hf hq
  · rw [if_neg q16] at hf
    refine z_iload_n C dX10_instance_9 rfl 2 rfl ?_
    refine z_i2l C dX10_instance_10 ?_
    refine z_lconst C 0 dX10_instance_11 (by decide) ?_
    refine z_ldc2 C kw_1607 dX10_instance_12 ?_
    obtain ⟨c14, hc14, hf⟩ := zbind hf
    refine z_callSi (As := [.long x2.toInt64, .long 0, .long 4]) (F0 := 4) (L0 := 89) C (mX10_isIn l D Ca B En C.2.2.2.2.2.2.2.1 c1.1 N x2.toInt64 0 4 _ hc14) hRm kw_1392 kw_14 kw_1390 kw_1391 hyX10_isIn (Nat.le_of_ble_eq_true rfl) (Nat.le_of_ble_eq_true rfl) rfl rfl (Nat.le_of_ble_eq_true rfl) dX10_instance_15 ?_
    refine z_if_eq C 25 dX10_instance_18 (by decide) (fun q15 => ?_) (fun q15 => ?_)
    · rw [if_pos q15] at hf
      refine z_sub [0, 1, 2] rfl ?_
      exact wjX10_instance_25 C hRm _ _ _ _ _ _ _ hf hq
    · rw [if_neg q15] at hf
      refine z_iconst C (zi 1) dX10_instance_21 (by decide) ?_
      refine z_goto C 26 dX10_instance_22 (by decide) ?_
      refine z_sub [0, 1, 2] rfl ?_
      exact wjX10_instance_26 C hRm _ _ _ _ _ _ _ _ hf hq

theorem mX10_instance (l : Launch) (D : va_G) (Ca : Nat → ClassId) (B : Nat) (En : State → Prop) (hE : zEk B En) (σ : zS) (N : Nat) (x0 : Nat) (x1 : Int32) (x2 : Int32) (X : zS × Int32) (hf : fX10_instance σ x0 x1 x2 = some X) : zMi l D Ca B En yX10_instance cX10_instance 3 (Option.some Jvm.ClassFile.FieldType.int) 4 89 [.ref x0, .int x1, .int x2] σ N X.1 X.2 :=
  zMet_i (own := RX10) hE (by decide +kernel) rfl (Nat.le_of_ble_eq_true rfl) (fun p e s m args below meth c C hr hRm => wfX10_instance C hRm σ x0 x1 x2 X.1 X.2 hf (fun pc lv hd => zfin_i C hr hd))
theorem dX10_sink_0 : decode cX10_sink 0 = .ok (.aload_n 0, 1) := by decide +kernel
theorem dX10_sink_1 : decode cX10_sink 1 = .ok (.aload_n 0, 1) := by decide +kernel
theorem dX10_sink_2 : decode cX10_sink 2 = .ok (.iload_n 1, 1) := by decide +kernel
theorem dX10_sink_3 : decode cX10_sink 3 = .ok (.invokevirtual 344, 3) := by decide +kernel
theorem dX10_sink_6 : decode cX10_sink 6 = .ok (.ifCond .eq 19, 3) := by decide +kernel
theorem dX10_sink_9 : decode cX10_sink 9 = .ok (.iload_n 2, 1) := by decide +kernel
theorem dX10_sink_10 : decode cX10_sink 10 = .ok (.i2l, 1) := by decide +kernel
theorem dX10_sink_11 : decode cX10_sink 11 = .ok (.lconst 0, 1) := by decide +kernel
theorem dX10_sink_12 : decode cX10_sink 12 = .ok (.ldc2_w 324, 3) := by decide +kernel
theorem dX10_sink_15 : decode cX10_sink 15 = .ok (.invokestatic 247, 3) := by decide +kernel
theorem dX10_sink_18 : decode cX10_sink 18 = .ok (.ifCond .eq 7, 3) := by decide +kernel
theorem dX10_sink_21 : decode cX10_sink 21 = .ok (.iconst 1, 1) := by decide +kernel
theorem dX10_sink_22 : decode cX10_sink 22 = .ok (.goto 4, 3) := by decide +kernel
theorem dX10_sink_25 : decode cX10_sink 25 = .ok (.iconst 0, 1) := by decide +kernel
theorem dX10_sink_26 : decode cX10_sink 26 = .ok (.invokevirtual 96, 3) := by decide +kernel
theorem dX10_sink_29 : decode cX10_sink 29 = .ok (.ifCond .ne 5, 3) := by decide +kernel
theorem dX10_sink_32 : decode cX10_sink 32 = .ok (.iconst 0, 1) := by decide +kernel
theorem dX10_sink_33 : decode cX10_sink 33 = .ok (.ireturn, 1) := by decide +kernel
theorem dX10_sink_34 : decode cX10_sink 34 = .ok (.iload_n 2, 1) := by decide +kernel
theorem dX10_sink_35 : decode cX10_sink 35 = .ok (.tableswitch 64 0 2 #[25, 38, 51], 25) := by decide +kernel
theorem dX10_sink_60 : decode cX10_sink 60 = .ok (.aload_n 0, 1) := by decide +kernel
theorem dX10_sink_61 : decode cX10_sink 61 = .ok (.getfield 21, 3) := by decide +kernel
theorem dX10_sink_64 : decode cX10_sink 64 = .ok (.sipush 9792, 3) := by decide +kernel
theorem dX10_sink_67 : decode cX10_sink 67 = .ok (.iload_n 1, 1) := by decide +kernel
theorem dX10_sink_68 : decode cX10_sink 68 = .ok (.invokestatic 155, 3) := by decide +kernel
theorem dX10_sink_71 : decode cX10_sink 71 = .ok (.iaload, 1) := by decide +kernel
theorem dX10_sink_72 : decode cX10_sink 72 = .ok (.ireturn, 1) := by decide +kernel
theorem dX10_sink_73 : decode cX10_sink 73 = .ok (.aload_n 0, 1) := by decide +kernel
theorem dX10_sink_74 : decode cX10_sink 74 = .ok (.getfield 21, 3) := by decide +kernel
theorem dX10_sink_77 : decode cX10_sink 77 = .ok (.sipush 11394, 3) := by decide +kernel
theorem dX10_sink_80 : decode cX10_sink 80 = .ok (.iload_n 1, 1) := by decide +kernel
theorem dX10_sink_81 : decode cX10_sink 81 = .ok (.invokestatic 155, 3) := by decide +kernel
theorem dX10_sink_84 : decode cX10_sink 84 = .ok (.iaload, 1) := by decide +kernel
theorem dX10_sink_85 : decode cX10_sink 85 = .ok (.ireturn, 1) := by decide +kernel
theorem dX10_sink_86 : decode cX10_sink 86 = .ok (.aload_n 0, 1) := by decide +kernel
theorem dX10_sink_87 : decode cX10_sink 87 = .ok (.getfield 21, 3) := by decide +kernel
theorem dX10_sink_90 : decode cX10_sink 90 = .ok (.sipush 12996, 3) := by decide +kernel
theorem dX10_sink_93 : decode cX10_sink 93 = .ok (.iload_n 1, 1) := by decide +kernel
theorem dX10_sink_94 : decode cX10_sink 94 = .ok (.invokestatic 155, 3) := by decide +kernel
theorem dX10_sink_97 : decode cX10_sink 97 = .ok (.iaload, 1) := by decide +kernel
theorem dX10_sink_98 : decode cX10_sink 98 = .ok (.ireturn, 1) := by decide +kernel
theorem dX10_sink_99 : decode cX10_sink 99 = .ok (.aload_n 0, 1) := by decide +kernel
theorem dX10_sink_100 : decode cX10_sink 100 = .ok (.iload_n 1, 1) := by decide +kernel
theorem dX10_sink_101 : decode cX10_sink 101 = .ok (.invokevirtual 347, 3) := by decide +kernel
theorem dX10_sink_104 : decode cX10_sink 104 = .ok (.ireturn, 1) := by decide +kernel
theorem hyX10_sink : yX10_sink.cls ≠ "java/lang/invoke/MethodHandle" ∧ yX10_sink.cls ≠ "java/lang/invoke/VarHandle" ∧ (parseMethodDescriptor yX10_sink.desc).map (fun d => d.parameters.length) = some 2 := ⟨by decide +kernel, by decide +kernel, by decide +kernel⟩
set_option maxRecDepth 100000 in
set_option maxHeartbeats 4000000 in
theorem wjX10_sink_26 (C : zC p s m args meth c cX10_sink RX10 3 D Ca B En) (hRm : zRm R 2 46 cells slots) (σ : zS) (x0 : Nat) (x1 : Int32) (x2 : Int32) (y0 : Int32) (y1 : Nat) (τ : zS) (r : Int32) (hf : jX10_sink_26 σ x0 x1 x2 y0 y1 = some (τ, r)) (hq : ∀ (pc : Nat) (lv : List (Nat × Value)), decode cX10_sink pc = .ok (.ireturn, 1) → zW p l e R s m args below meth c cells slots Q D Ca B 3 τ N pc lv [.int r]) : zW p l e R s m args below meth c cells slots Q D Ca B 3 σ N 26 [(0, .ref x0), (1, .int x1), (2, .int x2)] [.int y0, .ref y1] := by
  unfold jX10_sink_26 at hf
  obtain ⟨c2, hc2, hf⟩ := zbind hf
  obtain ⟨kc2, hc2⟩ := zck_ok hc2
  refine z_callVi (As := [.int y0]) (F0 := 2) (L0 := 46) C (mX10_is l D Ca B En C.2.2.2.2.2.2.2.1 σ N y1 y0 _ hc2) hRm kc2 rfl kw_1373 kw_14 kw_1370 kw_1372 kp_37 hyX10_is (Nat.le_of_ble_eq_true rfl) (Nat.le_of_ble_eq_true rfl) rfl rfl (Nat.le_of_ble_eq_true rfl) dX10_sink_26 ?_
  refine z_if_ne C 34 dX10_sink_29 (by decide) (fun q16 => ?_) (fun q16 => ?_)
  · rw [if_neg q16] at hf
    refine z_iload_n C dX10_sink_34 rfl 2 rfl ?_
    by_cases q3 : x2 = (zi 0)
    · rw [if_pos q3] at hf
      refine z_tableIn C 60 dX10_sink_35 (by rw [q3]; decide) (by rw [q3]; decide) (by rw [q3]; rfl) (by decide) ?_
      refine z_aload_n C dX10_sink_60 rfl 0 rfl ?_
      obtain ⟨v4, hv4, hf⟩ := zbind hf
      refine gf_RX10_21 C hv4 dX10_sink_61 ?_
      refine z_sipush C (zi 9792) dX10_sink_64 (by decide) ?_
      refine z_iload_n C dX10_sink_67 rfl 1 rfl ?_
      obtain ⟨c5, hc5, hf⟩ := zbind hf
      refine z_callSi (As := [.int ((zi 9792)), .int x1]) (F0 := 2) (L0 := 46) C (mX10_results l D Ca B En C.2.2.2.2.2.2.2.1 c2.1 N ((zi 9792)) x1 _ hc5) hRm kw_1431 kw_14 kw_1429 kw_1430 hyX10_results (Nat.le_of_ble_eq_true rfl) (Nat.le_of_ble_eq_true rfl) rfl rfl (Nat.le_of_ble_eq_true rfl) dX10_sink_68 ?_
      obtain ⟨v6, hv6, hf⟩ := zbind hf
      refine z_aI C hv6 dX10_sink_71 ?_
      cases hf
      exact hq _ _ dX10_sink_72
    · rw [if_neg q3] at hf
      by_cases q7 : x2 = (zi 1)
      · rw [if_pos q7] at hf
        refine z_tableIn C 73 dX10_sink_35 (by rw [q7]; decide) (by rw [q7]; decide) (by rw [q7]; rfl) (by decide) ?_
        refine z_aload_n C dX10_sink_73 rfl 0 rfl ?_
        obtain ⟨v8, hv8, hf⟩ := zbind hf
        refine gf_RX10_21 C hv8 dX10_sink_74 ?_
        refine z_sipush C (zi 11394) dX10_sink_77 (by decide) ?_
        refine z_iload_n C dX10_sink_80 rfl 1 rfl ?_
        obtain ⟨c9, hc9, hf⟩ := zbind hf
        refine z_callSi (As := [.int ((zi 11394)), .int x1]) (F0 := 2) (L0 := 46) C (mX10_results l D Ca B En C.2.2.2.2.2.2.2.1 c2.1 N ((zi 11394)) x1 _ hc9) hRm kw_1431 kw_14 kw_1429 kw_1430 hyX10_results (Nat.le_of_ble_eq_true rfl) (Nat.le_of_ble_eq_true rfl) rfl rfl (Nat.le_of_ble_eq_true rfl) dX10_sink_81 ?_
        obtain ⟨v10, hv10, hf⟩ := zbind hf
        refine z_aI C hv10 dX10_sink_84 ?_
        cases hf
        exact hq _ _ dX10_sink_85
      · rw [if_neg q7] at hf
        by_cases q11 : x2 = (zi 2)
        · rw [if_pos q11] at hf
          refine z_tableIn C 86 dX10_sink_35 (by rw [q11]; decide) (by rw [q11]; decide) (by rw [q11]; rfl) (by decide) ?_
          refine z_aload_n C dX10_sink_86 rfl 0 rfl ?_
          obtain ⟨v12, hv12, hf⟩ := zbind hf
          refine gf_RX10_21 C hv12 dX10_sink_87 ?_
          refine z_sipush C (zi 12996) dX10_sink_90 (by decide) ?_
          refine z_iload_n C dX10_sink_93 rfl 1 rfl ?_
          obtain ⟨c13, hc13, hf⟩ := zbind hf
          refine z_callSi (As := [.int ((zi 12996)), .int x1]) (F0 := 2) (L0 := 46) C (mX10_results l D Ca B En C.2.2.2.2.2.2.2.1 c2.1 N ((zi 12996)) x1 _ hc13) hRm kw_1431 kw_14 kw_1429 kw_1430 hyX10_results (Nat.le_of_ble_eq_true rfl) (Nat.le_of_ble_eq_true rfl) rfl rfl (Nat.le_of_ble_eq_true rfl) dX10_sink_94 ?_
          obtain ⟨v14, hv14, hf⟩ := zbind hf
          refine z_aI C hv14 dX10_sink_97 ?_
          cases hf
          exact hq _ _ dX10_sink_98
        · rw [if_neg q11] at hf
          have w9 : ∀ k : Nat, k < 3 → ¬ x2 = Int32.ofInt ((0 : Int) + k) := by
            intro k hk
            match k, hk with
            | 0, _ => exact q3
            | 1, _ => exact q7
            | 2, _ => exact q11
            | k + 3, hk => exact absurd hk (by omega)
          refine z_tableOut C 99 dX10_sink_35 (zsw 0 3 w9 (by decide)) (by decide) ?_
          refine z_aload_n C dX10_sink_99 rfl 0 rfl ?_
          refine z_iload_n C dX10_sink_100 rfl 1 rfl ?_
          obtain ⟨c15, hc15, hf⟩ := zbind hf
          obtain ⟨kc15, hc15⟩ := zck_ok hc15
          refine z_callVi (As := [.int x1]) (F0 := 2) (L0 := 46) C (mX10_blockedOfSink l D Ca B En C.2.2.2.2.2.2.2.1 c2.1 N x0 x1 _ hc15) hRm kc15 rfl kw_1754 kw_14 kw_1751 kw_1753 kp_99 hyX10_blockedOfSink (Nat.le_of_ble_eq_true rfl) (Nat.le_of_ble_eq_true rfl) rfl rfl (Nat.le_of_ble_eq_true rfl) dX10_sink_101 ?_
          cases hf
          exact hq _ _ dX10_sink_104
  · rw [if_pos q16] at hf
    refine z_iconst C (zi 0) dX10_sink_32 (by decide) ?_
    cases hf
    exact hq _ _ dX10_sink_33

set_option maxRecDepth 100000 in
set_option maxHeartbeats 4000000 in
theorem wjX10_sink_25 (C : zC p s m args meth c cX10_sink RX10 3 D Ca B En) (hRm : zRm R 2 46 cells slots) (σ : zS) (x0 : Nat) (x1 : Int32) (x2 : Int32) (y0 : Nat) (τ : zS) (r : Int32) (hf : jX10_sink_25 σ x0 x1 x2 y0 = some (τ, r)) (hq : ∀ (pc : Nat) (lv : List (Nat × Value)), decode cX10_sink pc = .ok (.ireturn, 1) → zW p l e R s m args below meth c cells slots Q D Ca B 3 τ N pc lv [.int r]) : zW p l e R s m args below meth c cells slots Q D Ca B 3 σ N 25 [(0, .ref x0), (1, .int x1), (2, .int x2)] [.ref y0] := by
  unfold jX10_sink_25 at hf
  refine z_iconst C (zi 0) dX10_sink_25 (by decide) ?_
  refine z_sub [0, 1, 2] rfl ?_
  exact wjX10_sink_26 C hRm _ _ _ _ _ _ _ _ hf hq

set_option maxRecDepth 100000 in
set_option maxHeartbeats 4000000 in
theorem wfX10_sink (C : zC p s m args meth c cX10_sink RX10 3 D Ca B En) (hRm : zRm R 2 46 cells slots) (σ : zS) (x0 : Nat) (x1 : Int32) (x2 : Int32) (τ : zS) (r : Int32) (hf : fX10_sink σ x0 x1 x2 = some (τ, r)) (hq : ∀ (pc : Nat) (lv : List (Nat × Value)), decode cX10_sink pc = .ok (.ireturn, 1) → zW p l e R s m args below meth c cells slots Q D Ca B 3 τ N pc lv [.int r]) : zW p l e R s m args below meth c cells slots Q D Ca B 3 σ N 0 [(0, .ref x0), (1, .int x1), (2, .int x2)] [] := by
  unfold fX10_sink at hf
  refine z_aload_n C dX10_sink_0 rfl 0 rfl ?_
  refine z_aload_n C dX10_sink_1 rfl 0 rfl ?_
  refine z_iload_n C dX10_sink_2 rfl 1 rfl ?_
  obtain ⟨c1, hc1, hf⟩ := zbind hf
  obtain ⟨kc1, hc1⟩ := zck_ok hc1
  refine z_callVi (As := [.int x1]) (F0 := 2) (L0 := 46) C (mX10_isSink l D Ca B En C.2.2.2.2.2.2.2.1 σ N x0 x1 _ hc1) hRm kc1 rfl kw_1750 kw_14 kw_1747 kw_1749 kp_98 hyX10_isSink (Nat.le_of_ble_eq_true rfl) (Nat.le_of_ble_eq_true rfl) rfl rfl (Nat.le_of_ble_eq_true rfl) dX10_sink_3 ?_
  refine z_if_eq C 25 dX10_sink_6 (by decide) (fun q19 => ?_) (fun q19 => ?_)
  · rw [if_pos q19] at hf
    refine z_sub [0, 1, 2] rfl ?_
    exact wjX10_sink_25 C hRm _ _ _ _ _ _ _ hf hq
  · rw [if_neg q19] at hf
    refine z_iload_n C dX10_sink_9 rfl 2 rfl ?_
    refine z_i2l C dX10_sink_10 ?_
    refine z_lconst C 0 dX10_sink_11 (by decide) ?_
    refine z_ldc2 C kw_1702 dX10_sink_12 ?_
    obtain ⟨c17, hc17, hf⟩ := zbind hf
    refine z_callSi (As := [.long x2.toInt64, .long 0, .long 3]) (F0 := 2) (L0 := 46) C (mX10_isIn l D Ca B En C.2.2.2.2.2.2.2.1 c1.1 N x2.toInt64 0 3 _ hc17) hRm kw_1392 kw_14 kw_1390 kw_1391 hyX10_isIn (Nat.le_of_ble_eq_true rfl) (Nat.le_of_ble_eq_true rfl) rfl rfl (Nat.le_of_ble_eq_true rfl) dX10_sink_15 ?_
    refine z_if_eq C 25 dX10_sink_18 (by decide) (fun q18 => ?_) (fun q18 => ?_)
    · rw [if_pos q18] at hf
      refine z_sub [0, 1, 2] rfl ?_
      exact wjX10_sink_25 C hRm _ _ _ _ _ _ _ hf hq
    · rw [if_neg q18] at hf
      refine z_iconst C (zi 1) dX10_sink_21 (by decide) ?_
      refine z_goto C 26 dX10_sink_22 (by decide) ?_
      refine z_sub [0, 1, 2] rfl ?_
      exact wjX10_sink_26 C hRm _ _ _ _ _ _ _ _ hf hq

theorem mX10_sink (l : Launch) (D : va_G) (Ca : Nat → ClassId) (B : Nat) (En : State → Prop) (hE : zEk B En) (σ : zS) (N : Nat) (x0 : Nat) (x1 : Int32) (x2 : Int32) (X : zS × Int32) (hf : fX10_sink σ x0 x1 x2 = some X) : zMi l D Ca B En yX10_sink cX10_sink 3 (Option.some Jvm.ClassFile.FieldType.int) 2 46 [.ref x0, .int x1, .int x2] σ N X.1 X.2 :=
  zMet_i (own := RX10) hE (by decide +kernel) rfl (Nat.le_of_ble_eq_true rfl) (fun p e s m args below meth c C hr hRm => wfX10_sink C hRm σ x0 x1 x2 X.1 X.2 hf (fun pc lv hd => zfin_i C hr hd))
theorem dX10_shown_0 : decode cX10_shown 0 = .ok (.aload_n 0, 1) := by decide +kernel
theorem dX10_shown_1 : decode cX10_shown 1 = .ok (.aload_n 0, 1) := by decide +kernel
theorem dX10_shown_2 : decode cX10_shown 2 = .ok (.iload_n 1, 1) := by decide +kernel
theorem dX10_shown_3 : decode cX10_shown 3 = .ok (.invokevirtual 344, 3) := by decide +kernel
theorem dX10_shown_6 : decode cX10_shown 6 = .ok (.ifCond .eq 17, 3) := by decide +kernel
theorem dX10_shown_9 : decode cX10_shown 9 = .ok (.iload_n 3, 1) := by decide +kernel
theorem dX10_shown_10 : decode cX10_shown 10 = .ok (.i2l, 1) := by decide +kernel
theorem dX10_shown_11 : decode cX10_shown 11 = .ok (.lconst 0, 1) := by decide +kernel
theorem dX10_shown_12 : decode cX10_shown 12 = .ok (.lconst 1, 1) := by decide +kernel
theorem dX10_shown_13 : decode cX10_shown 13 = .ok (.invokestatic 247, 3) := by decide +kernel
theorem dX10_shown_16 : decode cX10_shown 16 = .ok (.ifCond .eq 7, 3) := by decide +kernel
theorem dX10_shown_19 : decode cX10_shown 19 = .ok (.iconst 1, 1) := by decide +kernel
theorem dX10_shown_20 : decode cX10_shown 20 = .ok (.goto 4, 3) := by decide +kernel
theorem dX10_shown_23 : decode cX10_shown 23 = .ok (.iconst 0, 1) := by decide +kernel
theorem dX10_shown_24 : decode cX10_shown 24 = .ok (.invokevirtual 96, 3) := by decide +kernel
theorem dX10_shown_27 : decode cX10_shown 27 = .ok (.ifCond .eq 32, 3) := by decide +kernel
theorem dX10_shown_30 : decode cX10_shown 30 = .ok (.aload_n 0, 1) := by decide +kernel
theorem dX10_shown_31 : decode cX10_shown 31 = .ok (.iload_n 2, 1) := by decide +kernel
theorem dX10_shown_32 : decode cX10_shown 32 = .ok (.i2l, 1) := by decide +kernel
theorem dX10_shown_33 : decode cX10_shown 33 = .ok (.lconst 0, 1) := by decide +kernel
theorem dX10_shown_34 : decode cX10_shown 34 = .ok (.aload_n 0, 1) := by decide +kernel
theorem dX10_shown_35 : decode cX10_shown 35 = .ok (.getfield 21, 3) := by decide +kernel
theorem dX10_shown_38 : decode cX10_shown 38 = .ok (.sipush 12996, 3) := by decide +kernel
theorem dX10_shown_41 : decode cX10_shown 41 = .ok (.iload_n 1, 1) := by decide +kernel
theorem dX10_shown_42 : decode cX10_shown 42 = .ok (.invokestatic 155, 3) := by decide +kernel
theorem dX10_shown_45 : decode cX10_shown 45 = .ok (.iaload, 1) := by decide +kernel
theorem dX10_shown_46 : decode cX10_shown 46 = .ok (.iconst 1, 1) := by decide +kernel
theorem dX10_shown_47 : decode cX10_shown 47 = .ok (.isub, 1) := by decide +kernel
theorem dX10_shown_48 : decode cX10_shown 48 = .ok (.i2l, 1) := by decide +kernel
theorem dX10_shown_49 : decode cX10_shown 49 = .ok (.invokestatic 247, 3) := by decide +kernel
theorem dX10_shown_52 : decode cX10_shown 52 = .ok (.iconst 2, 1) := by decide +kernel
theorem dX10_shown_53 : decode cX10_shown 53 = .ok (.invokevirtual 292, 3) := by decide +kernel
theorem dX10_shown_56 : decode cX10_shown 56 = .ok (.ifCond .ne 5, 3) := by decide +kernel
theorem dX10_shown_59 : decode cX10_shown 59 = .ok (.iconst 0, 1) := by decide +kernel
theorem dX10_shown_60 : decode cX10_shown 60 = .ok (.ireturn, 1) := by decide +kernel
theorem dX10_shown_61 : decode cX10_shown 61 = .ok (.aload_n 0, 1) := by decide +kernel
theorem dX10_shown_62 : decode cX10_shown 62 = .ok (.sipush 12996, 3) := by decide +kernel
theorem dX10_shown_65 : decode cX10_shown 65 = .ok (.iload_n 1, 1) := by decide +kernel
theorem dX10_shown_66 : decode cX10_shown 66 = .ok (.invokestatic 155, 3) := by decide +kernel
theorem dX10_shown_69 : decode cX10_shown 69 = .ok (.iload_n 2, 1) := by decide +kernel
theorem dX10_shown_70 : decode cX10_shown 70 = .ok (.invokevirtual 100, 3) := by decide +kernel
theorem dX10_shown_73 : decode cX10_shown 73 = .ok (.istore 4, 2) := by decide +kernel
theorem dX10_shown_75 : decode cX10_shown 75 = .ok (.iload_n 3, 1) := by decide +kernel
theorem dX10_shown_76 : decode cX10_shown 76 = .ok (.ifCond .ne 12, 3) := by decide +kernel
theorem dX10_shown_79 : decode cX10_shown 79 = .ok (.iload 4, 2) := by decide +kernel
theorem dX10_shown_81 : decode cX10_shown 81 = .ok (.sipush 20000, 3) := by decide +kernel
theorem dX10_shown_84 : decode cX10_shown 84 = .ok (.idiv, 1) := by decide +kernel
theorem dX10_shown_85 : decode cX10_shown 85 = .ok (.goto 9, 3) := by decide +kernel
theorem dX10_shown_88 : decode cX10_shown 88 = .ok (.iload 4, 2) := by decide +kernel
theorem dX10_shown_90 : decode cX10_shown 90 = .ok (.sipush 20000, 3) := by decide +kernel
theorem dX10_shown_93 : decode cX10_shown 93 = .ok (.irem, 1) := by decide +kernel
theorem dX10_shown_94 : decode cX10_shown 94 = .ok (.ireturn, 1) := by decide +kernel
theorem hyX10_shown : yX10_shown.cls ≠ "java/lang/invoke/MethodHandle" ∧ yX10_shown.cls ≠ "java/lang/invoke/VarHandle" ∧ (parseMethodDescriptor yX10_shown.desc).map (fun d => d.parameters.length) = some 3 := ⟨by decide +kernel, by decide +kernel, by decide +kernel⟩
set_option maxRecDepth 100000 in
set_option maxHeartbeats 4000000 in
theorem wjX10_shown_24 (C : zC p s m args meth c cX10_shown RX10 5 D Ca B En) (hRm : zRm R 2 46 cells slots) (σ : zS) (x0 : Nat) (x1 : Int32) (x2 : Int32) (x3 : Int32) (y0 : Int32) (y1 : Nat) (τ : zS) (r : Int32) (hf : jX10_shown_24 σ x0 x1 x2 x3 y0 y1 = some (τ, r)) (hq : ∀ (pc : Nat) (lv : List (Nat × Value)), decode cX10_shown pc = .ok (.ireturn, 1) → zW p l e R s m args below meth c cells slots Q D Ca B 5 τ N pc lv [.int r]) : zW p l e R s m args below meth c cells slots Q D Ca B 5 σ N 24 [(0, .ref x0), (1, .int x1), (2, .int x2), (3, .int x3)] [.int y0, .ref y1] := by
  unfold jX10_shown_24 at hf
  obtain ⟨c2, hc2, hf⟩ := zbind hf
  obtain ⟨kc2, hc2⟩ := zck_ok hc2
  refine z_callVi (As := [.int y0]) (F0 := 2) (L0 := 46) C (mX10_is l D Ca B En C.2.2.2.2.2.2.2.1 σ N y1 y0 _ hc2) hRm kc2 rfl kw_1373 kw_14 kw_1370 kw_1372 kp_37 hyX10_is (Nat.le_of_ble_eq_true rfl) (Nat.le_of_ble_eq_true rfl) rfl rfl (Nat.le_of_ble_eq_true rfl) dX10_shown_24 ?_
  refine z_if_eq C 59 dX10_shown_27 (by decide) (fun q12 => ?_) (fun q12 => ?_)
  · rw [if_pos q12] at hf
    refine z_iconst C (zi 0) dX10_shown_59 (by decide) ?_
    cases hf
    exact hq _ _ dX10_shown_60
  · rw [if_neg q12] at hf
    refine z_aload_n C dX10_shown_30 rfl 0 rfl ?_
    refine z_iload_n C dX10_shown_31 rfl 2 rfl ?_
    refine z_i2l C dX10_shown_32 ?_
    refine z_lconst C 0 dX10_shown_33 (by decide) ?_
    refine z_aload_n C dX10_shown_34 rfl 0 rfl ?_
    obtain ⟨v3, hv3, hf⟩ := zbind hf
    refine gf_RX10_21 C hv3 dX10_shown_35 ?_
    refine z_sipush C (zi 12996) dX10_shown_38 (by decide) ?_
    refine z_iload_n C dX10_shown_41 rfl 1 rfl ?_
    obtain ⟨c4, hc4, hf⟩ := zbind hf
    refine z_callSi (As := [.int ((zi 12996)), .int x1]) (F0 := 2) (L0 := 46) C (mX10_results l D Ca B En C.2.2.2.2.2.2.2.1 c2.1 N ((zi 12996)) x1 _ hc4) hRm kw_1431 kw_14 kw_1429 kw_1430 hyX10_results (Nat.le_of_ble_eq_true rfl) (Nat.le_of_ble_eq_true rfl) rfl rfl (Nat.le_of_ble_eq_true rfl) dX10_shown_42 ?_
    obtain ⟨v5, hv5, hf⟩ := zbind hf
    refine z_aI C hv5 dX10_shown_45 ?_
    refine z_iconst C (zi 1) dX10_shown_46 (by decide) ?_
    refine z_isub C dX10_shown_47 ?_
    refine z_i2l C dX10_shown_48 ?_
    obtain ⟨c6, hc6, hf⟩ := zbind hf
    refine z_callSi (As := [.long x2.toInt64, .long 0, .long ((v5 - ((zi 1)) : Int32).toInt64)]) (F0 := 2) (L0 := 46) C (mX10_isIn l D Ca B En C.2.2.2.2.2.2.2.1 c4.1 N x2.toInt64 0 ((v5 - ((zi 1)) : Int32).toInt64) _ hc6) hRm kw_1392 kw_14 kw_1390 kw_1391 hyX10_isIn (Nat.le_of_ble_eq_true rfl) (Nat.le_of_ble_eq_true rfl) rfl rfl (Nat.le_of_ble_eq_true rfl) dX10_shown_49 ?_
    refine z_iconst C (zi 2) dX10_shown_52 (by decide) ?_
    obtain ⟨c7, hc7, hf⟩ := zbind hf
    obtain ⟨kc7, hc7⟩ := zck_ok hc7
    refine z_callVi (As := [.int c6.2, .int ((zi 2))]) (F0 := 2) (L0 := 46) C (mX10_may l D Ca B En C.2.2.2.2.2.2.2.1 c6.1 N x0 c6.2 ((zi 2)) _ hc7) hRm kc7 rfl kw_1636 kw_14 kw_1633 kw_1635 kp_84 hyX10_may (Nat.le_of_ble_eq_true rfl) (Nat.le_of_ble_eq_true rfl) rfl rfl (Nat.le_of_ble_eq_true rfl) dX10_shown_53 ?_
    refine z_if_ne C 61 dX10_shown_56 (by decide) (fun q11 => ?_) (fun q11 => ?_)
    · rw [if_neg q11] at hf
      refine z_aload_n C dX10_shown_61 rfl 0 rfl ?_
      refine z_sipush C (zi 12996) dX10_shown_62 (by decide) ?_
      refine z_iload_n C dX10_shown_65 rfl 1 rfl ?_
      obtain ⟨c8, hc8, hf⟩ := zbind hf
      refine z_callSi (As := [.int ((zi 12996)), .int x1]) (F0 := 2) (L0 := 46) C (mX10_results l D Ca B En C.2.2.2.2.2.2.2.1 c7.1 N ((zi 12996)) x1 _ hc8) hRm kw_1431 kw_14 kw_1429 kw_1430 hyX10_results (Nat.le_of_ble_eq_true rfl) (Nat.le_of_ble_eq_true rfl) rfl rfl (Nat.le_of_ble_eq_true rfl) dX10_shown_66 ?_
      refine z_iload_n C dX10_shown_69 rfl 2 rfl ?_
      obtain ⟨c9, hc9, hf⟩ := zbind hf
      obtain ⟨kc9, hc9⟩ := zck_ok hc9
      refine z_callVi (As := [.int c8.2, .int x2]) (F0 := 2) (L0 := 46) C (mX10_at l D Ca B En C.2.2.2.2.2.2.2.1 c8.1 N x0 c8.2 x2 _ hc9) hRm kc9 rfl kw_1439 kw_14 kw_1436 kw_1438 kp_45 hyX10_at (Nat.le_of_ble_eq_true rfl) (Nat.le_of_ble_eq_true rfl) rfl rfl (Nat.le_of_ble_eq_true rfl) dX10_shown_70 ?_
      refine z_istore (lv2 := [(4, .int c9.2), (0, .ref x0), (1, .int x1), (2, .int x2), (3, .int x3)]) C dX10_shown_73 (by decide) rfl ?_
      refine z_iload_n C dX10_shown_75 rfl 4 rfl ?_
      refine z_if_ne C 88 dX10_shown_76 (by decide) (fun q10 => ?_) (fun q10 => ?_)
      · rw [if_neg q10] at hf
        refine z_iload C dX10_shown_88 0 rfl ?_
        refine z_sipush C (zi 20000) dX10_shown_90 (by decide) ?_
        refine z_irem C dX10_shown_93 (by decide) ?_
        cases hf
        exact hq _ _ dX10_shown_94
      · rw [if_pos q10] at hf
        refine z_iload C dX10_shown_79 0 rfl ?_
        refine z_sipush C (zi 20000) dX10_shown_81 (by decide) ?_
        refine z_idiv C dX10_shown_84 (by decide) ?_
        refine z_goto C 94 dX10_shown_85 (by decide) ?_
        cases hf
        exact hq _ _ dX10_shown_94
    · rw [if_pos q11] at hf
      refine z_iconst C (zi 0) dX10_shown_59 (by decide) ?_
      cases hf
      exact hq _ _ dX10_shown_60

set_option maxRecDepth 100000 in
set_option maxHeartbeats 4000000 in
theorem wjX10_shown_23 (C : zC p s m args meth c cX10_shown RX10 5 D Ca B En) (hRm : zRm R 2 46 cells slots) (σ : zS) (x0 : Nat) (x1 : Int32) (x2 : Int32) (x3 : Int32) (y0 : Nat) (τ : zS) (r : Int32) (hf : jX10_shown_23 σ x0 x1 x2 x3 y0 = some (τ, r)) (hq : ∀ (pc : Nat) (lv : List (Nat × Value)), decode cX10_shown pc = .ok (.ireturn, 1) → zW p l e R s m args below meth c cells slots Q D Ca B 5 τ N pc lv [.int r]) : zW p l e R s m args below meth c cells slots Q D Ca B 5 σ N 23 [(0, .ref x0), (1, .int x1), (2, .int x2), (3, .int x3)] [.ref y0] := by
  unfold jX10_shown_23 at hf
  refine z_iconst C (zi 0) dX10_shown_23 (by decide) ?_
  refine z_sub [0, 1, 2, 3] rfl ?_
  exact wjX10_shown_24 C hRm _ _ _ _ _ _ _ _ _ hf hq

set_option maxRecDepth 100000 in
set_option maxHeartbeats 4000000 in
theorem wfX10_shown (C : zC p s m args meth c cX10_shown RX10 5 D Ca B En) (hRm : zRm R 2 46 cells slots) (σ : zS) (x0 : Nat) (x1 : Int32) (x2 : Int32) (x3 : Int32) (τ : zS) (r : Int32) (hf : fX10_shown σ x0 x1 x2 x3 = some (τ, r)) (hq : ∀ (pc : Nat) (lv : List (Nat × Value)), decode cX10_shown pc = .ok (.ireturn, 1) → zW p l e R s m args below meth c cells slots Q D Ca B 5 τ N pc lv [.int r]) : zW p l e R s m args below meth c cells slots Q D Ca B 5 σ N 0 [(0, .ref x0), (1, .int x1), (2, .int x2), (3, .int x3)] [] := by
  unfold fX10_shown at hf
  refine z_aload_n C dX10_shown_0 rfl 0 rfl ?_
  refine z_aload_n C dX10_shown_1 rfl 0 rfl ?_
  refine z_iload_n C dX10_shown_2 rfl 1 rfl ?_
  obtain ⟨c1, hc1, hf⟩ := zbind hf
  obtain ⟨kc1, hc1⟩ := zck_ok hc1
  refine z_callVi (As := [.int x1]) (F0 := 2) (L0 := 46) C (mX10_isSink l D Ca B En C.2.2.2.2.2.2.2.1 σ N x0 x1 _ hc1) hRm kc1 rfl kw_1750 kw_14 kw_1747 kw_1749 kp_98 hyX10_isSink (Nat.le_of_ble_eq_true rfl) (Nat.le_of_ble_eq_true rfl) rfl rfl (Nat.le_of_ble_eq_true rfl) dX10_shown_3 ?_
  refine z_if_eq C 23 dX10_shown_6 (by decide) (fun q15 => ?_) (fun q15 => ?_)
  · rw [if_pos q15] at hf
    refine z_sub [0, 1, 2, 3] rfl ?_
    exact wjX10_shown_23 C hRm _ _ _ _ _ _ _ _ hf hq
  · rw [if_neg q15] at hf
    refine z_iload_n C dX10_shown_9 rfl 3 rfl ?_
    refine z_i2l C dX10_shown_10 ?_
    refine z_lconst C 0 dX10_shown_11 (by decide) ?_
    refine z_lconst C 1 dX10_shown_12 (by decide) ?_
    obtain ⟨c13, hc13, hf⟩ := zbind hf
    refine z_callSi (As := [.long x3.toInt64, .long 0, .long 1]) (F0 := 2) (L0 := 46) C (mX10_isIn l D Ca B En C.2.2.2.2.2.2.2.1 c1.1 N x3.toInt64 0 1 _ hc13) hRm kw_1392 kw_14 kw_1390 kw_1391 hyX10_isIn (Nat.le_of_ble_eq_true rfl) (Nat.le_of_ble_eq_true rfl) rfl rfl (Nat.le_of_ble_eq_true rfl) dX10_shown_13 ?_
    refine z_if_eq C 23 dX10_shown_16 (by decide) (fun q14 => ?_) (fun q14 => ?_)
    · rw [if_pos q14] at hf
      refine z_sub [0, 1, 2, 3] rfl ?_
      exact wjX10_shown_23 C hRm _ _ _ _ _ _ _ _ hf hq
    · rw [if_neg q14] at hf
      refine z_iconst C (zi 1) dX10_shown_19 (by decide) ?_
      refine z_goto C 24 dX10_shown_20 (by decide) ?_
      refine z_sub [0, 1, 2, 3] rfl ?_
      exact wjX10_shown_24 C hRm _ _ _ _ _ _ _ _ _ hf hq

theorem mX10_shown (l : Launch) (D : va_G) (Ca : Nat → ClassId) (B : Nat) (En : State → Prop) (hE : zEk B En) (σ : zS) (N : Nat) (x0 : Nat) (x1 : Int32) (x2 : Int32) (x3 : Int32) (X : zS × Int32) (hf : fX10_shown σ x0 x1 x2 x3 = some X) : zMi l D Ca B En yX10_shown cX10_shown 5 (Option.some Jvm.ClassFile.FieldType.int) 2 46 [.ref x0, .int x1, .int x2, .int x3] σ N X.1 X.2 :=
  zMet_i (own := RX10) hE (by decide +kernel) rfl (Nat.le_of_ble_eq_true rfl) (fun p e s m args below meth c C hr hRm => wfX10_shown C hRm σ x0 x1 x2 x3 X.1 X.2 hf (fun pc lv hd => zfin_i C hr hd))
theorem dX10_inChannel_0 : decode cX10_inChannel 0 = .ok (.aload_n 0, 1) := by decide +kernel
theorem dX10_inChannel_1 : decode cX10_inChannel 1 = .ok (.aload_n 0, 1) := by decide +kernel
theorem dX10_inChannel_2 : decode cX10_inChannel 2 = .ok (.iload_n 1, 1) := by decide +kernel
theorem dX10_inChannel_3 : decode cX10_inChannel 3 = .ok (.invokevirtual 289, 3) := by decide +kernel
theorem dX10_inChannel_6 : decode cX10_inChannel 6 = .ok (.ifCond .eq 15, 3) := by decide +kernel
theorem dX10_inChannel_9 : decode cX10_inChannel 9 = .ok (.aload_n 0, 1) := by decide +kernel
theorem dX10_inChannel_10 : decode cX10_inChannel 10 = .ok (.iload_n 2, 1) := by decide +kernel
theorem dX10_inChannel_11 : decode cX10_inChannel 11 = .ok (.invokevirtual 329, 3) := by decide +kernel
theorem dX10_inChannel_14 : decode cX10_inChannel 14 = .ok (.ifCond .eq 7, 3) := by decide +kernel
theorem dX10_inChannel_17 : decode cX10_inChannel 17 = .ok (.iconst 1, 1) := by decide +kernel
theorem dX10_inChannel_18 : decode cX10_inChannel 18 = .ok (.goto 4, 3) := by decide +kernel
theorem dX10_inChannel_21 : decode cX10_inChannel 21 = .ok (.iconst 0, 1) := by decide +kernel
theorem dX10_inChannel_22 : decode cX10_inChannel 22 = .ok (.invokevirtual 96, 3) := by decide +kernel
theorem dX10_inChannel_25 : decode cX10_inChannel 25 = .ok (.ifCond .ne 5, 3) := by decide +kernel
theorem dX10_inChannel_28 : decode cX10_inChannel 28 = .ok (.iconst 0, 1) := by decide +kernel
theorem dX10_inChannel_29 : decode cX10_inChannel 29 = .ok (.ireturn, 1) := by decide +kernel
theorem dX10_inChannel_30 : decode cX10_inChannel 30 = .ok (.iload_n 3, 1) := by decide +kernel
theorem dX10_inChannel_31 : decode cX10_inChannel 31 = .ok (.ifCond .eq 15, 3) := by decide +kernel
theorem dX10_inChannel_34 : decode cX10_inChannel 34 = .ok (.aload_n 0, 1) := by decide +kernel
theorem dX10_inChannel_35 : decode cX10_inChannel 35 = .ok (.iload_n 1, 1) := by decide +kernel
theorem dX10_inChannel_36 : decode cX10_inChannel 36 = .ok (.iload_n 2, 1) := by decide +kernel
theorem dX10_inChannel_37 : decode cX10_inChannel 37 = .ok (.invokestatic 176, 3) := by decide +kernel
theorem dX10_inChannel_40 : decode cX10_inChannel 40 = .ok (.invokevirtual 115, 3) := by decide +kernel
theorem dX10_inChannel_43 : decode cX10_inChannel 43 = .ok (.goto 12, 3) := by decide +kernel
theorem dX10_inChannel_46 : decode cX10_inChannel 46 = .ok (.aload_n 0, 1) := by decide +kernel
theorem dX10_inChannel_47 : decode cX10_inChannel 47 = .ok (.iload_n 1, 1) := by decide +kernel
theorem dX10_inChannel_48 : decode cX10_inChannel 48 = .ok (.iload_n 2, 1) := by decide +kernel
theorem dX10_inChannel_49 : decode cX10_inChannel 49 = .ok (.invokestatic 176, 3) := by decide +kernel
theorem dX10_inChannel_52 : decode cX10_inChannel 52 = .ok (.invokevirtual 119, 3) := by decide +kernel
theorem dX10_inChannel_55 : decode cX10_inChannel 55 = .ok (.ireturn, 1) := by decide +kernel
theorem hyX10_inChannel : yX10_inChannel.cls ≠ "java/lang/invoke/MethodHandle" ∧ yX10_inChannel.cls ≠ "java/lang/invoke/VarHandle" ∧ (parseMethodDescriptor yX10_inChannel.desc).map (fun d => d.parameters.length) = some 3 := ⟨by decide +kernel, by decide +kernel, by decide +kernel⟩
set_option maxRecDepth 100000 in
set_option maxHeartbeats 4000000 in
theorem wjX10_inChannel_22 (C : zC p s m args meth c cX10_inChannel RX10 4 D Ca B En) (hRm : zRm R 3 66 cells slots) (σ : zS) (x0 : Nat) (x1 : Int32) (x2 : Int32) (x3 : Int32) (y0 : Int32) (y1 : Nat) (τ : zS) (r : Int32) (hf : jX10_inChannel_22 σ x0 x1 x2 x3 y0 y1 = some (τ, r)) (hq : ∀ (pc : Nat) (lv : List (Nat × Value)), decode cX10_inChannel pc = .ok (.ireturn, 1) → zW p l e R s m args below meth c cells slots Q D Ca B 4 τ N pc lv [.int r]) : zW p l e R s m args below meth c cells slots Q D Ca B 4 σ N 22 [(0, .ref x0), (1, .int x1), (2, .int x2), (3, .int x3)] [.int y0, .ref y1] := by
  unfold jX10_inChannel_22 at hf
  obtain ⟨c2, hc2, hf⟩ := zbind hf
  obtain ⟨kc2, hc2⟩ := zck_ok hc2
  refine z_callVi (As := [.int y0]) (F0 := 3) (L0 := 66) C (mX10_is l D Ca B En C.2.2.2.2.2.2.2.1 σ N y1 y0 _ hc2) hRm kc2 rfl kw_1373 kw_14 kw_1370 kw_1372 kp_37 hyX10_is (Nat.le_of_ble_eq_true rfl) (Nat.le_of_ble_eq_true rfl) rfl rfl (Nat.le_of_ble_eq_true rfl) dX10_inChannel_22 ?_
  refine z_if_ne C 30 dX10_inChannel_25 (by decide) (fun q8 => ?_) (fun q8 => ?_)
  · rw [if_neg q8] at hf
    refine z_iload_n C dX10_inChannel_30 rfl 3 rfl ?_
    refine z_if_eq C 46 dX10_inChannel_31 (by decide) (fun q7 => ?_) (fun q7 => ?_)
    · rw [if_pos q7] at hf
      refine z_aload_n C dX10_inChannel_46 rfl 0 rfl ?_
      refine z_iload_n C dX10_inChannel_47 rfl 1 rfl ?_
      refine z_iload_n C dX10_inChannel_48 rfl 2 rfl ?_
      obtain ⟨c3, hc3, hf⟩ := zbind hf
      refine z_callSi (As := [.int x1, .int x2]) (F0 := 3) (L0 := 66) C (mX10_toInstance l D Ca B En C.2.2.2.2.2.2.2.1 c2.1 N x1 x2 _ hc3) hRm kw_1450 kw_14 kw_1448 kw_1449 hyX10_toInstance (Nat.le_of_ble_eq_true rfl) (Nat.le_of_ble_eq_true rfl) rfl rfl (Nat.le_of_ble_eq_true rfl) dX10_inChannel_49 ?_
      obtain ⟨c4, hc4, hf⟩ := zbind hf
      obtain ⟨kc4, hc4⟩ := zck_ok hc4
      refine z_callVi (As := [.int c3.2]) (F0 := 3) (L0 := 66) C (mX10_things l D Ca B En C.2.2.2.2.2.2.2.1 c3.1 N x0 c3.2 _ hc4) hRm kc4 rfl kw_1469 kw_14 kw_1466 kw_1468 kp_51 hyX10_things (Nat.le_of_ble_eq_true rfl) (Nat.le_of_ble_eq_true rfl) rfl rfl (Nat.le_of_ble_eq_true rfl) dX10_inChannel_52 ?_
      cases hf
      exact hq _ _ dX10_inChannel_55
    · rw [if_neg q7] at hf
      refine z_aload_n C dX10_inChannel_34 rfl 0 rfl ?_
      refine z_iload_n C dX10_inChannel_35 rfl 1 rfl ?_
      refine z_iload_n C dX10_inChannel_36 rfl 2 rfl ?_
      obtain ⟨c5, hc5, hf⟩ := zbind hf
      refine z_callSi (As := [.int x1, .int x2]) (F0 := 3) (L0 := 66) C (mX10_toInstance l D Ca B En C.2.2.2.2.2.2.2.1 c2.1 N x1 x2 _ hc5) hRm kw_1450 kw_14 kw_1448 kw_1449 hyX10_toInstance (Nat.le_of_ble_eq_true rfl) (Nat.le_of_ble_eq_true rfl) rfl rfl (Nat.le_of_ble_eq_true rfl) dX10_inChannel_37 ?_
      obtain ⟨c6, hc6, hf⟩ := zbind hf
      obtain ⟨kc6, hc6⟩ := zck_ok hc6
      refine z_callVi (As := [.int c5.2]) (F0 := 3) (L0 := 66) C (mX10_barriers l D Ca B En C.2.2.2.2.2.2.2.1 c5.1 N x0 c5.2 _ hc6) hRm kc6 rfl kw_1473 kw_14 kw_1470 kw_1472 kp_52 hyX10_barriers (Nat.le_of_ble_eq_true rfl) (Nat.le_of_ble_eq_true rfl) rfl rfl (Nat.le_of_ble_eq_true rfl) dX10_inChannel_40 ?_
      refine z_goto C 55 dX10_inChannel_43 (by decide) ?_
      cases hf
      exact hq _ _ dX10_inChannel_55
  · rw [if_pos q8] at hf
    refine z_iconst C (zi 0) dX10_inChannel_28 (by decide) ?_
    cases hf
    exact hq _ _ dX10_inChannel_29

set_option maxRecDepth 100000 in
set_option maxHeartbeats 4000000 in
theorem wjX10_inChannel_21 (C : zC p s m args meth c cX10_inChannel RX10 4 D Ca B En) (hRm : zRm R 3 66 cells slots) (σ : zS) (x0 : Nat) (x1 : Int32) (x2 : Int32) (x3 : Int32) (y0 : Nat) (τ : zS) (r : Int32) (hf : jX10_inChannel_21 σ x0 x1 x2 x3 y0 = some (τ, r)) (hq : ∀ (pc : Nat) (lv : List (Nat × Value)), decode cX10_inChannel pc = .ok (.ireturn, 1) → zW p l e R s m args below meth c cells slots Q D Ca B 4 τ N pc lv [.int r]) : zW p l e R s m args below meth c cells slots Q D Ca B 4 σ N 21 [(0, .ref x0), (1, .int x1), (2, .int x2), (3, .int x3)] [.ref y0] := by
  unfold jX10_inChannel_21 at hf
  refine z_iconst C (zi 0) dX10_inChannel_21 (by decide) ?_
  refine z_sub [0, 1, 2, 3] rfl ?_
  exact wjX10_inChannel_22 C hRm _ _ _ _ _ _ _ _ _ hf hq

set_option maxRecDepth 100000 in
set_option maxHeartbeats 4000000 in
theorem wfX10_inChannel (C : zC p s m args meth c cX10_inChannel RX10 4 D Ca B En) (hRm : zRm R 3 66 cells slots) (σ : zS) (x0 : Nat) (x1 : Int32) (x2 : Int32) (x3 : Int32) (τ : zS) (r : Int32) (hf : fX10_inChannel σ x0 x1 x2 x3 = some (τ, r)) (hq : ∀ (pc : Nat) (lv : List (Nat × Value)), decode cX10_inChannel pc = .ok (.ireturn, 1) → zW p l e R s m args below meth c cells slots Q D Ca B 4 τ N pc lv [.int r]) : zW p l e R s m args below meth c cells slots Q D Ca B 4 σ N 0 [(0, .ref x0), (1, .int x1), (2, .int x2), (3, .int x3)] [] := by
  unfold fX10_inChannel at hf
  refine z_aload_n C dX10_inChannel_0 rfl 0 rfl ?_
  refine z_aload_n C dX10_inChannel_1 rfl 0 rfl ?_
  refine z_iload_n C dX10_inChannel_2 rfl 1 rfl ?_
  obtain ⟨c1, hc1, hf⟩ := zbind hf
  obtain ⟨kc1, hc1⟩ := zck_ok hc1
  refine z_callVi (As := [.int x1]) (F0 := 3) (L0 := 66) C (mX10_isSource l D Ca B En C.2.2.2.2.2.2.2.1 σ N x0 x1 _ hc1) hRm kc1 rfl kw_1632 kw_14 kw_1629 kw_1631 kp_83 hyX10_isSource (Nat.le_of_ble_eq_true rfl) (Nat.le_of_ble_eq_true rfl) rfl rfl (Nat.le_of_ble_eq_true rfl) dX10_inChannel_3 ?_
  refine z_if_eq C 21 dX10_inChannel_6 (by decide) (fun q11 => ?_) (fun q11 => ?_)
  · rw [if_pos q11] at hf
    refine z_sub [0, 1, 2, 3] rfl ?_
    exact wjX10_inChannel_21 C hRm _ _ _ _ _ _ _ _ hf hq
  · rw [if_neg q11] at hf
    refine z_aload_n C dX10_inChannel_9 rfl 0 rfl ?_
    refine z_iload_n C dX10_inChannel_10 rfl 2 rfl ?_
    obtain ⟨c9, hc9, hf⟩ := zbind hf
    obtain ⟨kc9, hc9⟩ := zck_ok hc9
    refine z_callVi (As := [.int x2]) (F0 := 3) (L0 := 66) C (mX10_isInstance l D Ca B En C.2.2.2.2.2.2.2.1 c1.1 N x0 x2 _ hc9) hRm kc9 rfl kw_1726 kw_14 kw_1723 kw_1725 kp_93 hyX10_isInstance (Nat.le_of_ble_eq_true rfl) (Nat.le_of_ble_eq_true rfl) rfl rfl (Nat.le_of_ble_eq_true rfl) dX10_inChannel_11 ?_
    refine z_if_eq C 21 dX10_inChannel_14 (by decide) (fun q10 => ?_) (fun q10 => ?_)
    · rw [if_pos q10] at hf
      refine z_sub [0, 1, 2, 3] rfl ?_
      exact wjX10_inChannel_21 C hRm _ _ _ _ _ _ _ _ hf hq
    · rw [if_neg q10] at hf
      refine z_iconst C (zi 1) dX10_inChannel_17 (by decide) ?_
      refine z_goto C 22 dX10_inChannel_18 (by decide) ?_
      refine z_sub [0, 1, 2, 3] rfl ?_
      exact wjX10_inChannel_22 C hRm _ _ _ _ _ _ _ _ _ hf hq

theorem mX10_inChannel (l : Launch) (D : va_G) (Ca : Nat → ClassId) (B : Nat) (En : State → Prop) (hE : zEk B En) (σ : zS) (N : Nat) (x0 : Nat) (x1 : Int32) (x2 : Int32) (x3 : Int32) (X : zS × Int32) (hf : fX10_inChannel σ x0 x1 x2 x3 = some X) : zMi l D Ca B En yX10_inChannel cX10_inChannel 4 (Option.some Jvm.ClassFile.FieldType.int) 3 66 [.ref x0, .int x1, .int x2, .int x3] σ N X.1 X.2 :=
  zMet_i (own := RX10) hE (by decide +kernel) rfl (Nat.le_of_ble_eq_true rfl) (fun p e s m args below meth c C hr hRm => wfX10_inChannel C hRm σ x0 x1 x2 x3 X.1 X.2 hf (fun pc lv hd => zfin_i C hr hd))
theorem dX10_outChannel_0 : decode cX10_outChannel 0 = .ok (.aload_n 0, 1) := by decide +kernel
theorem dX10_outChannel_1 : decode cX10_outChannel 1 = .ok (.aload_n 0, 1) := by decide +kernel
theorem dX10_outChannel_2 : decode cX10_outChannel 2 = .ok (.iload_n 1, 1) := by decide +kernel
theorem dX10_outChannel_3 : decode cX10_outChannel 3 = .ok (.invokevirtual 329, 3) := by decide +kernel
theorem dX10_outChannel_6 : decode cX10_outChannel 6 = .ok (.ifCond .eq 15, 3) := by decide +kernel
theorem dX10_outChannel_9 : decode cX10_outChannel 9 = .ok (.aload_n 0, 1) := by decide +kernel
theorem dX10_outChannel_10 : decode cX10_outChannel 10 = .ok (.iload_n 2, 1) := by decide +kernel
theorem dX10_outChannel_11 : decode cX10_outChannel 11 = .ok (.invokevirtual 344, 3) := by decide +kernel
theorem dX10_outChannel_14 : decode cX10_outChannel 14 = .ok (.ifCond .eq 7, 3) := by decide +kernel
theorem dX10_outChannel_17 : decode cX10_outChannel 17 = .ok (.iconst 1, 1) := by decide +kernel
theorem dX10_outChannel_18 : decode cX10_outChannel 18 = .ok (.goto 4, 3) := by decide +kernel
theorem dX10_outChannel_21 : decode cX10_outChannel 21 = .ok (.iconst 0, 1) := by decide +kernel
theorem dX10_outChannel_22 : decode cX10_outChannel 22 = .ok (.invokevirtual 96, 3) := by decide +kernel
theorem dX10_outChannel_25 : decode cX10_outChannel 25 = .ok (.ifCond .ne 5, 3) := by decide +kernel
theorem dX10_outChannel_28 : decode cX10_outChannel 28 = .ok (.iconst 0, 1) := by decide +kernel
theorem dX10_outChannel_29 : decode cX10_outChannel 29 = .ok (.ireturn, 1) := by decide +kernel
theorem dX10_outChannel_30 : decode cX10_outChannel 30 = .ok (.iload_n 3, 1) := by decide +kernel
theorem dX10_outChannel_31 : decode cX10_outChannel 31 = .ok (.ifCond .eq 15, 3) := by decide +kernel
theorem dX10_outChannel_34 : decode cX10_outChannel 34 = .ok (.aload_n 0, 1) := by decide +kernel
theorem dX10_outChannel_35 : decode cX10_outChannel 35 = .ok (.iload_n 1, 1) := by decide +kernel
theorem dX10_outChannel_36 : decode cX10_outChannel 36 = .ok (.iload_n 2, 1) := by decide +kernel
theorem dX10_outChannel_37 : decode cX10_outChannel 37 = .ok (.invokestatic 152, 3) := by decide +kernel
theorem dX10_outChannel_40 : decode cX10_outChannel 40 = .ok (.invokevirtual 115, 3) := by decide +kernel
theorem dX10_outChannel_43 : decode cX10_outChannel 43 = .ok (.goto 12, 3) := by decide +kernel
theorem dX10_outChannel_46 : decode cX10_outChannel 46 = .ok (.aload_n 0, 1) := by decide +kernel
theorem dX10_outChannel_47 : decode cX10_outChannel 47 = .ok (.iload_n 1, 1) := by decide +kernel
theorem dX10_outChannel_48 : decode cX10_outChannel 48 = .ok (.iload_n 2, 1) := by decide +kernel
theorem dX10_outChannel_49 : decode cX10_outChannel 49 = .ok (.invokestatic 152, 3) := by decide +kernel
theorem dX10_outChannel_52 : decode cX10_outChannel 52 = .ok (.invokevirtual 119, 3) := by decide +kernel
theorem dX10_outChannel_55 : decode cX10_outChannel 55 = .ok (.ireturn, 1) := by decide +kernel
theorem hyX10_outChannel : yX10_outChannel.cls ≠ "java/lang/invoke/MethodHandle" ∧ yX10_outChannel.cls ≠ "java/lang/invoke/VarHandle" ∧ (parseMethodDescriptor yX10_outChannel.desc).map (fun d => d.parameters.length) = some 3 := ⟨by decide +kernel, by decide +kernel, by decide +kernel⟩
set_option maxRecDepth 100000 in
set_option maxHeartbeats 4000000 in
theorem wjX10_outChannel_22 (C : zC p s m args meth c cX10_outChannel RX10 4 D Ca B En) (hRm : zRm R 3 66 cells slots) (σ : zS) (x0 : Nat) (x1 : Int32) (x2 : Int32) (x3 : Int32) (y0 : Int32) (y1 : Nat) (τ : zS) (r : Int32) (hf : jX10_outChannel_22 σ x0 x1 x2 x3 y0 y1 = some (τ, r)) (hq : ∀ (pc : Nat) (lv : List (Nat × Value)), decode cX10_outChannel pc = .ok (.ireturn, 1) → zW p l e R s m args below meth c cells slots Q D Ca B 4 τ N pc lv [.int r]) : zW p l e R s m args below meth c cells slots Q D Ca B 4 σ N 22 [(0, .ref x0), (1, .int x1), (2, .int x2), (3, .int x3)] [.int y0, .ref y1] := by
  unfold jX10_outChannel_22 at hf
  obtain ⟨c2, hc2, hf⟩ := zbind hf
  obtain ⟨kc2, hc2⟩ := zck_ok hc2
  refine z_callVi (As := [.int y0]) (F0 := 3) (L0 := 66) C (mX10_is l D Ca B En C.2.2.2.2.2.2.2.1 σ N y1 y0 _ hc2) hRm kc2 rfl kw_1373 kw_14 kw_1370 kw_1372 kp_37 hyX10_is (Nat.le_of_ble_eq_true rfl) (Nat.le_of_ble_eq_true rfl) rfl rfl (Nat.le_of_ble_eq_true rfl) dX10_outChannel_22 ?_
  refine z_if_ne C 30 dX10_outChannel_25 (by decide) (fun q8 => ?_) (fun q8 => ?_)
  · rw [if_neg q8] at hf
    refine z_iload_n C dX10_outChannel_30 rfl 3 rfl ?_
    refine z_if_eq C 46 dX10_outChannel_31 (by decide) (fun q7 => ?_) (fun q7 => ?_)
    · rw [if_pos q7] at hf
      refine z_aload_n C dX10_outChannel_46 rfl 0 rfl ?_
      refine z_iload_n C dX10_outChannel_47 rfl 1 rfl ?_
      refine z_iload_n C dX10_outChannel_48 rfl 2 rfl ?_
      obtain ⟨c3, hc3, hf⟩ := zbind hf
      refine z_callSi (As := [.int x1, .int x2]) (F0 := 3) (L0 := 66) C (mX10_toSink l D Ca B En C.2.2.2.2.2.2.2.1 c2.1 N x1 x2 _ hc3) hRm kw_1496 kw_14 kw_1494 kw_1495 hyX10_toSink (Nat.le_of_ble_eq_true rfl) (Nat.le_of_ble_eq_true rfl) rfl rfl (Nat.le_of_ble_eq_true rfl) dX10_outChannel_49 ?_
      obtain ⟨c4, hc4, hf⟩ := zbind hf
      obtain ⟨kc4, hc4⟩ := zck_ok hc4
      refine z_callVi (As := [.int c3.2]) (F0 := 3) (L0 := 66) C (mX10_things l D Ca B En C.2.2.2.2.2.2.2.1 c3.1 N x0 c3.2 _ hc4) hRm kc4 rfl kw_1469 kw_14 kw_1466 kw_1468 kp_51 hyX10_things (Nat.le_of_ble_eq_true rfl) (Nat.le_of_ble_eq_true rfl) rfl rfl (Nat.le_of_ble_eq_true rfl) dX10_outChannel_52 ?_
      cases hf
      exact hq _ _ dX10_outChannel_55
    · rw [if_neg q7] at hf
      refine z_aload_n C dX10_outChannel_34 rfl 0 rfl ?_
      refine z_iload_n C dX10_outChannel_35 rfl 1 rfl ?_
      refine z_iload_n C dX10_outChannel_36 rfl 2 rfl ?_
      obtain ⟨c5, hc5, hf⟩ := zbind hf
      refine z_callSi (As := [.int x1, .int x2]) (F0 := 3) (L0 := 66) C (mX10_toSink l D Ca B En C.2.2.2.2.2.2.2.1 c2.1 N x1 x2 _ hc5) hRm kw_1496 kw_14 kw_1494 kw_1495 hyX10_toSink (Nat.le_of_ble_eq_true rfl) (Nat.le_of_ble_eq_true rfl) rfl rfl (Nat.le_of_ble_eq_true rfl) dX10_outChannel_37 ?_
      obtain ⟨c6, hc6, hf⟩ := zbind hf
      obtain ⟨kc6, hc6⟩ := zck_ok hc6
      refine z_callVi (As := [.int c5.2]) (F0 := 3) (L0 := 66) C (mX10_barriers l D Ca B En C.2.2.2.2.2.2.2.1 c5.1 N x0 c5.2 _ hc6) hRm kc6 rfl kw_1473 kw_14 kw_1470 kw_1472 kp_52 hyX10_barriers (Nat.le_of_ble_eq_true rfl) (Nat.le_of_ble_eq_true rfl) rfl rfl (Nat.le_of_ble_eq_true rfl) dX10_outChannel_40 ?_
      refine z_goto C 55 dX10_outChannel_43 (by decide) ?_
      cases hf
      exact hq _ _ dX10_outChannel_55
  · rw [if_pos q8] at hf
    refine z_iconst C (zi 0) dX10_outChannel_28 (by decide) ?_
    cases hf
    exact hq _ _ dX10_outChannel_29

set_option maxRecDepth 100000 in
set_option maxHeartbeats 4000000 in
theorem wjX10_outChannel_21 (C : zC p s m args meth c cX10_outChannel RX10 4 D Ca B En) (hRm : zRm R 3 66 cells slots) (σ : zS) (x0 : Nat) (x1 : Int32) (x2 : Int32) (x3 : Int32) (y0 : Nat) (τ : zS) (r : Int32) (hf : jX10_outChannel_21 σ x0 x1 x2 x3 y0 = some (τ, r)) (hq : ∀ (pc : Nat) (lv : List (Nat × Value)), decode cX10_outChannel pc = .ok (.ireturn, 1) → zW p l e R s m args below meth c cells slots Q D Ca B 4 τ N pc lv [.int r]) : zW p l e R s m args below meth c cells slots Q D Ca B 4 σ N 21 [(0, .ref x0), (1, .int x1), (2, .int x2), (3, .int x3)] [.ref y0] := by
  unfold jX10_outChannel_21 at hf
  refine z_iconst C (zi 0) dX10_outChannel_21 (by decide) ?_
  refine z_sub [0, 1, 2, 3] rfl ?_
  exact wjX10_outChannel_22 C hRm _ _ _ _ _ _ _ _ _ hf hq

set_option maxRecDepth 100000 in
set_option maxHeartbeats 4000000 in
theorem wfX10_outChannel (C : zC p s m args meth c cX10_outChannel RX10 4 D Ca B En) (hRm : zRm R 3 66 cells slots) (σ : zS) (x0 : Nat) (x1 : Int32) (x2 : Int32) (x3 : Int32) (τ : zS) (r : Int32) (hf : fX10_outChannel σ x0 x1 x2 x3 = some (τ, r)) (hq : ∀ (pc : Nat) (lv : List (Nat × Value)), decode cX10_outChannel pc = .ok (.ireturn, 1) → zW p l e R s m args below meth c cells slots Q D Ca B 4 τ N pc lv [.int r]) : zW p l e R s m args below meth c cells slots Q D Ca B 4 σ N 0 [(0, .ref x0), (1, .int x1), (2, .int x2), (3, .int x3)] [] := by
  unfold fX10_outChannel at hf
  refine z_aload_n C dX10_outChannel_0 rfl 0 rfl ?_
  refine z_aload_n C dX10_outChannel_1 rfl 0 rfl ?_
  refine z_iload_n C dX10_outChannel_2 rfl 1 rfl ?_
  obtain ⟨c1, hc1, hf⟩ := zbind hf
  obtain ⟨kc1, hc1⟩ := zck_ok hc1
  refine z_callVi (As := [.int x1]) (F0 := 3) (L0 := 66) C (mX10_isInstance l D Ca B En C.2.2.2.2.2.2.2.1 σ N x0 x1 _ hc1) hRm kc1 rfl kw_1726 kw_14 kw_1723 kw_1725 kp_93 hyX10_isInstance (Nat.le_of_ble_eq_true rfl) (Nat.le_of_ble_eq_true rfl) rfl rfl (Nat.le_of_ble_eq_true rfl) dX10_outChannel_3 ?_
  refine z_if_eq C 21 dX10_outChannel_6 (by decide) (fun q11 => ?_) (fun q11 => ?_)
  · rw [if_pos q11] at hf
    refine z_sub [0, 1, 2, 3] rfl ?_
    exact wjX10_outChannel_21 C hRm _ _ _ _ _ _ _ _ hf hq
  · rw [if_neg q11] at hf
    refine z_aload_n C dX10_outChannel_9 rfl 0 rfl ?_
    refine z_iload_n C dX10_outChannel_10 rfl 2 rfl ?_
    obtain ⟨c9, hc9, hf⟩ := zbind hf
    obtain ⟨kc9, hc9⟩ := zck_ok hc9
    refine z_callVi (As := [.int x2]) (F0 := 3) (L0 := 66) C (mX10_isSink l D Ca B En C.2.2.2.2.2.2.2.1 c1.1 N x0 x2 _ hc9) hRm kc9 rfl kw_1750 kw_14 kw_1747 kw_1749 kp_98 hyX10_isSink (Nat.le_of_ble_eq_true rfl) (Nat.le_of_ble_eq_true rfl) rfl rfl (Nat.le_of_ble_eq_true rfl) dX10_outChannel_11 ?_
    refine z_if_eq C 21 dX10_outChannel_14 (by decide) (fun q10 => ?_) (fun q10 => ?_)
    · rw [if_pos q10] at hf
      refine z_sub [0, 1, 2, 3] rfl ?_
      exact wjX10_outChannel_21 C hRm _ _ _ _ _ _ _ _ hf hq
    · rw [if_neg q10] at hf
      refine z_iconst C (zi 1) dX10_outChannel_17 (by decide) ?_
      refine z_goto C 22 dX10_outChannel_18 (by decide) ?_
      refine z_sub [0, 1, 2, 3] rfl ?_
      exact wjX10_outChannel_22 C hRm _ _ _ _ _ _ _ _ _ hf hq

theorem mX10_outChannel (l : Launch) (D : va_G) (Ca : Nat → ClassId) (B : Nat) (En : State → Prop) (hE : zEk B En) (σ : zS) (N : Nat) (x0 : Nat) (x1 : Int32) (x2 : Int32) (x3 : Int32) (X : zS × Int32) (hf : fX10_outChannel σ x0 x1 x2 x3 = some X) : zMi l D Ca B En yX10_outChannel cX10_outChannel 4 (Option.some Jvm.ClassFile.FieldType.int) 3 66 [.ref x0, .int x1, .int x2, .int x3] σ N X.1 X.2 :=
  zMet_i (own := RX10) hE (by decide +kernel) rfl (Nat.le_of_ble_eq_true rfl) (fun p e s m args below meth c C hr hRm => wfX10_outChannel C hRm σ x0 x1 x2 x3 X.1 X.2 hf (fun pc lv hd => zfin_i C hr hd))
theorem dX10_sumOf_0 : decode cX10_sumOf 0 = .ok (.iconst 0, 1) := by decide +kernel
theorem dX10_sumOf_1 : decode cX10_sumOf 1 = .ok (.istore_n 3, 1) := by decide +kernel
theorem dX10_sumOf_2 : decode cX10_sumOf 2 = .ok (.iload_n 1, 1) := by decide +kernel
theorem dX10_sumOf_3 : decode cX10_sumOf 3 = .ok (.istore 4, 2) := by decide +kernel
theorem dX10_sumOf_5 : decode cX10_sumOf 5 = .ok (.iload 4, 2) := by decide +kernel
theorem dX10_sumOf_7 : decode cX10_sumOf 7 = .ok (.iload_n 1, 1) := by decide +kernel
theorem dX10_sumOf_8 : decode cX10_sumOf 8 = .ok (.iload_n 2, 1) := by decide +kernel
theorem dX10_sumOf_9 : decode cX10_sumOf 9 = .ok (.iadd, 1) := by decide +kernel
theorem dX10_sumOf_10 : decode cX10_sumOf 10 = .ok (.if_icmp .ge 19, 3) := by decide +kernel
theorem dX10_sumOf_13 : decode cX10_sumOf 13 = .ok (.iload_n 3, 1) := by decide +kernel
theorem dX10_sumOf_14 : decode cX10_sumOf 14 = .ok (.aload_n 0, 1) := by decide +kernel
theorem dX10_sumOf_15 : decode cX10_sumOf 15 = .ok (.getfield 21, 3) := by decide +kernel
theorem dX10_sumOf_18 : decode cX10_sumOf 18 = .ok (.iload 4, 2) := by decide +kernel
theorem dX10_sumOf_20 : decode cX10_sumOf 20 = .ok (.iaload, 1) := by decide +kernel
theorem dX10_sumOf_21 : decode cX10_sumOf 21 = .ok (.iadd, 1) := by decide +kernel
theorem dX10_sumOf_22 : decode cX10_sumOf 22 = .ok (.istore_n 3, 1) := by decide +kernel
theorem dX10_sumOf_23 : decode cX10_sumOf 23 = .ok (.iinc 4 1, 3) := by decide +kernel
theorem dX10_sumOf_26 : decode cX10_sumOf 26 = .ok (.goto (-21), 3) := by decide +kernel
theorem dX10_sumOf_29 : decode cX10_sumOf 29 = .ok (.iload_n 3, 1) := by decide +kernel
theorem dX10_sumOf_30 : decode cX10_sumOf 30 = .ok (.ireturn, 1) := by decide +kernel
theorem hyX10_sumOf : yX10_sumOf.cls ≠ "java/lang/invoke/MethodHandle" ∧ yX10_sumOf.cls ≠ "java/lang/invoke/VarHandle" ∧ (parseMethodDescriptor yX10_sumOf.desc).map (fun d => d.parameters.length) = some 2 := ⟨by decide +kernel, by decide +kernel, by decide +kernel⟩
set_option maxRecDepth 100000 in
set_option maxHeartbeats 4000000 in
theorem wsX10_sumOf_5b (C : zC p s m args meth c cX10_sumOf RX10 5 D Ca B En) (hRm : zRm R 0 0 cells slots) (x0 : Nat) (x1 : Int32) (x2 : Int32) (σ : zS) (u3 : Int32) (u4 : Int32) (y : (zS × Int32 × Int32) ⊕ (zS × Int32)) (hf : sX10_sumOf_5b x0 x1 x2 σ u3 u4 = some y) (hk : (∀ z : (zS × Int32 × Int32), y = .inl z → zW p l e R s m args below meth c cells slots Q D Ca B 5 z.1 N 5 [(0, .ref x0), (1, .int x1), (2, .int x2), (3, .int z.2.1), (4, .int z.2.2)] []) ∧ (∀ z : (zS × Int32), y = .inr z → zW p l e R s m args below meth c cells slots Q D Ca B 5 z.1 N 29 [(3, .int z.2)] [])) : zW p l e R s m args below meth c cells slots Q D Ca B 5 σ N 5 [(0, .ref x0), (1, .int x1), (2, .int x2), (3, .int u3), (4, .int u4)] [] := by
  unfold sX10_sumOf_5b at hf
  refine z_iload C dX10_sumOf_5 4 rfl ?_
  refine z_iload_n C dX10_sumOf_7 rfl 1 rfl ?_
  refine z_iload_n C dX10_sumOf_8 rfl 2 rfl ?_
  refine z_iadd C dX10_sumOf_9 ?_
  refine z_icmp_ge C 29 dX10_sumOf_10 (by decide) (fun q3 => ?_) (fun q3 => ?_)
  · rw [if_pos q3] at hf
    cases hf
    refine z_sub [3] rfl ?_
    exact hk.2 _ rfl
  · rw [if_neg q3] at hf
    refine z_iload_n C dX10_sumOf_13 rfl 3 rfl ?_
    refine z_aload_n C dX10_sumOf_14 rfl 0 rfl ?_
    obtain ⟨v1, hv1, hf⟩ := zbind hf
    refine gf_RX10_21 C hv1 dX10_sumOf_15 ?_
    refine z_iload C dX10_sumOf_18 4 rfl ?_
    obtain ⟨v2, hv2, hf⟩ := zbind hf
    refine z_aI C hv2 dX10_sumOf_20 ?_
    refine z_iadd C dX10_sumOf_21 ?_
    refine z_istore_n (lv2 := [(3, .int (u3 + v2)), (0, .ref x0), (1, .int x1), (2, .int x2), (4, .int u4)]) C dX10_sumOf_22 rfl (by decide) rfl ?_
    refine z_iinc (lv2 := [(4, .int (u4 + (zi 1))), (3, .int (u3 + v2)), (0, .ref x0), (1, .int x1), (2, .int x2)]) C (u4 + (zi 1)) dX10_sumOf_23 4 rfl rfl (by decide) rfl ?_
    refine z_goto C 5 dX10_sumOf_26 (by decide) ?_
    cases hf
    refine z_sub [2, 3, 4, 1, 0] rfl ?_
    exact hk.1 _ rfl

theorem wsX10_sumOf_5 (C : zC p s m args meth c cX10_sumOf RX10 5 D Ca B En) (hRm : zRm R 0 0 cells slots) (x0 : Nat) (x1 : Int32) (x2 : Int32) (n : Nat) (z : (zS × Int32 × Int32)) (x : (zS × Int32)) (hf : zloop (sX10_sumOf_5 x0 x1 x2) n z = some x) (hk : (∀ o : (zS × Int32), x = o → zW p l e R s m args below meth c cells slots Q D Ca B 5 o.1 N 29 [(3, .int o.2)] [])) : zW p l e R s m args below meth c cells slots Q D Ca B 5 z.1 N 5 [(0, .ref x0), (1, .int x1), (2, .int x2), (3, .int z.2.1), (4, .int z.2.2)] [] := by
  refine zloop_W (P := fun z : (zS × Int32 × Int32) => zW p l e R s m args below meth c cells slots Q D Ca B 5 z.1 N 5 [(0, .ref x0), (1, .int x1), (2, .int x2), (3, .int z.2.1), (4, .int z.2.2)] []) (K := fun x : (zS × Int32) => (∀ o : (zS × Int32), x = o → zW p l e R s m args below meth c cells slots Q D Ca B 5 o.1 N 29 [(3, .int o.2)] [])) ?_ n z x hf hk
  intro z y hy h1 h2
  refine wsX10_sumOf_5b C hRm x0 x1 x2 z.1 z.2.1 z.2.2 y hy ⟨fun z2 e => h1 z2 e, fun o e => (h2 _ e) o rfl⟩
set_option maxRecDepth 100000 in
set_option maxHeartbeats 4000000 in
theorem wfX10_sumOf (C : zC p s m args meth c cX10_sumOf RX10 5 D Ca B En) (hRm : zRm R 0 0 cells slots) (σ : zS) (x0 : Nat) (x1 : Int32) (x2 : Int32) (τ : zS) (r : Int32) (hf : fX10_sumOf σ x0 x1 x2 = some (τ, r)) (hq : ∀ (pc : Nat) (lv : List (Nat × Value)), decode cX10_sumOf pc = .ok (.ireturn, 1) → zW p l e R s m args below meth c cells slots Q D Ca B 5 τ N pc lv [.int r]) : zW p l e R s m args below meth c cells slots Q D Ca B 5 σ N 0 [(0, .ref x0), (1, .int x1), (2, .int x2)] [] := by
  unfold fX10_sumOf at hf
  refine z_iconst C (zi 0) dX10_sumOf_0 (by decide) ?_
  refine z_istore_n (lv2 := [(3, .int ((zi 0))), (0, .ref x0), (1, .int x1), (2, .int x2)]) C dX10_sumOf_1 rfl (by decide) rfl ?_
  refine z_iload_n C dX10_sumOf_2 rfl 2 rfl ?_
  refine z_istore (lv2 := [(4, .int x1), (3, .int ((zi 0))), (0, .ref x0), (1, .int x1), (2, .int x2)]) C dX10_sumOf_3 (by decide) rfl ?_
  obtain ⟨o4, ho4, hf⟩ := zbind hf
  refine z_sub [2, 3, 4, 1, 0] rfl ?_
  refine wsX10_sumOf_5 C hRm _ _ _ zfuel (σ, (zi 0), x1) o4 ho4 ?_
  intro z9 e9
  subst e9
  refine z_iload_n C dX10_sumOf_29 rfl 0 rfl ?_
  cases hf
  exact hq _ _ dX10_sumOf_30

theorem mX10_sumOf (l : Launch) (D : va_G) (Ca : Nat → ClassId) (B : Nat) (En : State → Prop) (hE : zEk B En) (σ : zS) (N : Nat) (x0 : Nat) (x1 : Int32) (x2 : Int32) (X : zS × Int32) (hf : fX10_sumOf σ x0 x1 x2 = some X) : zMi l D Ca B En yX10_sumOf cX10_sumOf 5 (Option.some Jvm.ClassFile.FieldType.int) 0 0 [.ref x0, .int x1, .int x2] σ N X.1 X.2 :=
  zMet_i (own := RX10) hE (by decide +kernel) rfl (Nat.le_of_ble_eq_true rfl) (fun p e s m args below meth c C hr hRm => wfX10_sumOf C hRm σ x0 x1 x2 X.1 X.2 hf (fun pc lv hd => zfin_i C hr hd))
theorem dX10_progress_0 : decode cX10_progress 0 = .ok (.aload_n 0, 1) := by decide +kernel
theorem dX10_progress_1 : decode cX10_progress 1 = .ok (.iload_n 1, 1) := by decide +kernel
theorem dX10_progress_2 : decode cX10_progress 2 = .ok (.i2l, 1) := by decide +kernel
theorem dX10_progress_3 : decode cX10_progress 3 = .ok (.lconst 0, 1) := by decide +kernel
theorem dX10_progress_4 : decode cX10_progress 4 = .ok (.ldc2_w 350, 3) := by decide +kernel
theorem dX10_progress_7 : decode cX10_progress 7 = .ok (.invokestatic 247, 3) := by decide +kernel
theorem dX10_progress_10 : decode cX10_progress 10 = .ok (.invokevirtual 96, 3) := by decide +kernel
theorem dX10_progress_13 : decode cX10_progress 13 = .ok (.ifCond .ne 5, 3) := by decide +kernel
theorem dX10_progress_16 : decode cX10_progress 16 = .ok (.iconst 0, 1) := by decide +kernel
theorem dX10_progress_17 : decode cX10_progress 17 = .ok (.ireturn, 1) := by decide +kernel
theorem dX10_progress_18 : decode cX10_progress 18 = .ok (.aload_n 0, 1) := by decide +kernel
theorem dX10_progress_19 : decode cX10_progress 19 = .ok (.getfield 21, 3) := by decide +kernel
theorem dX10_progress_22 : decode cX10_progress 22 = .ok (.bipush 67, 2) := by decide +kernel
theorem dX10_progress_24 : decode cX10_progress 24 = .ok (.iaload, 1) := by decide +kernel
theorem dX10_progress_25 : decode cX10_progress 25 = .ok (.ifCond .ne 5, 3) := by decide +kernel
theorem dX10_progress_28 : decode cX10_progress 28 = .ok (.iconst (-1), 1) := by decide +kernel
theorem dX10_progress_29 : decode cX10_progress 29 = .ok (.ireturn, 1) := by decide +kernel
theorem dX10_progress_30 : decode cX10_progress 30 = .ok (.iload_n 1, 1) := by decide +kernel
theorem dX10_progress_31 : decode cX10_progress 31 = .ok (.tableswitch 86 0 5 #[37, 44, 52, 60, 68, 77], 37) := by decide +kernel
theorem dX10_progress_68 : decode cX10_progress 68 = .ok (.aload_n 0, 1) := by decide +kernel
theorem dX10_progress_69 : decode cX10_progress 69 = .ok (.getfield 21, 3) := by decide +kernel
theorem dX10_progress_72 : decode cX10_progress 72 = .ok (.iconst 5, 1) := by decide +kernel
theorem dX10_progress_73 : decode cX10_progress 73 = .ok (.iaload, 1) := by decide +kernel
theorem dX10_progress_74 : decode cX10_progress 74 = .ok (.ireturn, 1) := by decide +kernel
theorem dX10_progress_75 : decode cX10_progress 75 = .ok (.aload_n 0, 1) := by decide +kernel
theorem dX10_progress_76 : decode cX10_progress 76 = .ok (.getfield 21, 3) := by decide +kernel
theorem dX10_progress_79 : decode cX10_progress 79 = .ok (.bipush 68, 2) := by decide +kernel
theorem dX10_progress_81 : decode cX10_progress 81 = .ok (.iaload, 1) := by decide +kernel
theorem dX10_progress_82 : decode cX10_progress 82 = .ok (.ireturn, 1) := by decide +kernel
theorem dX10_progress_83 : decode cX10_progress 83 = .ok (.aload_n 0, 1) := by decide +kernel
theorem dX10_progress_84 : decode cX10_progress 84 = .ok (.getfield 21, 3) := by decide +kernel
theorem dX10_progress_87 : decode cX10_progress 87 = .ok (.bipush 69, 2) := by decide +kernel
theorem dX10_progress_89 : decode cX10_progress 89 = .ok (.iaload, 1) := by decide +kernel
theorem dX10_progress_90 : decode cX10_progress 90 = .ok (.ireturn, 1) := by decide +kernel
theorem dX10_progress_91 : decode cX10_progress 91 = .ok (.aload_n 0, 1) := by decide +kernel
theorem dX10_progress_92 : decode cX10_progress 92 = .ok (.bipush 70, 2) := by decide +kernel
theorem dX10_progress_94 : decode cX10_progress 94 = .ok (.iconst 4, 1) := by decide +kernel
theorem dX10_progress_95 : decode cX10_progress 95 = .ok (.invokevirtual 352, 3) := by decide +kernel
theorem dX10_progress_98 : decode cX10_progress 98 = .ok (.ireturn, 1) := by decide +kernel
theorem dX10_progress_99 : decode cX10_progress 99 = .ok (.aload_n 0, 1) := by decide +kernel
theorem dX10_progress_100 : decode cX10_progress 100 = .ok (.bipush 74, 2) := by decide +kernel
theorem dX10_progress_102 : decode cX10_progress 102 = .ok (.bipush 16, 2) := by decide +kernel
theorem dX10_progress_104 : decode cX10_progress 104 = .ok (.invokevirtual 352, 3) := by decide +kernel
theorem dX10_progress_107 : decode cX10_progress 107 = .ok (.ireturn, 1) := by decide +kernel
theorem dX10_progress_108 : decode cX10_progress 108 = .ok (.aload_n 0, 1) := by decide +kernel
theorem dX10_progress_109 : decode cX10_progress 109 = .ok (.bipush 90, 2) := by decide +kernel
theorem dX10_progress_111 : decode cX10_progress 111 = .ok (.bipush 8, 2) := by decide +kernel
theorem dX10_progress_113 : decode cX10_progress 113 = .ok (.invokevirtual 352, 3) := by decide +kernel
theorem dX10_progress_116 : decode cX10_progress 116 = .ok (.ireturn, 1) := by decide +kernel
theorem dX10_progress_117 : decode cX10_progress 117 = .ok (.aload_n 0, 1) := by decide +kernel
theorem dX10_progress_118 : decode cX10_progress 118 = .ok (.sipush 14598, 3) := by decide +kernel
theorem dX10_progress_121 : decode cX10_progress 121 = .ok (.sipush 17830, 3) := by decide +kernel
theorem dX10_progress_124 : decode cX10_progress 124 = .ok (.invokevirtual 307, 3) := by decide +kernel
theorem dX10_progress_127 : decode cX10_progress 127 = .ok (.ireturn, 1) := by decide +kernel
theorem hyX10_progress : yX10_progress.cls ≠ "java/lang/invoke/MethodHandle" ∧ yX10_progress.cls ≠ "java/lang/invoke/VarHandle" ∧ (parseMethodDescriptor yX10_progress.desc).map (fun d => d.parameters.length) = some 1 := ⟨by decide +kernel, by decide +kernel, by decide +kernel⟩
set_option maxRecDepth 100000 in
set_option maxHeartbeats 4000000 in
theorem wfX10_progress (C : zC p s m args meth c cX10_progress RX10 2 D Ca B En) (hRm : zRm R 1 25 cells slots) (σ : zS) (x0 : Nat) (x1 : Int32) (τ : zS) (r : Int32) (hf : fX10_progress σ x0 x1 = some (τ, r)) (hq : ∀ (pc : Nat) (lv : List (Nat × Value)), decode cX10_progress pc = .ok (.ireturn, 1) → zW p l e R s m args below meth c cells slots Q D Ca B 2 τ N pc lv [.int r]) : zW p l e R s m args below meth c cells slots Q D Ca B 2 σ N 0 [(0, .ref x0), (1, .int x1)] [] := by
  unfold fX10_progress at hf
  refine z_aload_n C dX10_progress_0 rfl 0 rfl ?_
  refine z_iload_n C dX10_progress_1 rfl 1 rfl ?_
  refine z_i2l C dX10_progress_2 ?_
  refine z_lconst C 0 dX10_progress_3 (by decide) ?_
  refine z_ldc2 C kw_1771 dX10_progress_4 ?_
  obtain ⟨c1, hc1, hf⟩ := zbind hf
  refine z_callSi (As := [.long x1.toInt64, .long 0, .long 6]) (F0 := 1) (L0 := 25) C (mX10_isIn l D Ca B En C.2.2.2.2.2.2.2.1 σ N x1.toInt64 0 6 _ hc1) hRm kw_1392 kw_14 kw_1390 kw_1391 hyX10_isIn (Nat.le_of_ble_eq_true rfl) (Nat.le_of_ble_eq_true rfl) rfl rfl (Nat.le_of_ble_eq_true rfl) dX10_progress_7 ?_
  obtain ⟨c2, hc2, hf⟩ := zbind hf
  obtain ⟨kc2, hc2⟩ := zck_ok hc2
  refine z_callVi (As := [.int c1.2]) (F0 := 1) (L0 := 25) C (mX10_is l D Ca B En C.2.2.2.2.2.2.2.1 c1.1 N x0 c1.2 _ hc2) hRm kc2 rfl kw_1373 kw_14 kw_1370 kw_1372 kp_37 hyX10_is (Nat.le_of_ble_eq_true rfl) (Nat.le_of_ble_eq_true rfl) rfl rfl (Nat.le_of_ble_eq_true rfl) dX10_progress_10 ?_
  refine z_if_ne C 18 dX10_progress_13 (by decide) (fun q22 => ?_) (fun q22 => ?_)
  · rw [if_neg q22] at hf
    refine z_aload_n C dX10_progress_18 rfl 0 rfl ?_
    obtain ⟨v3, hv3, hf⟩ := zbind hf
    refine gf_RX10_21 C hv3 dX10_progress_19 ?_
    refine z_bipush C (zi 67) dX10_progress_22 (by decide) ?_
    obtain ⟨v4, hv4, hf⟩ := zbind hf
    refine z_aI C hv4 dX10_progress_24 ?_
    refine z_if_ne C 30 dX10_progress_25 (by decide) (fun q21 => ?_) (fun q21 => ?_)
    · rw [if_neg q21] at hf
      refine z_iload_n C dX10_progress_30 rfl 1 rfl ?_
      by_cases q5 : x1 = (zi 0)
      · rw [if_pos q5] at hf
        refine z_tableIn C 68 dX10_progress_31 (by rw [q5]; decide) (by rw [q5]; decide) (by rw [q5]; rfl) (by decide) ?_
        refine z_aload_n C dX10_progress_68 rfl 0 rfl ?_
        obtain ⟨v6, hv6, hf⟩ := zbind hf
        refine gf_RX10_21 C hv6 dX10_progress_69 ?_
        refine z_iconst C (zi 5) dX10_progress_72 (by decide) ?_
        obtain ⟨v7, hv7, hf⟩ := zbind hf
        refine z_aI C hv7 dX10_progress_73 ?_
        cases hf
        exact hq _ _ dX10_progress_74
      · rw [if_neg q5] at hf
        by_cases q8 : x1 = (zi 1)
        · rw [if_pos q8] at hf
          refine z_tableIn C 75 dX10_progress_31 (by rw [q8]; decide) (by rw [q8]; decide) (by rw [q8]; rfl) (by decide) ?_
          refine z_aload_n C dX10_progress_75 rfl 0 rfl ?_
          obtain ⟨v9, hv9, hf⟩ := zbind hf
          refine gf_RX10_21 C hv9 dX10_progress_76 ?_
          refine z_bipush C (zi 68) dX10_progress_79 (by decide) ?_
          obtain ⟨v10, hv10, hf⟩ := zbind hf
          refine z_aI C hv10 dX10_progress_81 ?_
          cases hf
          exact hq _ _ dX10_progress_82
        · rw [if_neg q8] at hf
          by_cases q11 : x1 = (zi 2)
          · rw [if_pos q11] at hf
            refine z_tableIn C 83 dX10_progress_31 (by rw [q11]; decide) (by rw [q11]; decide) (by rw [q11]; rfl) (by decide) ?_
            refine z_aload_n C dX10_progress_83 rfl 0 rfl ?_
            obtain ⟨v12, hv12, hf⟩ := zbind hf
            refine gf_RX10_21 C hv12 dX10_progress_84 ?_
            refine z_bipush C (zi 69) dX10_progress_87 (by decide) ?_
            obtain ⟨v13, hv13, hf⟩ := zbind hf
            refine z_aI C hv13 dX10_progress_89 ?_
            cases hf
            exact hq _ _ dX10_progress_90
          · rw [if_neg q11] at hf
            by_cases q14 : x1 = (zi 3)
            · rw [if_pos q14] at hf
              refine z_tableIn C 91 dX10_progress_31 (by rw [q14]; decide) (by rw [q14]; decide) (by rw [q14]; rfl) (by decide) ?_
              refine z_aload_n C dX10_progress_91 rfl 0 rfl ?_
              refine z_bipush C (zi 70) dX10_progress_92 (by decide) ?_
              refine z_iconst C (zi 4) dX10_progress_94 (by decide) ?_
              obtain ⟨c15, hc15, hf⟩ := zbind hf
              obtain ⟨kc15, hc15⟩ := zck_ok hc15
              refine z_callVi (As := [.int ((zi 70)), .int ((zi 4))]) (F0 := 1) (L0 := 25) C (mX10_sumOf l D Ca B En C.2.2.2.2.2.2.2.1 c2.1 N x0 ((zi 70)) ((zi 4)) _ hc15) hRm kc15 rfl kw_1775 kw_14 kw_1772 kw_1774 kp_100 hyX10_sumOf (Nat.le_of_ble_eq_true rfl) (Nat.le_of_ble_eq_true rfl) rfl rfl (Nat.le_of_ble_eq_true rfl) dX10_progress_95 ?_
              cases hf
              exact hq _ _ dX10_progress_98
            · rw [if_neg q14] at hf
              by_cases q16 : x1 = (zi 4)
              · rw [if_pos q16] at hf
                refine z_tableIn C 99 dX10_progress_31 (by rw [q16]; decide) (by rw [q16]; decide) (by rw [q16]; rfl) (by decide) ?_
                refine z_aload_n C dX10_progress_99 rfl 0 rfl ?_
                refine z_bipush C (zi 74) dX10_progress_100 (by decide) ?_
                refine z_bipush C (zi 16) dX10_progress_102 (by decide) ?_
                obtain ⟨c17, hc17, hf⟩ := zbind hf
                obtain ⟨kc17, hc17⟩ := zck_ok hc17
                refine z_callVi (As := [.int ((zi 74)), .int ((zi 16))]) (F0 := 1) (L0 := 25) C (mX10_sumOf l D Ca B En C.2.2.2.2.2.2.2.1 c2.1 N x0 ((zi 74)) ((zi 16)) _ hc17) hRm kc17 rfl kw_1775 kw_14 kw_1772 kw_1774 kp_100 hyX10_sumOf (Nat.le_of_ble_eq_true rfl) (Nat.le_of_ble_eq_true rfl) rfl rfl (Nat.le_of_ble_eq_true rfl) dX10_progress_104 ?_
                cases hf
                exact hq _ _ dX10_progress_107
              · rw [if_neg q16] at hf
                by_cases q18 : x1 = (zi 5)
                · rw [if_pos q18] at hf
                  refine z_tableIn C 108 dX10_progress_31 (by rw [q18]; decide) (by rw [q18]; decide) (by rw [q18]; rfl) (by decide) ?_
                  refine z_aload_n C dX10_progress_108 rfl 0 rfl ?_
                  refine z_bipush C (zi 90) dX10_progress_109 (by decide) ?_
                  refine z_bipush C (zi 8) dX10_progress_111 (by decide) ?_
                  obtain ⟨c19, hc19, hf⟩ := zbind hf
                  obtain ⟨kc19, hc19⟩ := zck_ok hc19
                  refine z_callVi (As := [.int ((zi 90)), .int ((zi 8))]) (F0 := 1) (L0 := 25) C (mX10_sumOf l D Ca B En C.2.2.2.2.2.2.2.1 c2.1 N x0 ((zi 90)) ((zi 8)) _ hc19) hRm kc19 rfl kw_1775 kw_14 kw_1772 kw_1774 kp_100 hyX10_sumOf (Nat.le_of_ble_eq_true rfl) (Nat.le_of_ble_eq_true rfl) rfl rfl (Nat.le_of_ble_eq_true rfl) dX10_progress_113 ?_
                  cases hf
                  exact hq _ _ dX10_progress_116
                · rw [if_neg q18] at hf
                  have w9 : ∀ k : Nat, k < 6 → ¬ x1 = Int32.ofInt ((0 : Int) + k) := by
                    intro k hk
                    match k, hk with
                    | 0, _ => exact q5
                    | 1, _ => exact q8
                    | 2, _ => exact q11
                    | 3, _ => exact q14
                    | 4, _ => exact q16
                    | 5, _ => exact q18
                    | k + 6, hk => exact absurd hk (by omega)
                  refine z_tableOut C 117 dX10_progress_31 (zsw 0 6 w9 (by decide)) (by decide) ?_
                  refine z_aload_n C dX10_progress_117 rfl 0 rfl ?_
                  refine z_sipush C (zi 14598) dX10_progress_118 (by decide) ?_
                  refine z_sipush C (zi 17830) dX10_progress_121 (by decide) ?_
                  obtain ⟨c20, hc20, hf⟩ := zbind hf
                  obtain ⟨kc20, hc20⟩ := zck_ok hc20
                  refine z_callVi (As := [.int ((zi 14598)), .int ((zi 17830))]) (F0 := 1) (L0 := 25) C (mX10_allIn l D Ca B En C.2.2.2.2.2.2.2.1 c2.1 N x0 ((zi 14598)) ((zi 17830)) _ hc20) hRm kc20 rfl kw_1669 kw_14 kw_1666 kw_1668 kp_88 hyX10_allIn (Nat.le_of_ble_eq_true rfl) (Nat.le_of_ble_eq_true rfl) rfl rfl (Nat.le_of_ble_eq_true rfl) dX10_progress_124 ?_
                  cases hf
                  exact hq _ _ dX10_progress_127
    · rw [if_pos q21] at hf
      refine z_iconst C (zi (-1)) dX10_progress_28 (by decide) ?_
      cases hf
      exact hq _ _ dX10_progress_29
  · rw [if_pos q22] at hf
    refine z_iconst C (zi 0) dX10_progress_16 (by decide) ?_
    cases hf
    exact hq _ _ dX10_progress_17

theorem mX10_progress (l : Launch) (D : va_G) (Ca : Nat → ClassId) (B : Nat) (En : State → Prop) (hE : zEk B En) (σ : zS) (N : Nat) (x0 : Nat) (x1 : Int32) (X : zS × Int32) (hf : fX10_progress σ x0 x1 = some X) : zMi l D Ca B En yX10_progress cX10_progress 2 (Option.some Jvm.ClassFile.FieldType.int) 1 25 [.ref x0, .int x1] σ N X.1 X.2 :=
  zMet_i (own := RX10) hE (by decide +kernel) rfl (Nat.le_of_ble_eq_true rfl) (fun p e s m args below meth c C hr hRm => wfX10_progress C hRm σ x0 x1 X.1 X.2 hf (fun pc lv hd => zfin_i C hr hd))
theorem dX10_completed_0 : decode cX10_completed 0 = .ok (.aload_n 0, 1) := by decide +kernel
theorem dX10_completed_1 : decode cX10_completed 1 = .ok (.iload_n 1, 1) := by decide +kernel
theorem dX10_completed_2 : decode cX10_completed 2 = .ok (.i2l, 1) := by decide +kernel
theorem dX10_completed_3 : decode cX10_completed 3 = .ok (.lconst 0, 1) := by decide +kernel
theorem dX10_completed_4 : decode cX10_completed 4 = .ok (.ldc2_w 355, 3) := by decide +kernel
theorem dX10_completed_7 : decode cX10_completed 7 = .ok (.invokestatic 247, 3) := by decide +kernel
theorem dX10_completed_10 : decode cX10_completed 10 = .ok (.invokevirtual 96, 3) := by decide +kernel
theorem dX10_completed_13 : decode cX10_completed 13 = .ok (.ifCond .ne 5, 3) := by decide +kernel
theorem dX10_completed_16 : decode cX10_completed 16 = .ok (.iconst 0, 1) := by decide +kernel
theorem dX10_completed_17 : decode cX10_completed 17 = .ok (.ireturn, 1) := by decide +kernel
theorem dX10_completed_18 : decode cX10_completed 18 = .ok (.aload_n 0, 1) := by decide +kernel
theorem dX10_completed_19 : decode cX10_completed 19 = .ok (.getfield 21, 3) := by decide +kernel
theorem dX10_completed_22 : decode cX10_completed 22 = .ok (.bipush 118, 2) := by decide +kernel
theorem dX10_completed_24 : decode cX10_completed 24 = .ok (.iaload, 1) := by decide +kernel
theorem dX10_completed_25 : decode cX10_completed 25 = .ok (.ifCond .ne 5, 3) := by decide +kernel
theorem dX10_completed_28 : decode cX10_completed 28 = .ok (.iconst (-1), 1) := by decide +kernel
theorem dX10_completed_29 : decode cX10_completed 29 = .ok (.ireturn, 1) := by decide +kernel
theorem dX10_completed_30 : decode cX10_completed 30 = .ok (.iload_n 1, 1) := by decide +kernel
theorem dX10_completed_31 : decode cX10_completed 31 = .ok (.tableswitch 76 0 4 #[33, 41, 49, 57, 65], 33) := by decide +kernel
theorem dX10_completed_64 : decode cX10_completed 64 = .ok (.aload_n 0, 1) := by decide +kernel
theorem dX10_completed_65 : decode cX10_completed 65 = .ok (.getfield 21, 3) := by decide +kernel
theorem dX10_completed_68 : decode cX10_completed 68 = .ok (.bipush 119, 2) := by decide +kernel
theorem dX10_completed_70 : decode cX10_completed 70 = .ok (.iaload, 1) := by decide +kernel
theorem dX10_completed_71 : decode cX10_completed 71 = .ok (.ireturn, 1) := by decide +kernel
theorem dX10_completed_72 : decode cX10_completed 72 = .ok (.aload_n 0, 1) := by decide +kernel
theorem dX10_completed_73 : decode cX10_completed 73 = .ok (.getfield 21, 3) := by decide +kernel
theorem dX10_completed_76 : decode cX10_completed 76 = .ok (.bipush 120, 2) := by decide +kernel
theorem dX10_completed_78 : decode cX10_completed 78 = .ok (.iaload, 1) := by decide +kernel
theorem dX10_completed_79 : decode cX10_completed 79 = .ok (.ireturn, 1) := by decide +kernel
theorem dX10_completed_80 : decode cX10_completed 80 = .ok (.aload_n 0, 1) := by decide +kernel
theorem dX10_completed_81 : decode cX10_completed 81 = .ok (.getfield 21, 3) := by decide +kernel
theorem dX10_completed_84 : decode cX10_completed 84 = .ok (.bipush 121, 2) := by decide +kernel
theorem dX10_completed_86 : decode cX10_completed 86 = .ok (.iaload, 1) := by decide +kernel
theorem dX10_completed_87 : decode cX10_completed 87 = .ok (.ireturn, 1) := by decide +kernel
theorem dX10_completed_88 : decode cX10_completed 88 = .ok (.aload_n 0, 1) := by decide +kernel
theorem dX10_completed_89 : decode cX10_completed 89 = .ok (.getfield 21, 3) := by decide +kernel
theorem dX10_completed_92 : decode cX10_completed 92 = .ok (.bipush 122, 2) := by decide +kernel
theorem dX10_completed_94 : decode cX10_completed 94 = .ok (.iaload, 1) := by decide +kernel
theorem dX10_completed_95 : decode cX10_completed 95 = .ok (.ireturn, 1) := by decide +kernel
theorem dX10_completed_96 : decode cX10_completed 96 = .ok (.aload_n 0, 1) := by decide +kernel
theorem dX10_completed_97 : decode cX10_completed 97 = .ok (.sipush 24246, 3) := by decide +kernel
theorem dX10_completed_100 : decode cX10_completed 100 = .ok (.sipush 27478, 3) := by decide +kernel
theorem dX10_completed_103 : decode cX10_completed 103 = .ok (.invokevirtual 307, 3) := by decide +kernel
theorem dX10_completed_106 : decode cX10_completed 106 = .ok (.ireturn, 1) := by decide +kernel
theorem dX10_completed_107 : decode cX10_completed 107 = .ok (.aload_n 0, 1) := by decide +kernel
theorem dX10_completed_108 : decode cX10_completed 108 = .ok (.getfield 21, 3) := by decide +kernel
theorem dX10_completed_111 : decode cX10_completed 111 = .ok (.bipush 123, 2) := by decide +kernel
theorem dX10_completed_113 : decode cX10_completed 113 = .ok (.iaload, 1) := by decide +kernel
theorem dX10_completed_114 : decode cX10_completed 114 = .ok (.ireturn, 1) := by decide +kernel
theorem hyX10_completed : yX10_completed.cls ≠ "java/lang/invoke/MethodHandle" ∧ yX10_completed.cls ≠ "java/lang/invoke/VarHandle" ∧ (parseMethodDescriptor yX10_completed.desc).map (fun d => d.parameters.length) = some 1 := ⟨by decide +kernel, by decide +kernel, by decide +kernel⟩
set_option maxRecDepth 100000 in
set_option maxHeartbeats 4000000 in
theorem wfX10_completed (C : zC p s m args meth c cX10_completed RX10 2 D Ca B En) (hRm : zRm R 1 25 cells slots) (σ : zS) (x0 : Nat) (x1 : Int32) (τ : zS) (r : Int32) (hf : fX10_completed σ x0 x1 = some (τ, r)) (hq : ∀ (pc : Nat) (lv : List (Nat × Value)), decode cX10_completed pc = .ok (.ireturn, 1) → zW p l e R s m args below meth c cells slots Q D Ca B 2 τ N pc lv [.int r]) : zW p l e R s m args below meth c cells slots Q D Ca B 2 σ N 0 [(0, .ref x0), (1, .int x1)] [] := by
  unfold fX10_completed at hf
  refine z_aload_n C dX10_completed_0 rfl 0 rfl ?_
  refine z_iload_n C dX10_completed_1 rfl 1 rfl ?_
  refine z_i2l C dX10_completed_2 ?_
  refine z_lconst C 0 dX10_completed_3 (by decide) ?_
  refine z_ldc2 C kw_1780 dX10_completed_4 ?_
  obtain ⟨c1, hc1, hf⟩ := zbind hf
  refine z_callSi (As := [.long x1.toInt64, .long 0, .long 5]) (F0 := 1) (L0 := 25) C (mX10_isIn l D Ca B En C.2.2.2.2.2.2.2.1 σ N x1.toInt64 0 5 _ hc1) hRm kw_1392 kw_14 kw_1390 kw_1391 hyX10_isIn (Nat.le_of_ble_eq_true rfl) (Nat.le_of_ble_eq_true rfl) rfl rfl (Nat.le_of_ble_eq_true rfl) dX10_completed_7 ?_
  obtain ⟨c2, hc2, hf⟩ := zbind hf
  obtain ⟨kc2, hc2⟩ := zck_ok hc2
  refine z_callVi (As := [.int c1.2]) (F0 := 1) (L0 := 25) C (mX10_is l D Ca B En C.2.2.2.2.2.2.2.1 c1.1 N x0 c1.2 _ hc2) hRm kc2 rfl kw_1373 kw_14 kw_1370 kw_1372 kp_37 hyX10_is (Nat.le_of_ble_eq_true rfl) (Nat.le_of_ble_eq_true rfl) rfl rfl (Nat.le_of_ble_eq_true rfl) dX10_completed_10 ?_
  refine z_if_ne C 18 dX10_completed_13 (by decide) (fun q22 => ?_) (fun q22 => ?_)
  · rw [if_neg q22] at hf
    refine z_aload_n C dX10_completed_18 rfl 0 rfl ?_
    obtain ⟨v3, hv3, hf⟩ := zbind hf
    refine gf_RX10_21 C hv3 dX10_completed_19 ?_
    refine z_bipush C (zi 118) dX10_completed_22 (by decide) ?_
    obtain ⟨v4, hv4, hf⟩ := zbind hf
    refine z_aI C hv4 dX10_completed_24 ?_
    refine z_if_ne C 30 dX10_completed_25 (by decide) (fun q21 => ?_) (fun q21 => ?_)
    · rw [if_neg q21] at hf
      refine z_iload_n C dX10_completed_30 rfl 1 rfl ?_
      by_cases q5 : x1 = (zi 0)
      · rw [if_pos q5] at hf
        refine z_tableIn C 64 dX10_completed_31 (by rw [q5]; decide) (by rw [q5]; decide) (by rw [q5]; rfl) (by decide) ?_
        refine z_aload_n C dX10_completed_64 rfl 0 rfl ?_
        obtain ⟨v6, hv6, hf⟩ := zbind hf
        refine gf_RX10_21 C hv6 dX10_completed_65 ?_
        refine z_bipush C (zi 119) dX10_completed_68 (by decide) ?_
        obtain ⟨v7, hv7, hf⟩ := zbind hf
        refine z_aI C hv7 dX10_completed_70 ?_
        cases hf
        exact hq _ _ dX10_completed_71
      · rw [if_neg q5] at hf
        by_cases q8 : x1 = (zi 1)
        · rw [if_pos q8] at hf
          refine z_tableIn C 72 dX10_completed_31 (by rw [q8]; decide) (by rw [q8]; decide) (by rw [q8]; rfl) (by decide) ?_
          refine z_aload_n C dX10_completed_72 rfl 0 rfl ?_
          obtain ⟨v9, hv9, hf⟩ := zbind hf
          refine gf_RX10_21 C hv9 dX10_completed_73 ?_
          refine z_bipush C (zi 120) dX10_completed_76 (by decide) ?_
          obtain ⟨v10, hv10, hf⟩ := zbind hf
          refine z_aI C hv10 dX10_completed_78 ?_
          cases hf
          exact hq _ _ dX10_completed_79
        · rw [if_neg q8] at hf
          by_cases q11 : x1 = (zi 2)
          · rw [if_pos q11] at hf
            refine z_tableIn C 80 dX10_completed_31 (by rw [q11]; decide) (by rw [q11]; decide) (by rw [q11]; rfl) (by decide) ?_
            refine z_aload_n C dX10_completed_80 rfl 0 rfl ?_
            obtain ⟨v12, hv12, hf⟩ := zbind hf
            refine gf_RX10_21 C hv12 dX10_completed_81 ?_
            refine z_bipush C (zi 121) dX10_completed_84 (by decide) ?_
            obtain ⟨v13, hv13, hf⟩ := zbind hf
            refine z_aI C hv13 dX10_completed_86 ?_
            cases hf
            exact hq _ _ dX10_completed_87
          · rw [if_neg q11] at hf
            by_cases q14 : x1 = (zi 3)
            · rw [if_pos q14] at hf
              refine z_tableIn C 88 dX10_completed_31 (by rw [q14]; decide) (by rw [q14]; decide) (by rw [q14]; rfl) (by decide) ?_
              refine z_aload_n C dX10_completed_88 rfl 0 rfl ?_
              obtain ⟨v15, hv15, hf⟩ := zbind hf
              refine gf_RX10_21 C hv15 dX10_completed_89 ?_
              refine z_bipush C (zi 122) dX10_completed_92 (by decide) ?_
              obtain ⟨v16, hv16, hf⟩ := zbind hf
              refine z_aI C hv16 dX10_completed_94 ?_
              cases hf
              exact hq _ _ dX10_completed_95
            · rw [if_neg q14] at hf
              by_cases q17 : x1 = (zi 4)
              · rw [if_pos q17] at hf
                refine z_tableIn C 96 dX10_completed_31 (by rw [q17]; decide) (by rw [q17]; decide) (by rw [q17]; rfl) (by decide) ?_
                refine z_aload_n C dX10_completed_96 rfl 0 rfl ?_
                refine z_sipush C (zi 24246) dX10_completed_97 (by decide) ?_
                refine z_sipush C (zi 27478) dX10_completed_100 (by decide) ?_
                obtain ⟨c18, hc18, hf⟩ := zbind hf
                obtain ⟨kc18, hc18⟩ := zck_ok hc18
                refine z_callVi (As := [.int ((zi 24246)), .int ((zi 27478))]) (F0 := 1) (L0 := 25) C (mX10_allIn l D Ca B En C.2.2.2.2.2.2.2.1 c2.1 N x0 ((zi 24246)) ((zi 27478)) _ hc18) hRm kc18 rfl kw_1669 kw_14 kw_1666 kw_1668 kp_88 hyX10_allIn (Nat.le_of_ble_eq_true rfl) (Nat.le_of_ble_eq_true rfl) rfl rfl (Nat.le_of_ble_eq_true rfl) dX10_completed_103 ?_
                cases hf
                exact hq _ _ dX10_completed_106
              · rw [if_neg q17] at hf
                have w9 : ∀ k : Nat, k < 5 → ¬ x1 = Int32.ofInt ((0 : Int) + k) := by
                  intro k hk
                  match k, hk with
                  | 0, _ => exact q5
                  | 1, _ => exact q8
                  | 2, _ => exact q11
                  | 3, _ => exact q14
                  | 4, _ => exact q17
                  | k + 5, hk => exact absurd hk (by omega)
                refine z_tableOut C 107 dX10_completed_31 (zsw 0 5 w9 (by decide)) (by decide) ?_
                refine z_aload_n C dX10_completed_107 rfl 0 rfl ?_
                obtain ⟨v19, hv19, hf⟩ := zbind hf
                refine gf_RX10_21 C hv19 dX10_completed_108 ?_
                refine z_bipush C (zi 123) dX10_completed_111 (by decide) ?_
                obtain ⟨v20, hv20, hf⟩ := zbind hf
                refine z_aI C hv20 dX10_completed_113 ?_
                cases hf
                exact hq _ _ dX10_completed_114
    · rw [if_pos q21] at hf
      refine z_iconst C (zi (-1)) dX10_completed_28 (by decide) ?_
      cases hf
      exact hq _ _ dX10_completed_29
  · rw [if_pos q22] at hf
    refine z_iconst C (zi 0) dX10_completed_16 (by decide) ?_
    cases hf
    exact hq _ _ dX10_completed_17

theorem mX10_completed (l : Launch) (D : va_G) (Ca : Nat → ClassId) (B : Nat) (En : State → Prop) (hE : zEk B En) (σ : zS) (N : Nat) (x0 : Nat) (x1 : Int32) (X : zS × Int32) (hf : fX10_completed σ x0 x1 = some X) : zMi l D Ca B En yX10_completed cX10_completed 2 (Option.some Jvm.ClassFile.FieldType.int) 1 25 [.ref x0, .int x1] σ N X.1 X.2 :=
  zMet_i (own := RX10) hE (by decide +kernel) rfl (Nat.le_of_ble_eq_true rfl) (fun p e s m args below meth c C hr hRm => wfX10_completed C hRm σ x0 x1 X.1 X.2 hf (fun pc lv hd => zfin_i C hr hd))
theorem dX10_notedPosition_0 : decode cX10_notedPosition 0 = .ok (.aload_n 0, 1) := by decide +kernel
theorem dX10_notedPosition_1 : decode cX10_notedPosition 1 = .ok (.aload_n 0, 1) := by decide +kernel
theorem dX10_notedPosition_2 : decode cX10_notedPosition 2 = .ok (.iload_n 1, 1) := by decide +kernel
theorem dX10_notedPosition_3 : decode cX10_notedPosition 3 = .ok (.invokevirtual 289, 3) := by decide +kernel
theorem dX10_notedPosition_6 : decode cX10_notedPosition 6 = .ok (.invokevirtual 96, 3) := by decide +kernel
theorem dX10_notedPosition_9 : decode cX10_notedPosition 9 = .ok (.ifCond .eq 15, 3) := by decide +kernel
theorem dX10_notedPosition_12 : decode cX10_notedPosition 12 = .ok (.aload_n 0, 1) := by decide +kernel
theorem dX10_notedPosition_13 : decode cX10_notedPosition 13 = .ok (.getfield 21, 3) := by decide +kernel
theorem dX10_notedPosition_16 : decode cX10_notedPosition 16 = .ok (.bipush 124, 2) := by decide +kernel
theorem dX10_notedPosition_18 : decode cX10_notedPosition 18 = .ok (.iload_n 1, 1) := by decide +kernel
theorem dX10_notedPosition_19 : decode cX10_notedPosition 19 = .ok (.iadd, 1) := by decide +kernel
theorem dX10_notedPosition_20 : decode cX10_notedPosition 20 = .ok (.iaload, 1) := by decide +kernel
theorem dX10_notedPosition_21 : decode cX10_notedPosition 21 = .ok (.goto 4, 3) := by decide +kernel
theorem dX10_notedPosition_24 : decode cX10_notedPosition 24 = .ok (.iconst 0, 1) := by decide +kernel
theorem dX10_notedPosition_25 : decode cX10_notedPosition 25 = .ok (.ireturn, 1) := by decide +kernel
theorem hyX10_notedPosition : yX10_notedPosition.cls ≠ "java/lang/invoke/MethodHandle" ∧ yX10_notedPosition.cls ≠ "java/lang/invoke/VarHandle" ∧ (parseMethodDescriptor yX10_notedPosition.desc).map (fun d => d.parameters.length) = some 1 := ⟨by decide +kernel, by decide +kernel, by decide +kernel⟩
set_option maxRecDepth 100000 in
set_option maxHeartbeats 4000000 in
theorem wfX10_notedPosition (C : zC p s m args meth c cX10_notedPosition RX10 2 D Ca B En) (hRm : zRm R 2 46 cells slots) (σ : zS) (x0 : Nat) (x1 : Int32) (τ : zS) (r : Int32) (hf : fX10_notedPosition σ x0 x1 = some (τ, r)) (hq : ∀ (pc : Nat) (lv : List (Nat × Value)), decode cX10_notedPosition pc = .ok (.ireturn, 1) → zW p l e R s m args below meth c cells slots Q D Ca B 2 τ N pc lv [.int r]) : zW p l e R s m args below meth c cells slots Q D Ca B 2 σ N 0 [(0, .ref x0), (1, .int x1)] [] := by
  unfold fX10_notedPosition at hf
  refine z_aload_n C dX10_notedPosition_0 rfl 0 rfl ?_
  refine z_aload_n C dX10_notedPosition_1 rfl 0 rfl ?_
  refine z_iload_n C dX10_notedPosition_2 rfl 1 rfl ?_
  obtain ⟨c1, hc1, hf⟩ := zbind hf
  obtain ⟨kc1, hc1⟩ := zck_ok hc1
  refine z_callVi (As := [.int x1]) (F0 := 2) (L0 := 46) C (mX10_isSource l D Ca B En C.2.2.2.2.2.2.2.1 σ N x0 x1 _ hc1) hRm kc1 rfl kw_1632 kw_14 kw_1629 kw_1631 kp_83 hyX10_isSource (Nat.le_of_ble_eq_true rfl) (Nat.le_of_ble_eq_true rfl) rfl rfl (Nat.le_of_ble_eq_true rfl) dX10_notedPosition_3 ?_
  obtain ⟨c2, hc2, hf⟩ := zbind hf
  obtain ⟨kc2, hc2⟩ := zck_ok hc2
  refine z_callVi (As := [.int c1.2]) (F0 := 2) (L0 := 46) C (mX10_is l D Ca B En C.2.2.2.2.2.2.2.1 c1.1 N x0 c1.2 _ hc2) hRm kc2 rfl kw_1373 kw_14 kw_1370 kw_1372 kp_37 hyX10_is (Nat.le_of_ble_eq_true rfl) (Nat.le_of_ble_eq_true rfl) rfl rfl (Nat.le_of_ble_eq_true rfl) dX10_notedPosition_6 ?_
  refine z_if_eq C 24 dX10_notedPosition_9 (by decide) (fun q5 => ?_) (fun q5 => ?_)
  · rw [if_pos q5] at hf
    refine z_iconst C (zi 0) dX10_notedPosition_24 (by decide) ?_
    cases hf
    exact hq _ _ dX10_notedPosition_25
  · rw [if_neg q5] at hf
    refine z_aload_n C dX10_notedPosition_12 rfl 0 rfl ?_
    obtain ⟨v3, hv3, hf⟩ := zbind hf
    refine gf_RX10_21 C hv3 dX10_notedPosition_13 ?_
    refine z_bipush C (zi 124) dX10_notedPosition_16 (by decide) ?_
    refine z_iload_n C dX10_notedPosition_18 rfl 1 rfl ?_
    refine z_iadd C dX10_notedPosition_19 ?_
    obtain ⟨v4, hv4, hf⟩ := zbind hf
    refine z_aI C hv4 dX10_notedPosition_20 ?_
    refine z_goto C 25 dX10_notedPosition_21 (by decide) ?_
    cases hf
    exact hq _ _ dX10_notedPosition_25

theorem mX10_notedPosition (l : Launch) (D : va_G) (Ca : Nat → ClassId) (B : Nat) (En : State → Prop) (hE : zEk B En) (σ : zS) (N : Nat) (x0 : Nat) (x1 : Int32) (X : zS × Int32) (hf : fX10_notedPosition σ x0 x1 = some X) : zMi l D Ca B En yX10_notedPosition cX10_notedPosition 2 (Option.some Jvm.ClassFile.FieldType.int) 2 46 [.ref x0, .int x1] σ N X.1 X.2 :=
  zMet_i (own := RX10) hE (by decide +kernel) rfl (Nat.le_of_ble_eq_true rfl) (fun p e s m args below meth c C hr hRm => wfX10_notedPosition C hRm σ x0 x1 X.1 X.2 hf (fun pc lv hd => zfin_i C hr hd))
theorem dX10_notedSum_0 : decode cX10_notedSum 0 = .ok (.aload_n 0, 1) := by decide +kernel
theorem dX10_notedSum_1 : decode cX10_notedSum 1 = .ok (.iload_n 1, 1) := by decide +kernel
theorem dX10_notedSum_2 : decode cX10_notedSum 2 = .ok (.invokestatic 326, 3) := by decide +kernel
theorem dX10_notedSum_5 : decode cX10_notedSum 5 = .ok (.invokevirtual 96, 3) := by decide +kernel
theorem dX10_notedSum_8 : decode cX10_notedSum 8 = .ok (.ifCond .eq 16, 3) := by decide +kernel
theorem dX10_notedSum_11 : decode cX10_notedSum 11 = .ok (.aload_n 0, 1) := by decide +kernel
theorem dX10_notedSum_12 : decode cX10_notedSum 12 = .ok (.getfield 21, 3) := by decide +kernel
theorem dX10_notedSum_15 : decode cX10_notedSum 15 = .ok (.sipush 128, 3) := by decide +kernel
theorem dX10_notedSum_18 : decode cX10_notedSum 18 = .ok (.iload_n 1, 1) := by decide +kernel
theorem dX10_notedSum_19 : decode cX10_notedSum 19 = .ok (.iadd, 1) := by decide +kernel
theorem dX10_notedSum_20 : decode cX10_notedSum 20 = .ok (.iaload, 1) := by decide +kernel
theorem dX10_notedSum_21 : decode cX10_notedSum 21 = .ok (.goto 4, 3) := by decide +kernel
theorem dX10_notedSum_24 : decode cX10_notedSum 24 = .ok (.iconst 0, 1) := by decide +kernel
theorem dX10_notedSum_25 : decode cX10_notedSum 25 = .ok (.ireturn, 1) := by decide +kernel
theorem hyX10_notedSum : yX10_notedSum.cls ≠ "java/lang/invoke/MethodHandle" ∧ yX10_notedSum.cls ≠ "java/lang/invoke/VarHandle" ∧ (parseMethodDescriptor yX10_notedSum.desc).map (fun d => d.parameters.length) = some 1 := ⟨by decide +kernel, by decide +kernel, by decide +kernel⟩
set_option maxRecDepth 100000 in
set_option maxHeartbeats 4000000 in
theorem wfX10_notedSum (C : zC p s m args meth c cX10_notedSum RX10 2 D Ca B En) (hRm : zRm R 2 45 cells slots) (σ : zS) (x0 : Nat) (x1 : Int32) (τ : zS) (r : Int32) (hf : fX10_notedSum σ x0 x1 = some (τ, r)) (hq : ∀ (pc : Nat) (lv : List (Nat × Value)), decode cX10_notedSum pc = .ok (.ireturn, 1) → zW p l e R s m args below meth c cells slots Q D Ca B 2 τ N pc lv [.int r]) : zW p l e R s m args below meth c cells slots Q D Ca B 2 σ N 0 [(0, .ref x0), (1, .int x1)] [] := by
  unfold fX10_notedSum at hf
  refine z_aload_n C dX10_notedSum_0 rfl 0 rfl ?_
  refine z_iload_n C dX10_notedSum_1 rfl 1 rfl ?_
  obtain ⟨c1, hc1, hf⟩ := zbind hf
  refine z_callSi (As := [.int x1]) (F0 := 2) (L0 := 45) C (mX10_isKey l D Ca B En C.2.2.2.2.2.2.2.1 σ N x1 _ hc1) hRm kw_1713 kw_14 kw_1711 kw_1712 hyX10_isKey (Nat.le_of_ble_eq_true rfl) (Nat.le_of_ble_eq_true rfl) rfl rfl (Nat.le_of_ble_eq_true rfl) dX10_notedSum_2 ?_
  obtain ⟨c2, hc2, hf⟩ := zbind hf
  obtain ⟨kc2, hc2⟩ := zck_ok hc2
  refine z_callVi (As := [.int c1.2]) (F0 := 2) (L0 := 45) C (mX10_is l D Ca B En C.2.2.2.2.2.2.2.1 c1.1 N x0 c1.2 _ hc2) hRm kc2 rfl kw_1373 kw_14 kw_1370 kw_1372 kp_37 hyX10_is (Nat.le_of_ble_eq_true rfl) (Nat.le_of_ble_eq_true rfl) rfl rfl (Nat.le_of_ble_eq_true rfl) dX10_notedSum_5 ?_
  refine z_if_eq C 24 dX10_notedSum_8 (by decide) (fun q5 => ?_) (fun q5 => ?_)
  · rw [if_pos q5] at hf
    refine z_iconst C (zi 0) dX10_notedSum_24 (by decide) ?_
    cases hf
    exact hq _ _ dX10_notedSum_25
  · rw [if_neg q5] at hf
    refine z_aload_n C dX10_notedSum_11 rfl 0 rfl ?_
    obtain ⟨v3, hv3, hf⟩ := zbind hf
    refine gf_RX10_21 C hv3 dX10_notedSum_12 ?_
    refine z_sipush C (zi 128) dX10_notedSum_15 (by decide) ?_
    refine z_iload_n C dX10_notedSum_18 rfl 1 rfl ?_
    refine z_iadd C dX10_notedSum_19 ?_
    obtain ⟨v4, hv4, hf⟩ := zbind hf
    refine z_aI C hv4 dX10_notedSum_20 ?_
    refine z_goto C 25 dX10_notedSum_21 (by decide) ?_
    cases hf
    exact hq _ _ dX10_notedSum_25

theorem mX10_notedSum (l : Launch) (D : va_G) (Ca : Nat → ClassId) (B : Nat) (En : State → Prop) (hE : zEk B En) (σ : zS) (N : Nat) (x0 : Nat) (x1 : Int32) (X : zS × Int32) (hf : fX10_notedSum σ x0 x1 = some X) : zMi l D Ca B En yX10_notedSum cX10_notedSum 2 (Option.some Jvm.ClassFile.FieldType.int) 2 45 [.ref x0, .int x1] σ N X.1 X.2 :=
  zMet_i (own := RX10) hE (by decide +kernel) rfl (Nat.le_of_ble_eq_true rfl) (fun p e s m args below meth c C hr hRm => wfX10_notedSum C hRm σ x0 x1 X.1 X.2 hf (fun pc lv hd => zfin_i C hr hd))
end ZM
