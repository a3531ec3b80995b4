/-! Methods: X1_channelForResult, X1_canBeTaken, X1_senderInTurn, X7_valueOf, X1_addUp, X1_take, X1_completeIfAllArrived, X1_tick, X1_ticksToCompletion, X1_recoverWith, X1_recordsTo, X1_resultsFrom, X1_positionsInAll, X1_recordsAtRisk, X2_addByte, X2_addFourBytes, X2_byteAt, X3_at, X7_clear -/
section ZM
variable {p : Program} {l : Launch} {e : Env} {R : Room} {s : State} {m : MethodId} {args : Array Value} {below : List Frame} {meth : Method} {c : Code} {cells slots : Nat} {Q : State → Prop} {D : va_G} {Ca : Nat → ClassId} {B : Nat} {En : State → Prop} {N : Nat}
theorem dX1_channelForResult_0 : decode cX1_channelForResult 0 = .ok (.iconst 4, 1) := by decide +kernel
theorem dX1_channelForResult_1 : decode cX1_channelForResult 1 = .ok (.aload_n 0, 1) := by decide +kernel
theorem dX1_channelForResult_2 : decode cX1_channelForResult 2 = .ok (.getfield 54, 3) := by decide +kernel
theorem dX1_channelForResult_5 : decode cX1_channelForResult 5 = .ok (.aload_n 0, 1) := by decide +kernel
theorem dX1_channelForResult_6 : decode cX1_channelForResult 6 = .ok (.getfield 54, 3) := by decide +kernel
theorem dX1_channelForResult_9 : decode cX1_channelForResult 9 = .ok (.iload_n 2, 1) := by decide +kernel
theorem dX1_channelForResult_10 : decode cX1_channelForResult 10 = .ok (.invokevirtual 203, 3) := by decide +kernel
theorem dX1_channelForResult_13 : decode cX1_channelForResult 13 = .ok (.invokevirtual 231, 3) := by decide +kernel
theorem dX1_channelForResult_16 : decode cX1_channelForResult 16 = .ok (.iadd, 1) := by decide +kernel
theorem dX1_channelForResult_17 : decode cX1_channelForResult 17 = .ok (.iload_n 1, 1) := by decide +kernel
theorem dX1_channelForResult_18 : decode cX1_channelForResult 18 = .ok (.invokestatic 190, 3) := by decide +kernel
theorem dX1_channelForResult_21 : decode cX1_channelForResult 21 = .ok (.ireturn, 1) := by decide +kernel
theorem hyX1_channelForResult : yX1_channelForResult.cls ≠ "java/lang/invoke/MethodHandle" ∧ yX1_channelForResult.cls ≠ "java/lang/invoke/VarHandle" ∧ (parseMethodDescriptor yX1_channelForResult.desc).map (fun d => d.parameters.length) = some 2 := ⟨by decide +kernel, by decide +kernel, by decide +kernel⟩
set_option maxRecDepth 100000 in
set_option maxHeartbeats 4000000 in
theorem wfX1_channelForResult (C : zC p s m args meth c cX1_channelForResult RX1 3 D Ca B En) (hRm : zRm R 1 21 cells slots) (σ : zS) (x0 : Nat) (x1 : Int32) (x2 : Int32) (τ : zS) (r : Int32) (hf : fX1_channelForResult σ x0 x1 x2 = some (τ, r)) (hq : ∀ (pc : Nat) (lv : List (Nat × Value)), decode cX1_channelForResult pc = .ok (.ireturn, 1) → zW p l e R s m args below meth c cells slots Q D Ca B 3 τ N pc lv [.int r]) : zW p l e R s m args below meth c cells slots Q D Ca B 3 σ N 0 [(0, .ref x0), (1, .int x1), (2, .int x2)] [] := by
  unfold fX1_channelForResult at hf
  refine z_iconst C (zi 4) dX1_channelForResult_0 (by decide) ?_
  refine z_aload_n C dX1_channelForResult_1 rfl 0 rfl ?_
  obtain ⟨v1, hv1, hf⟩ := zbind hf
  refine gf_RX1_54 C hv1 dX1_channelForResult_2 ?_
  refine z_aload_n C dX1_channelForResult_5 rfl 0 rfl ?_
  obtain ⟨v2, hv2, hf⟩ := zbind hf
  refine gf_RX1_54 C hv2 dX1_channelForResult_6 ?_
  refine z_iload_n C dX1_channelForResult_9 rfl 2 rfl ?_
  obtain ⟨c3, hc3, hf⟩ := zbind hf
  obtain ⟨kc3, hc3⟩ := zck_ok hc3
  refine z_callVi (As := [.int x2]) (F0 := 1) (L0 := 21) C (mX7_keyOf l D Ca B En C.2.2.2.2.2.2.2.1 σ N v2 x2 _ hc3) hRm kc3 rfl kw_638 kw_5 kw_635 kw_636 kw_637 hyX7_keyOf (Nat.le_of_ble_eq_true rfl) (Nat.le_of_ble_eq_true rfl) rfl rfl (Nat.le_of_ble_eq_true rfl) dX1_channelForResult_10 ?_
  obtain ⟨c4, hc4, hf⟩ := zbind hf
  obtain ⟨kc4, hc4⟩ := zck_ok hc4
  refine z_callVi (As := [.int c3.2]) (F0 := 1) (L0 := 21) C (mX7_sinkOf l D Ca B En C.2.2.2.2.2.2.2.1 c3.1 N v1 c3.2 _ hc4) hRm kc4 rfl kw_683 kw_5 kw_680 kw_681 kw_682 hyX7_sinkOf (Nat.le_of_ble_eq_true rfl) (Nat.le_of_ble_eq_true rfl) rfl rfl (Nat.le_of_ble_eq_true rfl) dX1_channelForResult_13 ?_
  refine z_iadd C dX1_channelForResult_16 ?_
  refine z_iload_n C dX1_channelForResult_17 rfl 1 rfl ?_
  obtain ⟨c5, hc5, hf⟩ := zbind hf
  refine z_callSNi (host := "BarrierFlow") (As := [.int (((zi 4)) + c4.2), .int x1]) (F0 := 1) (L0 := 21) C (mX9_channel l D Ca B En C.2.2.2.2.2.2.2.1 c4.1 N (((zi 4)) + c4.2) x1 _ hc5) hRm kw_629 kw_1 (by decide) kw_628 hyX9_channel (Nat.le_of_ble_eq_true rfl) (Nat.le_of_ble_eq_true rfl) rfl rfl (Nat.le_of_ble_eq_true rfl) dX1_channelForResult_18 ?_
  cases hf
  exact hq _ _ dX1_channelForResult_21

theorem mX1_channelForResult (l : Launch) (D : va_G) (Ca : Nat → ClassId) (B : Nat) (En : State → Prop) (hE : zEk B En) (σ : zS) (N : Nat) (x0 : Nat) (x1 : Int32) (x2 : Int32) (X : zS × Int32) (hf : fX1_channelForResult σ x0 x1 x2 = some X) : zMi l D Ca B En yX1_channelForResult cX1_channelForResult 3 (Option.some Jvm.ClassFile.FieldType.int) 1 21 [.ref x0, .int x1, .int x2] σ N X.1 X.2 :=
  zMet_i (own := RX1) hE (by decide +kernel) rfl (Nat.le_of_ble_eq_true rfl) (fun p e s m args below meth c C hr hRm => wfX1_channelForResult C hRm σ x0 x1 x2 X.1 X.2 hf (fun pc lv hd => zfin_i C hr hd))
theorem dX1_canBeTaken_0 : decode cX1_canBeTaken 0 = .ok (.iload_n 1, 1) := by decide +kernel
theorem dX1_canBeTaken_1 : decode cX1_canBeTaken 1 = .ok (.iload_n 2, 1) := by decide +kernel
theorem dX1_canBeTaken_2 : decode cX1_canBeTaken 2 = .ok (.invokestatic 190, 3) := by decide +kernel
theorem dX1_canBeTaken_5 : decode cX1_canBeTaken 5 = .ok (.istore_n 3, 1) := by decide +kernel
theorem dX1_canBeTaken_6 : decode cX1_canBeTaken 6 = .ok (.aload_n 0, 1) := by decide +kernel
theorem dX1_canBeTaken_7 : decode cX1_canBeTaken 7 = .ok (.getfield 24, 3) := by decide +kernel
theorem dX1_canBeTaken_10 : decode cX1_canBeTaken 10 = .ok (.iload_n 1, 1) := by decide +kernel
theorem dX1_canBeTaken_11 : decode cX1_canBeTaken 11 = .ok (.iaload, 1) := by decide +kernel
theorem dX1_canBeTaken_12 : decode cX1_canBeTaken 12 = .ok (.iload_n 2, 1) := by decide +kernel
theorem dX1_canBeTaken_13 : decode cX1_canBeTaken 13 = .ok (.ishr, 1) := by decide +kernel
theorem dX1_canBeTaken_14 : decode cX1_canBeTaken 14 = .ok (.iconst 1, 1) := by decide +kernel
theorem dX1_canBeTaken_15 : decode cX1_canBeTaken 15 = .ok (.iand, 1) := by decide +kernel
theorem dX1_canBeTaken_16 : decode cX1_canBeTaken 16 = .ok (.iconst 1, 1) := by decide +kernel
theorem dX1_canBeTaken_17 : decode cX1_canBeTaken 17 = .ok (.if_icmp .ne 5, 3) := by decide +kernel
theorem dX1_canBeTaken_20 : decode cX1_canBeTaken 20 = .ok (.iconst 0, 1) := by decide +kernel
theorem dX1_canBeTaken_21 : decode cX1_canBeTaken 21 = .ok (.ireturn, 1) := by decide +kernel
theorem dX1_canBeTaken_22 : decode cX1_canBeTaken 22 = .ok (.aload_n 0, 1) := by decide +kernel
theorem dX1_canBeTaken_23 : decode cX1_canBeTaken 23 = .ok (.getfield 47, 3) := by decide +kernel
theorem dX1_canBeTaken_26 : decode cX1_canBeTaken 26 = .ok (.iload_n 3, 1) := by decide +kernel
theorem dX1_canBeTaken_27 : decode cX1_canBeTaken 27 = .ok (.iaload, 1) := by decide +kernel
theorem dX1_canBeTaken_28 : decode cX1_canBeTaken 28 = .ok (.ifCond .ne 5, 3) := by decide +kernel
theorem dX1_canBeTaken_31 : decode cX1_canBeTaken 31 = .ok (.iconst 1, 1) := by decide +kernel
theorem dX1_canBeTaken_32 : decode cX1_canBeTaken 32 = .ok (.ireturn, 1) := by decide +kernel
theorem dX1_canBeTaken_33 : decode cX1_canBeTaken 33 = .ok (.aload_n 0, 1) := by decide +kernel
theorem dX1_canBeTaken_34 : decode cX1_canBeTaken 34 = .ok (.getfield 30, 3) := by decide +kernel
theorem dX1_canBeTaken_37 : decode cX1_canBeTaken 37 = .ok (.iload_n 3, 1) := by decide +kernel
theorem dX1_canBeTaken_38 : decode cX1_canBeTaken 38 = .ok (.invokevirtual 194, 3) := by decide +kernel
theorem dX1_canBeTaken_41 : decode cX1_canBeTaken 41 = .ok (.ifCond .ne 5, 3) := by decide +kernel
theorem dX1_canBeTaken_44 : decode cX1_canBeTaken 44 = .ok (.iconst 0, 1) := by decide +kernel
theorem dX1_canBeTaken_45 : decode cX1_canBeTaken 45 = .ok (.ireturn, 1) := by decide +kernel
theorem dX1_canBeTaken_46 : decode cX1_canBeTaken 46 = .ok (.iload_n 1, 1) := by decide +kernel
theorem dX1_canBeTaken_47 : decode cX1_canBeTaken 47 = .ok (.iconst 4, 1) := by decide +kernel
theorem dX1_canBeTaken_48 : decode cX1_canBeTaken 48 = .ok (.if_icmp .ge 30, 3) := by decide +kernel
theorem dX1_canBeTaken_51 : decode cX1_canBeTaken 51 = .ok (.aload_n 0, 1) := by decide +kernel
theorem dX1_canBeTaken_52 : decode cX1_canBeTaken 52 = .ok (.getfield 30, 3) := by decide +kernel
theorem dX1_canBeTaken_55 : decode cX1_canBeTaken 55 = .ok (.aload_n 0, 1) := by decide +kernel
theorem dX1_canBeTaken_56 : decode cX1_canBeTaken 56 = .ok (.iload_n 1, 1) := by decide +kernel
theorem dX1_canBeTaken_57 : decode cX1_canBeTaken 57 = .ok (.aload_n 0, 1) := by decide +kernel
theorem dX1_canBeTaken_58 : decode cX1_canBeTaken 58 = .ok (.getfield 30, 3) := by decide +kernel
theorem dX1_canBeTaken_61 : decode cX1_canBeTaken 61 = .ok (.iload_n 3, 1) := by decide +kernel
theorem dX1_canBeTaken_62 : decode cX1_canBeTaken 62 = .ok (.invokevirtual 225, 3) := by decide +kernel
theorem dX1_canBeTaken_65 : decode cX1_canBeTaken 65 = .ok (.invokevirtual 228, 3) := by decide +kernel
theorem dX1_canBeTaken_68 : decode cX1_canBeTaken 68 = .ok (.invokevirtual 194, 3) := by decide +kernel
theorem dX1_canBeTaken_71 : decode cX1_canBeTaken 71 = .ok (.aload_n 0, 1) := by decide +kernel
theorem dX1_canBeTaken_72 : decode cX1_canBeTaken 72 = .ok (.getfield 77, 3) := by decide +kernel
theorem dX1_canBeTaken_75 : decode cX1_canBeTaken 75 = .ok (.if_icmp .ge 7, 3) := by decide +kernel
theorem dX1_canBeTaken_78 : decode cX1_canBeTaken 78 = .ok (.iconst 1, 1) := by decide +kernel
theorem dX1_canBeTaken_79 : decode cX1_canBeTaken 79 = .ok (.goto 4, 3) := by decide +kernel
theorem dX1_canBeTaken_82 : decode cX1_canBeTaken 82 = .ok (.iconst 0, 1) := by decide +kernel
theorem dX1_canBeTaken_83 : decode cX1_canBeTaken 83 = .ok (.ireturn, 1) := by decide +kernel
theorem hyX1_canBeTaken : yX1_canBeTaken.cls ≠ "java/lang/invoke/MethodHandle" ∧ yX1_canBeTaken.cls ≠ "java/lang/invoke/VarHandle" ∧ (parseMethodDescriptor yX1_canBeTaken.desc).map (fun d => d.parameters.length) = some 2 := ⟨by decide +kernel, by decide +kernel, by decide +kernel⟩
set_option maxRecDepth 100000 in
set_option maxHeartbeats 4000000 in
theorem wjX1_canBeTaken_78 (C : zC p s m args meth c cX1_canBeTaken RX1 4 D Ca B En) (hRm : zRm R 2 43 cells slots) (σ : zS)   (τ : zS) (r : Int32) (hf : jX1_canBeTaken_78 σ   = some (τ, r)) (hq : ∀ (pc : Nat) (lv : List (Nat × Value)), (r = 0 ∨ r = 1) → decode cX1_canBeTaken pc = .ok (.ireturn, 1) → zW p l e R s m args below meth c cells slots Q D Ca B 4 τ N pc lv [.int r]) : zW p l e R s m args below meth c cells slots Q D Ca B 4 σ N 78 [] [] := by
  unfold jX1_canBeTaken_78 at hf
  refine z_iconst C (zi 1) dX1_canBeTaken_78 (by decide) ?_
  refine z_goto C 83 dX1_canBeTaken_79 (by decide) ?_
  obtain ⟨e9, b9⟩ := zrZ_ok hf
  cases e9
  exact hq _ _ b9 dX1_canBeTaken_83

set_option maxRecDepth 100000 in
set_option maxHeartbeats 4000000 in
theorem wfX1_canBeTaken (C : zC p s m args meth c cX1_canBeTaken RX1 4 D Ca B En) (hRm : zRm R 2 43 cells slots) (σ : zS) (x0 : Nat) (x1 : Int32) (x2 : Int32) (τ : zS) (r : Int32) (hf : fX1_canBeTaken σ x0 x1 x2 = some (τ, r)) (hq : ∀ (pc : Nat) (lv : List (Nat × Value)), (r = 0 ∨ r = 1) → decode cX1_canBeTaken pc = .ok (.ireturn, 1) → zW p l e R s m args below meth c cells slots Q D Ca B 4 τ N pc lv [.int r]) : zW p l e R s m args below meth c cells slots Q D Ca B 4 σ N 0 [(0, .ref x0), (1, .int x1), (2, .int x2)] [] := by
  unfold fX1_canBeTaken at hf
  refine z_iload_n C dX1_canBeTaken_0 rfl 1 rfl ?_
  refine z_iload_n C dX1_canBeTaken_1 rfl 2 rfl ?_
  obtain ⟨c1, hc1, hf⟩ := zbind hf
  refine z_callSNi (host := "BarrierFlow") (As := [.int x1, .int x2]) (F0 := 2) (L0 := 43) C (mX9_channel l D Ca B En C.2.2.2.2.2.2.2.1 σ N x1 x2 _ hc1) hRm kw_629 kw_1 (by decide) kw_628 hyX9_channel (Nat.le_of_ble_eq_true rfl) (Nat.le_of_ble_eq_true rfl) rfl rfl (Nat.le_of_ble_eq_true rfl) dX1_canBeTaken_2 ?_
  refine z_istore_n (lv2 := [(3, .int c1.2), (0, .ref x0), (1, .int x1), (2, .int x2)]) C dX1_canBeTaken_5 rfl (by decide) rfl ?_
  refine z_aload_n C dX1_canBeTaken_6 rfl 1 rfl ?_
  obtain ⟨v2, hv2, hf⟩ := zbind hf
  refine gf_RX1_24 C hv2 dX1_canBeTaken_7 ?_
  refine z_iload_n C dX1_canBeTaken_10 rfl 2 rfl ?_
  obtain ⟨v3, hv3, hf⟩ := zbind hf
  refine z_aI C hv3 dX1_canBeTaken_11 ?_
  refine z_iload_n C dX1_canBeTaken_12 rfl 3 rfl ?_
  refine z_ishr C dX1_canBeTaken_13 ?_
  refine z_iconst C (zi 1) dX1_canBeTaken_14 (by decide) ?_
  refine z_iand C dX1_canBeTaken_15 ?_
  refine z_iconst C (zi 1) dX1_canBeTaken_16 (by decide) ?_
  refine z_icmp_ne C 22 dX1_canBeTaken_17 (by decide) (fun q18 => ?_) (fun q18 => ?_)
  · rw [if_neg q18] at hf
    refine z_aload_n C dX1_canBeTaken_22 rfl 1 rfl ?_
    obtain ⟨v4, hv4, hf⟩ := zbind hf
    refine gf_RX1_47 C hv4 dX1_canBeTaken_23 ?_
    refine z_iload_n C dX1_canBeTaken_26 rfl 0 rfl ?_
    obtain ⟨v5, hv5, hf⟩ := zbind hf
    refine z_aI C hv5 dX1_canBeTaken_27 ?_
    refine z_if_ne C 33 dX1_canBeTaken_28 (by decide) (fun q17 => ?_) (fun q17 => ?_)
    · rw [if_neg q17] at hf
      refine z_aload_n C dX1_canBeTaken_33 rfl 1 rfl ?_
      obtain ⟨v6, hv6, hf⟩ := zbind hf
      refine gf_RX1_30 C hv6 dX1_canBeTaken_34 ?_
      refine z_iload_n C dX1_canBeTaken_37 rfl 0 rfl ?_
      obtain ⟨c7, hc7, hf⟩ := zbind hf
      obtain ⟨kc7, hc7⟩ := zck_ok hc7
      refine z_callVi (As := [.int c1.2]) (F0 := 2) (L0 := 43) C (mX3_sizeOf l D Ca B En C.2.2.2.2.2.2.2.1 c1.1 N v6 c1.2 _ hc7) hRm kc7 rfl kw_340 kw_9 kw_337 kw_338 kw_339 hyX3_sizeOf (Nat.le_of_ble_eq_true rfl) (Nat.le_of_ble_eq_true rfl) rfl rfl (Nat.le_of_ble_eq_true rfl) dX1_canBeTaken_38 ?_
      refine z_if_ne C 46 dX1_canBeTaken_41 (by decide) (fun q16 => ?_) (fun q16 => ?_)
      · rw [if_neg q16] at hf
        refine z_iload_n C dX1_canBeTaken_46 rfl 2 rfl ?_
        refine z_iconst C (zi 4) dX1_canBeTaken_47 (by decide) ?_
        refine z_icmp_ge C 78 dX1_canBeTaken_48 (by decide) (fun q15 => ?_) (fun q15 => ?_)
        · rw [if_pos q15] at hf
          refine z_sub [] rfl ?_
          exact wjX1_canBeTaken_78 C hRm _   _ _ hf hq
        · rw [if_neg q15] at hf
          refine z_aload_n C dX1_canBeTaken_51 rfl 1 rfl ?_
          obtain ⟨v8, hv8, hf⟩ := zbind hf
          refine gf_RX1_30 C hv8 dX1_canBeTaken_52 ?_
          refine z_aload_n C dX1_canBeTaken_55 rfl 1 rfl ?_
          refine z_iload_n C dX1_canBeTaken_56 rfl 2 rfl ?_
          refine z_aload_n C dX1_canBeTaken_57 rfl 1 rfl ?_
          obtain ⟨v9, hv9, hf⟩ := zbind hf
          refine gf_RX1_30 C hv9 dX1_canBeTaken_58 ?_
          refine z_iload_n C dX1_canBeTaken_61 rfl 0 rfl ?_
          obtain ⟨c10, hc10, hf⟩ := zbind hf
          obtain ⟨kc10, hc10⟩ := zck_ok hc10
          refine z_callVi (As := [.int c1.2]) (F0 := 2) (L0 := 43) C (mX3_firstOf l D Ca B En C.2.2.2.2.2.2.2.1 c7.1 N v9 c1.2 _ hc10) hRm kc10 rfl kw_336 kw_9 kw_333 kw_334 kw_335 hyX3_firstOf (Nat.le_of_ble_eq_true rfl) (Nat.le_of_ble_eq_true rfl) rfl rfl (Nat.le_of_ble_eq_true rfl) dX1_canBeTaken_62 ?_
          obtain ⟨c11, hc11, hf⟩ := zbind hf
          obtain ⟨kc11, hc11⟩ := zck_ok hc11
          refine z_callVi (As := [.int x1, .int c10.2]) (F0 := 2) (L0 := 43) C (mX1_channelForResult l D Ca B En C.2.2.2.2.2.2.2.1 c10.1 N x0 x1 c10.2 _ hc11) hRm kc11 rfl kw_679 kw_8 kw_676 kw_678 kp_14 hyX1_channelForResult (Nat.le_of_ble_eq_true rfl) (Nat.le_of_ble_eq_true rfl) rfl rfl (Nat.le_of_ble_eq_true rfl) dX1_canBeTaken_65 ?_
          obtain ⟨c12, hc12, hf⟩ := zbind hf
          obtain ⟨kc12, hc12⟩ := zck_ok hc12
          refine z_callVi (As := [.int c11.2]) (F0 := 2) (L0 := 43) C (mX3_sizeOf l D Ca B En C.2.2.2.2.2.2.2.1 c11.1 N v8 c11.2 _ hc12) hRm kc12 rfl kw_340 kw_9 kw_337 kw_338 kw_339 hyX3_sizeOf (Nat.le_of_ble_eq_true rfl) (Nat.le_of_ble_eq_true rfl) rfl rfl (Nat.le_of_ble_eq_true rfl) dX1_canBeTaken_68 ?_
          refine z_aload_n C dX1_canBeTaken_71 rfl 1 rfl ?_
          obtain ⟨v13, hv13, hf⟩ := zbind hf
          refine gf_RX1_77 C hv13 dX1_canBeTaken_72 ?_
          refine z_icmp_ge C 82 dX1_canBeTaken_75 (by decide) (fun q14 => ?_) (fun q14 => ?_)
          · rw [if_pos q14] at hf
            refine z_iconst C (zi 0) dX1_canBeTaken_82 (by decide) ?_
            obtain ⟨e9, b9⟩ := zrZ_ok hf
            cases e9
            exact hq _ _ b9 dX1_canBeTaken_83
          · rw [if_neg q14] at hf
            refine z_sub [] rfl ?_
            exact wjX1_canBeTaken_78 C hRm _   _ _ hf hq
      · rw [if_pos q16] at hf
        refine z_iconst C (zi 0) dX1_canBeTaken_44 (by decide) ?_
        obtain ⟨e9, b9⟩ := zrZ_ok hf
        cases e9
        exact hq _ _ b9 dX1_canBeTaken_45
    · rw [if_pos q17] at hf
      refine z_iconst C (zi 1) dX1_canBeTaken_31 (by decide) ?_
      obtain ⟨e9, b9⟩ := zrZ_ok hf
      cases e9
      exact hq _ _ b9 dX1_canBeTaken_32
  · rw [if_pos q18] at hf
    refine z_iconst C (zi 0) dX1_canBeTaken_20 (by decide) ?_
    obtain ⟨e9, b9⟩ := zrZ_ok hf
    cases e9
    exact hq _ _ b9 dX1_canBeTaken_21

theorem mX1_canBeTaken (l : Launch) (D : va_G) (Ca : Nat → ClassId) (B : Nat) (En : State → Prop) (hE : zEk B En) (σ : zS) (N : Nat) (x0 : Nat) (x1 : Int32) (x2 : Int32) (X : zS × Int32) (hf : fX1_canBeTaken σ x0 x1 x2 = some X) : zMi l D Ca B En yX1_canBeTaken cX1_canBeTaken 4 (Option.some Jvm.ClassFile.FieldType.boolean) 2 43 [.ref x0, .int x1, .int x2] σ N X.1 X.2 :=
  zMet_i (own := RX1) hE (by decide +kernel) rfl (Nat.le_of_ble_eq_true rfl) (fun p e s m args below meth c C hr hRm => wfX1_canBeTaken C hRm σ x0 x1 x2 X.1 X.2 hf (fun pc lv hb hd => zfin_z C hb hr hd))
theorem dX1_senderInTurn_0 : decode cX1_senderInTurn 0 = .ok (.aload_n 0, 1) := by decide +kernel
theorem dX1_senderInTurn_1 : decode cX1_senderInTurn 1 = .ok (.iload_n 1, 1) := by decide +kernel
theorem dX1_senderInTurn_2 : decode cX1_senderInTurn 2 = .ok (.invokevirtual 215, 3) := by decide +kernel
theorem dX1_senderInTurn_5 : decode cX1_senderInTurn 5 = .ok (.istore_n 2, 1) := by decide +kernel
theorem dX1_senderInTurn_6 : decode cX1_senderInTurn 6 = .ok (.aload_n 0, 1) := by decide +kernel
theorem dX1_senderInTurn_7 : decode cX1_senderInTurn 7 = .ok (.getfield 44, 3) := by decide +kernel
theorem dX1_senderInTurn_10 : decode cX1_senderInTurn 10 = .ok (.iload_n 1, 1) := by decide +kernel
theorem dX1_senderInTurn_11 : decode cX1_senderInTurn 11 = .ok (.iaload, 1) := by decide +kernel
theorem dX1_senderInTurn_12 : decode cX1_senderInTurn 12 = .ok (.istore_n 3, 1) := by decide +kernel
theorem dX1_senderInTurn_13 : decode cX1_senderInTurn 13 = .ok (.iconst 0, 1) := by decide +kernel
theorem dX1_senderInTurn_14 : decode cX1_senderInTurn 14 = .ok (.istore 4, 2) := by decide +kernel
theorem dX1_senderInTurn_16 : decode cX1_senderInTurn 16 = .ok (.iload 4, 2) := by decide +kernel
theorem dX1_senderInTurn_18 : decode cX1_senderInTurn 18 = .ok (.iload_n 2, 1) := by decide +kernel
theorem dX1_senderInTurn_19 : decode cX1_senderInTurn 19 = .ok (.if_icmp .ge 30, 3) := by decide +kernel
theorem dX1_senderInTurn_22 : decode cX1_senderInTurn 22 = .ok (.iload_n 3, 1) := by decide +kernel
theorem dX1_senderInTurn_23 : decode cX1_senderInTurn 23 = .ok (.iload_n 2, 1) := by decide +kernel
theorem dX1_senderInTurn_24 : decode cX1_senderInTurn 24 = .ok (.if_icmp .lt 5, 3) := by decide +kernel
theorem dX1_senderInTurn_27 : decode cX1_senderInTurn 27 = .ok (.iconst 0, 1) := by decide +kernel
theorem dX1_senderInTurn_28 : decode cX1_senderInTurn 28 = .ok (.istore_n 3, 1) := by decide +kernel
theorem dX1_senderInTurn_29 : decode cX1_senderInTurn 29 = .ok (.aload_n 0, 1) := by decide +kernel
theorem dX1_senderInTurn_30 : decode cX1_senderInTurn 30 = .ok (.iload_n 1, 1) := by decide +kernel
theorem dX1_senderInTurn_31 : decode cX1_senderInTurn 31 = .ok (.iload_n 3, 1) := by decide +kernel
theorem dX1_senderInTurn_32 : decode cX1_senderInTurn 32 = .ok (.invokevirtual 221, 3) := by decide +kernel
theorem dX1_senderInTurn_35 : decode cX1_senderInTurn 35 = .ok (.ifCond .eq 5, 3) := by decide +kernel
theorem dX1_senderInTurn_38 : decode cX1_senderInTurn 38 = .ok (.iload_n 3, 1) := by decide +kernel
theorem dX1_senderInTurn_39 : decode cX1_senderInTurn 39 = .ok (.ireturn, 1) := by decide +kernel
theorem dX1_senderInTurn_40 : decode cX1_senderInTurn 40 = .ok (.iinc 3 1, 3) := by decide +kernel
theorem dX1_senderInTurn_43 : decode cX1_senderInTurn 43 = .ok (.iinc 4 1, 3) := by decide +kernel
theorem dX1_senderInTurn_46 : decode cX1_senderInTurn 46 = .ok (.goto (-30), 3) := by decide +kernel
theorem dX1_senderInTurn_49 : decode cX1_senderInTurn 49 = .ok (.iconst (-1), 1) := by decide +kernel
theorem dX1_senderInTurn_50 : decode cX1_senderInTurn 50 = .ok (.ireturn, 1) := by decide +kernel
theorem hyX1_senderInTurn : yX1_senderInTurn.cls ≠ "java/lang/invoke/MethodHandle" ∧ yX1_senderInTurn.cls ≠ "java/lang/invoke/VarHandle" ∧ (parseMethodDescriptor yX1_senderInTurn.desc).map (fun d => d.parameters.length) = some 1 := ⟨by decide +kernel, by decide +kernel, by decide +kernel⟩
set_option maxRecDepth 100000 in
set_option maxHeartbeats 4000000 in
theorem wjX1_senderInTurn_29_L16 (C : zC p s m args meth c cX1_senderInTurn RX1 5 D Ca B En) (hRm : zRm R 3 66 cells slots) (σ : zS) (x0 : Nat) (x1 : Int32) (x2 : Int32) (x3 : Int32) (x4 : Int32)  (y : (zS × Int32 × Int32) ⊕ ((zS × Int32) ⊕ zS)) (hf : jX1_senderInTurn_29_L16 σ x0 x1 x2 x3 x4  = some y) (hk : (∀ z : (zS × Int32 × Int32), y = .inl z → zW p l e R s m args below meth c cells slots Q D Ca B 5 z.1 N 16 [(0, .ref x0), (1, .int x1), (2, .int x2), (3, .int z.2.1), (4, .int z.2.2)] []) ∧ (∀ z : (zS × Int32), y = .inr (.inl z) → zW p l e R s m args below meth c cells slots Q D Ca B 5 z.1 N 38 [(3, .int z.2)] []) ∧ (∀ z : zS, y = .inr (.inr z) → zW p l e R s m args below meth c cells slots Q D Ca B 5 z N 49 [] [])) : zW p l e R s m args below meth c cells slots Q D Ca B 5 σ N 29 [(0, .ref x0), (1, .int x1), (2, .int x2), (3, .int x3), (4, .int x4)] [] := by
  unfold jX1_senderInTurn_29_L16 at hf
  refine z_aload_n C dX1_senderInTurn_29 rfl 0 rfl ?_
  refine z_iload_n C dX1_senderInTurn_30 rfl 1 rfl ?_
  refine z_iload_n C dX1_senderInTurn_31 rfl 3 rfl ?_
  obtain ⟨c4, hc4, hf⟩ := zbind hf
  obtain ⟨kc4, hc4⟩ := zck_ok hc4
  refine z_callVi (As := [.int x1, .int x3]) (F0 := 3) (L0 := 66) C (mX1_canBeTaken l D Ca B En C.2.2.2.2.2.2.2.1 σ N x0 x1 x3 _ hc4) hRm kc4 rfl kw_675 kw_8 kw_672 kw_674 kp_13 hyX1_canBeTaken (Nat.le_of_ble_eq_true rfl) (Nat.le_of_ble_eq_true rfl) rfl rfl (Nat.le_of_ble_eq_true rfl) dX1_senderInTurn_32 ?_
  refine z_if_eq C 40 dX1_senderInTurn_35 (by decide) (fun q5 => ?_) (fun q5 => ?_)
  · rw [if_pos q5] at hf
    refine z_iinc (lv2 := [(3, .int (x3 + (zi 1))), (0, .ref x0), (1, .int x1), (2, .int x2), (4, .int x4)]) C (x3 + (zi 1)) dX1_senderInTurn_40 3 rfl rfl (by decide) rfl ?_
    refine z_iinc (lv2 := [(4, .int (x4 + (zi 1))), (3, .int (x3 + (zi 1))), (0, .ref x0), (1, .int x1), (2, .int x2)]) C (x4 + (zi 1)) dX1_senderInTurn_43 4 rfl rfl (by decide) rfl ?_
    refine z_goto C 16 dX1_senderInTurn_46 (by decide) ?_
    cases hf
    refine z_sub [2, 3, 4, 1, 0] rfl ?_
    exact hk.1 _ rfl
  · rw [if_neg q5] at hf
    cases hf
    refine z_sub [3] rfl ?_
    exact hk.2.1 _ rfl

set_option maxRecDepth 100000 in
set_option maxHeartbeats 4000000 in
theorem wsX1_senderInTurn_16b (C : zC p s m args meth c cX1_senderInTurn RX1 5 D Ca B En) (hRm : zRm R 3 66 cells slots) (x0 : Nat) (x1 : Int32) (x2 : Int32) (σ : zS) (u3 : Int32) (u4 : Int32) (y : (zS × Int32 × Int32) ⊕ ((zS × Int32) ⊕ zS)) (hf : sX1_senderInTurn_16b x0 x1 x2 σ u3 u4 = some y) (hk : (∀ z : (zS × Int32 × Int32), y = .inl z → zW p l e R s m args below meth c cells slots Q D Ca B 5 z.1 N 16 [(0, .ref x0), (1, .int x1), (2, .int x2), (3, .int z.2.1), (4, .int z.2.2)] []) ∧ (∀ z : (zS × Int32), y = .inr (.inl z) → zW p l e R s m args below meth c cells slots Q D Ca B 5 z.1 N 38 [(3, .int z.2)] []) ∧ (∀ z : zS, y = .inr (.inr z) → zW p l e R s m args below meth c cells slots Q D Ca B 5 z N 49 [] [])) : zW p l e R s m args below meth c cells slots Q D Ca B 5 σ N 16 [(0, .ref x0), (1, .int x1), (2, .int x2), (3, .int u3), (4, .int u4)] [] := by
  unfold sX1_senderInTurn_16b at hf
  refine z_iload C dX1_senderInTurn_16 4 rfl ?_
  refine z_iload_n C dX1_senderInTurn_18 rfl 2 rfl ?_
  refine z_icmp_ge C 49 dX1_senderInTurn_19 (by decide) (fun q7 => ?_) (fun q7 => ?_)
  · rw [if_pos q7] at hf
    cases hf
    refine z_sub [] rfl ?_
    exact hk.2.2 _ rfl
  · rw [if_neg q7] at hf
    refine z_iload_n C dX1_senderInTurn_22 rfl 3 rfl ?_
    refine z_iload_n C dX1_senderInTurn_23 rfl 2 rfl ?_
    refine z_icmp_lt C 29 dX1_senderInTurn_24 (by decide) (fun q6 => ?_) (fun q6 => ?_)
    · rw [if_pos q6] at hf
      refine z_sub [0, 1, 2, 3, 4] rfl ?_
      exact wjX1_senderInTurn_29_L16 C hRm _ _ _ _ _ _  _ hf hk
    · rw [if_neg q6] at hf
      refine z_iconst C (zi 0) dX1_senderInTurn_27 (by decide) ?_
      refine z_istore_n (lv2 := [(3, .int ((zi 0))), (0, .ref x0), (1, .int x1), (2, .int x2), (4, .int u4)]) C dX1_senderInTurn_28 rfl (by decide) rfl ?_
      refine z_sub [1, 2, 3, 0, 4] rfl ?_
      exact wjX1_senderInTurn_29_L16 C hRm _ _ _ _ _ _  _ hf hk

theorem wsX1_senderInTurn_16 (C : zC p s m args meth c cX1_senderInTurn RX1 5 D Ca B En) (hRm : zRm R 3 66 cells slots) (x0 : Nat) (x1 : Int32) (x2 : Int32) (n : Nat) (z : (zS × Int32 × Int32)) (x : ((zS × Int32) ⊕ zS)) (hf : zloop (sX1_senderInTurn_16 x0 x1 x2) n z = some x) (hk : (∀ o : (zS × Int32), x = (.inl o) → zW p l e R s m args below meth c cells slots Q D Ca B 5 o.1 N 38 [(3, .int o.2)] []) ∧ (∀ o : zS, x = (.inr o) → zW p l e R s m args below meth c cells slots Q D Ca B 5 o N 49 [] [])) : zW p l e R s m args below meth c cells slots Q D Ca B 5 z.1 N 16 [(0, .ref x0), (1, .int x1), (2, .int x2), (3, .int z.2.1), (4, .int z.2.2)] [] := by
  refine zloop_W (P := fun z : (zS × Int32 × Int32) => zW p l e R s m args below meth c cells slots Q D Ca B 5 z.1 N 16 [(0, .ref x0), (1, .int x1), (2, .int x2), (3, .int z.2.1), (4, .int z.2.2)] []) (K := fun x : ((zS × Int32) ⊕ zS) => (∀ o : (zS × Int32), x = (.inl o) → zW p l e R s m args below meth c cells slots Q D Ca B 5 o.1 N 38 [(3, .int o.2)] []) ∧ (∀ o : zS, x = (.inr o) → zW p l e R s m args below meth c cells slots Q D Ca B 5 o N 49 [] [])) ?_ n z x hf hk
  intro z y hy h1 h2
  refine wsX1_senderInTurn_16b C hRm x0 x1 x2 z.1 z.2.1 z.2.2 y hy ⟨fun z2 e => h1 z2 e, fun o e => (h2 _ e).1 o rfl, fun o e => (h2 _ e).2 o rfl⟩
set_option maxRecDepth 100000 in
set_option maxHeartbeats 4000000 in
theorem wfX1_senderInTurn (C : zC p s m args meth c cX1_senderInTurn RX1 5 D Ca B En) (hRm : zRm R 3 66 cells slots) (σ : zS) (x0 : Nat) (x1 : Int32) (τ : zS) (r : Int32) (hf : fX1_senderInTurn σ x0 x1 = some (τ, r)) (hq : ∀ (pc : Nat) (lv : List (Nat × Value)), decode cX1_senderInTurn pc = .ok (.ireturn, 1) → zW p l e R s m args below meth c cells slots Q D Ca B 5 τ N pc lv [.int r]) : zW p l e R s m args below meth c cells slots Q D Ca B 5 σ N 0 [(0, .ref x0), (1, .int x1)] [] := by
  unfold fX1_senderInTurn at hf
  refine z_aload_n C dX1_senderInTurn_0 rfl 0 rfl ?_
  refine z_iload_n C dX1_senderInTurn_1 rfl 1 rfl ?_
  obtain ⟨c1, hc1, hf⟩ := zbind hf
  obtain ⟨kc1, hc1⟩ := zck_ok hc1
  refine z_callVi (As := [.int x1]) (F0 := 3) (L0 := 66) C (mX1_sendersTo l D Ca B En C.2.2.2.2.2.2.2.1 σ N x0 x1 _ hc1) hRm kc1 rfl kw_654 kw_8 kw_651 kw_653 kp_8 hyX1_sendersTo (Nat.le_of_ble_eq_true rfl) (Nat.le_of_ble_eq_true rfl) rfl rfl (Nat.le_of_ble_eq_true rfl) dX1_senderInTurn_2 ?_
  refine z_istore_n (lv2 := [(2, .int c1.2), (0, .ref x0), (1, .int x1)]) C dX1_senderInTurn_5 rfl (by decide) rfl ?_
  refine z_aload_n C dX1_senderInTurn_6 rfl 1 rfl ?_
  obtain ⟨v2, hv2, hf⟩ := zbind hf
  refine gf_RX1_44 C hv2 dX1_senderInTurn_7 ?_
  refine z_iload_n C dX1_senderInTurn_10 rfl 2 rfl ?_
  obtain ⟨v3, hv3, hf⟩ := zbind hf
  refine z_aI C hv3 dX1_senderInTurn_11 ?_
  refine z_istore_n (lv2 := [(3, .int v3), (2, .int c1.2), (0, .ref x0), (1, .int x1)]) C dX1_senderInTurn_12 rfl (by decide) rfl ?_
  refine z_iconst C (zi 0) dX1_senderInTurn_13 (by decide) ?_
  refine z_istore (lv2 := [(4, .int ((zi 0))), (3, .int v3), (2, .int c1.2), (0, .ref x0), (1, .int x1)]) C dX1_senderInTurn_14 (by decide) rfl ?_
  obtain ⟨o8, ho8, hf⟩ := zbind hf
  refine z_sub [3, 4, 2, 1, 0] rfl ?_
  refine wsX1_senderInTurn_16 C hRm _ _ _ zfuel (c1.1, v3, (zi 0)) o8 ho8 ⟨?_, ?_⟩
  · intro z9 e9
    subst e9
    dsimp only at hf
    refine z_iload_n C dX1_senderInTurn_38 rfl 0 rfl ?_
    cases hf
    exact hq _ _ dX1_senderInTurn_39
  · intro z10 e9
    subst e9
    dsimp only at hf
    refine z_iconst C (zi (-1)) dX1_senderInTurn_49 (by decide) ?_
    cases hf
    exact hq _ _ dX1_senderInTurn_50

theorem mX1_senderInTurn (l : Launch) (D : va_G) (Ca : Nat → ClassId) (B : Nat) (En : State → Prop) (hE : zEk B En) (σ : zS) (N : Nat) (x0 : Nat) (x1 : Int32) (X : zS × Int32) (hf : fX1_senderInTurn σ x0 x1 = some X) : zMi l D Ca B En yX1_senderInTurn cX1_senderInTurn 5 (Option.some Jvm.ClassFile.FieldType.int) 3 66 [.ref x0, .int x1] σ N X.1 X.2 :=
  zMet_i (own := RX1) hE (by decide +kernel) rfl (Nat.le_of_ble_eq_true rfl) (fun p e s m args below meth c C hr hRm => wfX1_senderInTurn C hRm σ x0 x1 X.1 X.2 hf (fun pc lv hd => zfin_i C hr hd))
theorem dX7_valueOf_0 : decode cX7_valueOf 0 = .ok (.iload_n 1, 1) := by decide +kernel
theorem dX7_valueOf_1 : decode cX7_valueOf 1 = .ok (.ifCond .lt 19, 3) := by decide +kernel
theorem dX7_valueOf_4 : decode cX7_valueOf 4 = .ok (.iload_n 1, 1) := by decide +kernel
theorem dX7_valueOf_5 : decode cX7_valueOf 5 = .ok (.sipush 800, 3) := by decide +kernel
theorem dX7_valueOf_8 : decode cX7_valueOf 8 = .ok (.if_icmp .ge 12, 3) := by decide +kernel
theorem dX7_valueOf_11 : decode cX7_valueOf 11 = .ok (.aload_n 0, 1) := by decide +kernel
theorem dX7_valueOf_12 : decode cX7_valueOf 12 = .ok (.getfield 34, 3) := by decide +kernel
theorem dX7_valueOf_15 : decode cX7_valueOf 15 = .ok (.iload_n 1, 1) := by decide +kernel
theorem dX7_valueOf_16 : decode cX7_valueOf 16 = .ok (.iaload, 1) := by decide +kernel
theorem dX7_valueOf_17 : decode cX7_valueOf 17 = .ok (.goto 4, 3) := by decide +kernel
theorem dX7_valueOf_20 : decode cX7_valueOf 20 = .ok (.iconst 0, 1) := by decide +kernel
theorem dX7_valueOf_21 : decode cX7_valueOf 21 = .ok (.ireturn, 1) := by decide +kernel
theorem hyX7_valueOf : yX7_valueOf.cls ≠ "java/lang/invoke/MethodHandle" ∧ yX7_valueOf.cls ≠ "java/lang/invoke/VarHandle" ∧ (parseMethodDescriptor yX7_valueOf.desc).map (fun d => d.parameters.length) = some 1 := ⟨by decide +kernel, by decide +kernel, by decide +kernel⟩
set_option maxRecDepth 100000 in
set_option maxHeartbeats 4000000 in
theorem wfX7_valueOf (C : zC p s m args meth c cX7_valueOf RX7 2 D Ca B En) (hRm : zRm R 0 0 cells slots) (σ : zS) (x0 : Nat) (x1 : Int32) (τ : zS) (r : Int32) (hf : fX7_valueOf σ x0 x1 = some (τ, r)) (hq : ∀ (pc : Nat) (lv : List (Nat × Value)), decode cX7_valueOf pc = .ok (.ireturn, 1) → zW p l e R s m args below meth c cells slots Q D Ca B 2 τ N pc lv [.int r]) : zW p l e R s m args below meth c cells slots Q D Ca B 2 σ N 0 [(0, .ref x0), (1, .int x1)] [] := by
  unfold fX7_valueOf at hf
  refine z_iload_n C dX7_valueOf_0 rfl 1 rfl ?_
  refine z_if_lt C 20 dX7_valueOf_1 (by decide) (fun q4 => ?_) (fun q4 => ?_)
  · rw [if_pos q4] at hf
    refine z_iconst C (zi 0) dX7_valueOf_20 (by decide) ?_
    cases hf
    exact hq _ _ dX7_valueOf_21
  · rw [if_neg q4] at hf
    refine z_iload_n C dX7_valueOf_4 rfl 1 rfl ?_
    refine z_sipush C (zi 800) dX7_valueOf_5 (by decide) ?_
    refine z_icmp_ge C 20 dX7_valueOf_8 (by decide) (fun q3 => ?_) (fun q3 => ?_)
    · rw [if_pos q3] at hf
      refine z_iconst C (zi 0) dX7_valueOf_20 (by decide) ?_
      cases hf
      exact hq _ _ dX7_valueOf_21
    · rw [if_neg q3] at hf
      refine z_aload_n C dX7_valueOf_11 rfl 0 rfl ?_
      obtain ⟨v1, hv1, hf⟩ := zbind hf
      refine gf_RX7_34 C hv1 dX7_valueOf_12 ?_
      refine z_iload_n C dX7_valueOf_15 rfl 1 rfl ?_
      obtain ⟨v2, hv2, hf⟩ := zbind hf
      refine z_aI C hv2 dX7_valueOf_16 ?_
      refine z_goto C 21 dX7_valueOf_17 (by decide) ?_
      cases hf
      exact hq _ _ dX7_valueOf_21

theorem mX7_valueOf (l : Launch) (D : va_G) (Ca : Nat → ClassId) (B : Nat) (En : State → Prop) (hE : zEk B En) (σ : zS) (N : Nat) (x0 : Nat) (x1 : Int32) (X : zS × Int32) (hf : fX7_valueOf σ x0 x1 = some X) : zMi l D Ca B En yX7_valueOf cX7_valueOf 2 (Option.some Jvm.ClassFile.FieldType.int) 0 0 [.ref x0, .int x1] σ N X.1 X.2 :=
  zMet_i (own := RX7) hE (by decide +kernel) rfl (Nat.le_of_ble_eq_true rfl) (fun p e s m args below meth c C hr hRm => wfX7_valueOf C hRm σ x0 x1 X.1 X.2 hf (fun pc lv hd => zfin_i C hr hd))
theorem dX1_addUp_0 : decode cX1_addUp 0 = .ok (.aload_n 0, 1) := by decide +kernel
theorem dX1_addUp_1 : decode cX1_addUp 1 = .ok (.getfield 54, 3) := by decide +kernel
theorem dX1_addUp_4 : decode cX1_addUp 4 = .ok (.iload_n 2, 1) := by decide +kernel
theorem dX1_addUp_5 : decode cX1_addUp 5 = .ok (.invokevirtual 203, 3) := by decide +kernel
theorem dX1_addUp_8 : decode cX1_addUp 8 = .ok (.istore_n 3, 1) := by decide +kernel
theorem dX1_addUp_9 : decode cX1_addUp 9 = .ok (.iload_n 3, 1) := by decide +kernel
theorem dX1_addUp_10 : decode cX1_addUp 10 = .ok (.ifCond .lt 9, 3) := by decide +kernel
theorem dX1_addUp_13 : decode cX1_addUp 13 = .ok (.iload_n 3, 1) := by decide +kernel
theorem dX1_addUp_14 : decode cX1_addUp 14 = .ok (.bipush 16, 2) := by decide +kernel
theorem dX1_addUp_16 : decode cX1_addUp 16 = .ok (.if_icmp .lt 4, 3) := by decide +kernel
theorem dX1_addUp_19 : decode cX1_addUp 19 = .ok (.return_, 1) := by decide +kernel
theorem dX1_addUp_20 : decode cX1_addUp 20 = .ok (.aload_n 0, 1) := by decide +kernel
theorem dX1_addUp_21 : decode cX1_addUp 21 = .ok (.getfield 18, 3) := by decide +kernel
theorem dX1_addUp_24 : decode cX1_addUp 24 = .ok (.iload_n 3, 1) := by decide +kernel
theorem dX1_addUp_25 : decode cX1_addUp 25 = .ok (.dup2, 1) := by decide +kernel
theorem dX1_addUp_26 : decode cX1_addUp 26 = .ok (.iaload, 1) := by decide +kernel
theorem dX1_addUp_27 : decode cX1_addUp 27 = .ok (.aload_n 0, 1) := by decide +kernel
theorem dX1_addUp_28 : decode cX1_addUp 28 = .ok (.getfield 54, 3) := by decide +kernel
theorem dX1_addUp_31 : decode cX1_addUp 31 = .ok (.iload_n 2, 1) := by decide +kernel
theorem dX1_addUp_32 : decode cX1_addUp 32 = .ok (.invokevirtual 246, 3) := by decide +kernel
theorem dX1_addUp_35 : decode cX1_addUp 35 = .ok (.iadd, 1) := by decide +kernel
theorem dX1_addUp_36 : decode cX1_addUp 36 = .ok (.iastore, 1) := by decide +kernel
theorem dX1_addUp_37 : decode cX1_addUp 37 = .ok (.aload_n 0, 1) := by decide +kernel
theorem dX1_addUp_38 : decode cX1_addUp 38 = .ok (.getfield 21, 3) := by decide +kernel
theorem dX1_addUp_41 : decode cX1_addUp 41 = .ok (.iload_n 1, 1) := by decide +kernel
theorem dX1_addUp_42 : decode cX1_addUp 42 = .ok (.dup2, 1) := by decide +kernel
theorem dX1_addUp_43 : decode cX1_addUp 43 = .ok (.iaload, 1) := by decide +kernel
theorem dX1_addUp_44 : decode cX1_addUp 44 = .ok (.iconst 1, 1) := by decide +kernel
theorem dX1_addUp_45 : decode cX1_addUp 45 = .ok (.iadd, 1) := by decide +kernel
theorem dX1_addUp_46 : decode cX1_addUp 46 = .ok (.iastore, 1) := by decide +kernel
theorem dX1_addUp_47 : decode cX1_addUp 47 = .ok (.aload_n 0, 1) := by decide +kernel
theorem dX1_addUp_48 : decode cX1_addUp 48 = .ok (.getfield 30, 3) := by decide +kernel
theorem dX1_addUp_51 : decode cX1_addUp 51 = .ok (.aload_n 0, 1) := by decide +kernel
theorem dX1_addUp_52 : decode cX1_addUp 52 = .ok (.iload_n 1, 1) := by decide +kernel
theorem dX1_addUp_53 : decode cX1_addUp 53 = .ok (.iload_n 2, 1) := by decide +kernel
theorem dX1_addUp_54 : decode cX1_addUp 54 = .ok (.invokevirtual 228, 3) := by decide +kernel
theorem dX1_addUp_57 : decode cX1_addUp 57 = .ok (.iload_n 2, 1) := by decide +kernel
theorem dX1_addUp_58 : decode cX1_addUp 58 = .ok (.invokevirtual 209, 3) := by decide +kernel
theorem dX1_addUp_61 : decode cX1_addUp 61 = .ok (.return_, 1) := by decide +kernel
theorem hyX1_addUp : yX1_addUp.cls ≠ "java/lang/invoke/MethodHandle" ∧ yX1_addUp.cls ≠ "java/lang/invoke/VarHandle" ∧ (parseMethodDescriptor yX1_addUp.desc).map (fun d => d.parameters.length) = some 2 := ⟨by decide +kernel, by decide +kernel, by decide +kernel⟩
set_option maxRecDepth 100000 in
set_option maxHeartbeats 4000000 in
theorem wfX1_addUp (C : zC p s m args meth c cX1_addUp RX1 4 D Ca B En) (hRm : zRm R 2 43 cells slots) (σ : zS) (x0 : Nat) (x1 : Int32) (x2 : Int32) (τ : zS) (hf : fX1_addUp σ x0 x1 x2 = some τ) (hq : ∀ (pc : Nat) (lv : List (Nat × Value)), decode cX1_addUp pc = .ok (.return_, 1) → zW p l e R s m args below meth c cells slots Q D Ca B 4 τ N pc lv []) : zW p l e R s m args below meth c cells slots Q D Ca B 4 σ N 0 [(0, .ref x0), (1, .int x1), (2, .int x2)] [] := by
  unfold fX1_addUp at hf
  refine z_aload_n C dX1_addUp_0 rfl 0 rfl ?_
  obtain ⟨v1, hv1, hf⟩ := zbind hf
  refine gf_RX1_54 C hv1 dX1_addUp_1 ?_
  refine z_iload_n C dX1_addUp_4 rfl 2 rfl ?_
  obtain ⟨c2, hc2, hf⟩ := zbind hf
  obtain ⟨kc2, hc2⟩ := zck_ok hc2
  refine z_callVi (As := [.int x2]) (F0 := 2) (L0 := 43) C (mX7_keyOf l D Ca B En C.2.2.2.2.2.2.2.1 σ N v1 x2 _ hc2) hRm kc2 rfl kw_638 kw_5 kw_635 kw_636 kw_637 hyX7_keyOf (Nat.le_of_ble_eq_true rfl) (Nat.le_of_ble_eq_true rfl) rfl rfl (Nat.le_of_ble_eq_true rfl) dX1_addUp_5 ?_
  refine z_istore_n (lv2 := [(3, .int c2.2), (0, .ref x0), (1, .int x1), (2, .int x2)]) C dX1_addUp_8 rfl (by decide) rfl ?_
  refine z_iload_n C dX1_addUp_9 rfl 0 rfl ?_
  refine z_if_lt C 19 dX1_addUp_10 (by decide) (fun q15 => ?_) (fun q15 => ?_)
  · rw [if_pos q15] at hf
    cases hf
    exact hq _ _ dX1_addUp_19
  · rw [if_neg q15] at hf
    refine z_iload_n C dX1_addUp_13 rfl 0 rfl ?_
    refine z_bipush C (zi 16) dX1_addUp_14 (by decide) ?_
    refine z_icmp_lt C 20 dX1_addUp_16 (by decide) (fun q14 => ?_) (fun q14 => ?_)
    · rw [if_pos q14] at hf
      refine z_aload_n C dX1_addUp_20 rfl 1 rfl ?_
      obtain ⟨v3, hv3, hf⟩ := zbind hf
      refine gf_RX1_18 C hv3 dX1_addUp_21 ?_
      refine z_iload_n C dX1_addUp_24 rfl 0 rfl ?_
      refine z_dup2 C dX1_addUp_25 rfl rfl ?_
      obtain ⟨v4, hv4, hf⟩ := zbind hf
      refine z_aI C hv4 dX1_addUp_26 ?_
      refine z_aload_n C dX1_addUp_27 rfl 1 rfl ?_
      obtain ⟨v5, hv5, hf⟩ := zbind hf
      refine gf_RX1_54 C hv5 dX1_addUp_28 ?_
      refine z_iload_n C dX1_addUp_31 rfl 3 rfl ?_
      obtain ⟨c6, hc6, hf⟩ := zbind hf
      obtain ⟨kc6, hc6⟩ := zck_ok hc6
      refine z_callVi (As := [.int x2]) (F0 := 2) (L0 := 43) C (mX7_valueOf l D Ca B En C.2.2.2.2.2.2.2.1 c2.1 N v5 x2 _ hc6) hRm kc6 rfl kw_709 kw_5 kw_706 kw_707 kw_708 hyX7_valueOf (Nat.le_of_ble_eq_true rfl) (Nat.le_of_ble_eq_true rfl) rfl rfl (Nat.le_of_ble_eq_true rfl) dX1_addUp_32 ?_
      refine z_iadd C dX1_addUp_35 ?_
      obtain ⟨σ7, hσ7, hf⟩ := zbind hf
      refine z_sI C hσ7 dX1_addUp_36 ?_
      refine z_aload_n C dX1_addUp_37 rfl 1 rfl ?_
      obtain ⟨v8, hv8, hf⟩ := zbind hf
      refine gf_RX1_21 C hv8 dX1_addUp_38 ?_
      refine z_iload_n C dX1_addUp_41 rfl 2 rfl ?_
      refine z_dup2 C dX1_addUp_42 rfl rfl ?_
      obtain ⟨v9, hv9, hf⟩ := zbind hf
      refine z_aI C hv9 dX1_addUp_43 ?_
      refine z_iconst C (zi 1) dX1_addUp_44 (by decide) ?_
      refine z_iadd C dX1_addUp_45 ?_
      obtain ⟨σ10, hσ10, hf⟩ := zbind hf
      refine z_sI C hσ10 dX1_addUp_46 ?_
      refine z_aload_n C dX1_addUp_47 rfl 1 rfl ?_
      obtain ⟨v11, hv11, hf⟩ := zbind hf
      refine gf_RX1_30 C hv11 dX1_addUp_48 ?_
      refine z_aload_n C dX1_addUp_51 rfl 1 rfl ?_
      refine z_iload_n C dX1_addUp_52 rfl 2 rfl ?_
      refine z_iload_n C dX1_addUp_53 rfl 3 rfl ?_
      obtain ⟨c12, hc12, hf⟩ := zbind hf
      obtain ⟨kc12, hc12⟩ := zck_ok hc12
      refine z_callVi (As := [.int x1, .int x2]) (F0 := 2) (L0 := 43) C (mX1_channelForResult l D Ca B En C.2.2.2.2.2.2.2.1 σ10 N x0 x1 x2 _ hc12) hRm kc12 rfl kw_679 kw_8 kw_676 kw_678 kp_14 hyX1_channelForResult (Nat.le_of_ble_eq_true rfl) (Nat.le_of_ble_eq_true rfl) rfl rfl (Nat.le_of_ble_eq_true rfl) dX1_addUp_54 ?_
      refine z_iload_n C dX1_addUp_57 rfl 3 rfl ?_
      obtain ⟨c13, hc13, hf⟩ := zbind hf
      obtain ⟨kc13, hc13⟩ := zck_ok hc13
      refine z_callVv (As := [.int c12.2, .int x2]) (F0 := 2) (L0 := 43) C (mX3_add l D Ca B En C.2.2.2.2.2.2.2.1 c12.1 N v11 c12.2 x2 _ hc13) hRm kc13 rfl kw_344 kw_9 kw_341 kw_342 kw_343 hyX3_add (Nat.le_of_ble_eq_true rfl) (Nat.le_of_ble_eq_true rfl) rfl rfl (Nat.le_of_ble_eq_true rfl) dX1_addUp_58 ?_
      cases hf
      exact hq _ _ dX1_addUp_61
    · rw [if_neg q14] at hf
      cases hf
      exact hq _ _ dX1_addUp_19

theorem mX1_addUp (l : Launch) (D : va_G) (Ca : Nat → ClassId) (B : Nat) (En : State → Prop) (hE : zEk B En) (σ : zS) (N : Nat) (x0 : Nat) (x1 : Int32) (x2 : Int32) (X : zS) (hf : fX1_addUp σ x0 x1 x2 = some X) : zMv l D Ca B En yX1_addUp cX1_addUp 4 (Option.none : Option Jvm.ClassFile.FieldType) 2 43 [.ref x0, .int x1, .int x2] σ N X () :=
  zMet_v (own := RX1) hE (by decide +kernel) rfl (Nat.le_of_ble_eq_true rfl) (fun p e s m args below meth c C hr hRm => wfX1_addUp C hRm σ x0 x1 x2 X hf (fun pc lv hd => zfin_v (r := ()) C hr hd))
theorem dX1_take_0 : decode cX1_take 0 = .ok (.iload_n 2, 1) := by decide +kernel
theorem dX1_take_1 : decode cX1_take 1 = .ok (.iconst (-1), 1) := by decide +kernel
theorem dX1_take_2 : decode cX1_take 2 = .ok (.if_icmp .ne 4, 3) := by decide +kernel
theorem dX1_take_5 : decode cX1_take 5 = .ok (.return_, 1) := by decide +kernel
theorem dX1_take_6 : decode cX1_take 6 = .ok (.aload_n 0, 1) := by decide +kernel
theorem dX1_take_7 : decode cX1_take 7 = .ok (.getfield 44, 3) := by decide +kernel
theorem dX1_take_10 : decode cX1_take 10 = .ok (.iload_n 1, 1) := by decide +kernel
theorem dX1_take_11 : decode cX1_take 11 = .ok (.iload_n 2, 1) := by decide +kernel
theorem dX1_take_12 : decode cX1_take 12 = .ok (.iconst 1, 1) := by decide +kernel
theorem dX1_take_13 : decode cX1_take 13 = .ok (.iadd, 1) := by decide +kernel
theorem dX1_take_14 : decode cX1_take 14 = .ok (.iastore, 1) := by decide +kernel
theorem dX1_take_15 : decode cX1_take 15 = .ok (.iload_n 1, 1) := by decide +kernel
theorem dX1_take_16 : decode cX1_take 16 = .ok (.iload_n 2, 1) := by decide +kernel
theorem dX1_take_17 : decode cX1_take 17 = .ok (.invokestatic 190, 3) := by decide +kernel
theorem dX1_take_20 : decode cX1_take 20 = .ok (.istore_n 3, 1) := by decide +kernel
theorem dX1_take_21 : decode cX1_take 21 = .ok (.aload_n 0, 1) := by decide +kernel
theorem dX1_take_22 : decode cX1_take 22 = .ok (.getfield 47, 3) := by decide +kernel
theorem dX1_take_25 : decode cX1_take 25 = .ok (.iload_n 3, 1) := by decide +kernel
theorem dX1_take_26 : decode cX1_take 26 = .ok (.iaload, 1) := by decide +kernel
theorem dX1_take_27 : decode cX1_take 27 = .ok (.ifCond .ne 10, 3) := by decide +kernel
theorem dX1_take_30 : decode cX1_take 30 = .ok (.aload_n 0, 1) := by decide +kernel
theorem dX1_take_31 : decode cX1_take 31 = .ok (.iload_n 1, 1) := by decide +kernel
theorem dX1_take_32 : decode cX1_take 32 = .ok (.iload_n 2, 1) := by decide +kernel
theorem dX1_take_33 : decode cX1_take 33 = .ok (.invokevirtual 218, 3) := by decide +kernel
theorem dX1_take_36 : decode cX1_take 36 = .ok (.return_, 1) := by decide +kernel
theorem dX1_take_37 : decode cX1_take 37 = .ok (.aload_n 0, 1) := by decide +kernel
theorem dX1_take_38 : decode cX1_take 38 = .ok (.getfield 47, 3) := by decide +kernel
theorem dX1_take_41 : decode cX1_take 41 = .ok (.iload_n 3, 1) := by decide +kernel
theorem dX1_take_42 : decode cX1_take 42 = .ok (.iaload, 1) := by decide +kernel
theorem dX1_take_43 : decode cX1_take 43 = .ok (.ifCond .le 13, 3) := by decide +kernel
theorem dX1_take_46 : decode cX1_take 46 = .ok (.aload_n 0, 1) := by decide +kernel
theorem dX1_take_47 : decode cX1_take 47 = .ok (.getfield 47, 3) := by decide +kernel
theorem dX1_take_50 : decode cX1_take 50 = .ok (.iload_n 3, 1) := by decide +kernel
theorem dX1_take_51 : decode cX1_take 51 = .ok (.dup2, 1) := by decide +kernel
theorem dX1_take_52 : decode cX1_take 52 = .ok (.iaload, 1) := by decide +kernel
theorem dX1_take_53 : decode cX1_take 53 = .ok (.iconst 1, 1) := by decide +kernel
theorem dX1_take_54 : decode cX1_take 54 = .ok (.isub, 1) := by decide +kernel
theorem dX1_take_55 : decode cX1_take 55 = .ok (.iastore, 1) := by decide +kernel
theorem dX1_take_56 : decode cX1_take 56 = .ok (.aload_n 0, 1) := by decide +kernel
theorem dX1_take_57 : decode cX1_take 57 = .ok (.getfield 30, 3) := by decide +kernel
theorem dX1_take_60 : decode cX1_take 60 = .ok (.iload_n 3, 1) := by decide +kernel
theorem dX1_take_61 : decode cX1_take 61 = .ok (.invokevirtual 234, 3) := by decide +kernel
theorem dX1_take_64 : decode cX1_take 64 = .ok (.istore 4, 2) := by decide +kernel
theorem dX1_take_66 : decode cX1_take 66 = .ok (.aload_n 0, 1) := by decide +kernel
theorem dX1_take_67 : decode cX1_take 67 = .ok (.getfield 37, 3) := by decide +kernel
theorem dX1_take_70 : decode cX1_take 70 = .ok (.invokevirtual 212, 3) := by decide +kernel
theorem dX1_take_73 : decode cX1_take 73 = .ok (.ifCond .eq 25, 3) := by decide +kernel
theorem dX1_take_76 : decode cX1_take 76 = .ok (.aload_n 0, 1) := by decide +kernel
theorem dX1_take_77 : decode cX1_take 77 = .ok (.getfield 37, 3) := by decide +kernel
theorem dX1_take_80 : decode cX1_take 80 = .ok (.iload_n 1, 1) := by decide +kernel
theorem dX1_take_81 : decode cX1_take 81 = .ok (.iload_n 2, 1) := by decide +kernel
theorem dX1_take_82 : decode cX1_take 82 = .ok (.invokevirtual 237, 3) := by decide +kernel
theorem dX1_take_85 : decode cX1_take 85 = .ok (.ifCond .eq 13, 3) := by decide +kernel
theorem dX1_take_88 : decode cX1_take 88 = .ok (.aload_n 0, 1) := by decide +kernel
theorem dX1_take_89 : decode cX1_take 89 = .ok (.getfield 37, 3) := by decide +kernel
theorem dX1_take_92 : decode cX1_take 92 = .ok (.iload_n 3, 1) := by decide +kernel
theorem dX1_take_93 : decode cX1_take 93 = .ok (.iload 4, 2) := by decide +kernel
theorem dX1_take_95 : decode cX1_take 95 = .ok (.invokevirtual 240, 3) := by decide +kernel
theorem dX1_take_98 : decode cX1_take 98 = .ok (.iload_n 1, 1) := by decide +kernel
theorem dX1_take_99 : decode cX1_take 99 = .ok (.iconst 4, 1) := by decide +kernel
theorem dX1_take_100 : decode cX1_take 100 = .ok (.if_icmp .ge 13, 3) := by decide +kernel
theorem dX1_take_103 : decode cX1_take 103 = .ok (.aload_n 0, 1) := by decide +kernel
theorem dX1_take_104 : decode cX1_take 104 = .ok (.iload_n 1, 1) := by decide +kernel
theorem dX1_take_105 : decode cX1_take 105 = .ok (.iload 4, 2) := by decide +kernel
theorem dX1_take_107 : decode cX1_take 107 = .ok (.invokevirtual 243, 3) := by decide +kernel
theorem dX1_take_110 : decode cX1_take 110 = .ok (.goto 18, 3) := by decide +kernel
theorem dX1_take_113 : decode cX1_take 113 = .ok (.aload_n 0, 1) := by decide +kernel
theorem dX1_take_114 : decode cX1_take 114 = .ok (.getfield 30, 3) := by decide +kernel
theorem dX1_take_117 : decode cX1_take 117 = .ok (.bipush 24, 2) := by decide +kernel
theorem dX1_take_119 : decode cX1_take 119 = .ok (.iload_n 1, 1) := by decide +kernel
theorem dX1_take_120 : decode cX1_take 120 = .ok (.iadd, 1) := by decide +kernel
theorem dX1_take_121 : decode cX1_take 121 = .ok (.iconst 4, 1) := by decide +kernel
theorem dX1_take_122 : decode cX1_take 122 = .ok (.isub, 1) := by decide +kernel
theorem dX1_take_123 : decode cX1_take 123 = .ok (.iload 4, 2) := by decide +kernel
theorem dX1_take_125 : decode cX1_take 125 = .ok (.invokevirtual 209, 3) := by decide +kernel
theorem dX1_take_128 : decode cX1_take 128 = .ok (.return_, 1) := by decide +kernel
theorem hyX1_take : yX1_take.cls ≠ "java/lang/invoke/MethodHandle" ∧ yX1_take.cls ≠ "java/lang/invoke/VarHandle" ∧ (parseMethodDescriptor yX1_take.desc).map (fun d => d.parameters.length) = some 2 := ⟨by decide +kernel, by decide +kernel, by decide +kernel⟩
set_option maxRecDepth 100000 in
set_option maxHeartbeats 4000000 in
theorem wjX1_take_98 (C : zC p s m args meth c cX1_take RX1 5 D Ca B En) (hRm : zRm R 4 92 cells slots) (σ : zS) (x0 : Nat) (x1 : Int32) (x4 : Int32)  (τ : zS) (hf : jX1_take_98 σ x0 x1 x4  = some τ) (hq : ∀ (pc : Nat) (lv : List (Nat × Value)), decode cX1_take pc = .ok (.return_, 1) → zW p l e R s m args below meth c cells slots Q D Ca B 5 τ N pc lv []) : zW p l e R s m args below meth c cells slots Q D Ca B 5 σ N 98 [(0, .ref x0), (1, .int x1), (4, .int x4)] [] := by
  unfold jX1_take_98 at hf
  refine z_iload_n C dX1_take_98 rfl 1 rfl ?_
  refine z_iconst C (zi 4) dX1_take_99 (by decide) ?_
  refine z_icmp_ge C 113 dX1_take_100 (by decide) (fun q15 => ?_) (fun q15 => ?_)
  · rw [if_pos q15] at hf
    refine z_aload_n C dX1_take_113 rfl 0 rfl ?_
    obtain ⟨v12, hv12, hf⟩ := zbind hf
    refine gf_RX1_30 C hv12 dX1_take_114 ?_
    refine z_bipush C (zi 24) dX1_take_117 (by decide) ?_
    refine z_iload_n C dX1_take_119 rfl 1 rfl ?_
    refine z_iadd C dX1_take_120 ?_
    refine z_iconst C (zi 4) dX1_take_121 (by decide) ?_
    refine z_isub C dX1_take_122 ?_
    refine z_iload C dX1_take_123 2 rfl ?_
    obtain ⟨c13, hc13, hf⟩ := zbind hf
    obtain ⟨kc13, hc13⟩ := zck_ok hc13
    refine z_callVv (As := [.int ((((zi 24)) + x1) - ((zi 4))), .int x4]) (F0 := 4) (L0 := 92) C (mX3_add l D Ca B En C.2.2.2.2.2.2.2.1 σ N v12 ((((zi 24)) + x1) - ((zi 4))) x4 _ hc13) hRm kc13 rfl kw_344 kw_9 kw_341 kw_342 kw_343 hyX3_add (Nat.le_of_ble_eq_true rfl) (Nat.le_of_ble_eq_true rfl) rfl rfl (Nat.le_of_ble_eq_true rfl) dX1_take_125 ?_
    cases hf
    exact hq _ _ dX1_take_128
  · rw [if_neg q15] at hf
    refine z_aload_n C dX1_take_103 rfl 0 rfl ?_
    refine z_iload_n C dX1_take_104 rfl 1 rfl ?_
    refine z_iload C dX1_take_105 2 rfl ?_
    obtain ⟨c14, hc14, hf⟩ := zbind hf
    obtain ⟨kc14, hc14⟩ := zck_ok hc14
    refine z_callVv (As := [.int x1, .int x4]) (F0 := 4) (L0 := 92) C (mX1_addUp l D Ca B En C.2.2.2.2.2.2.2.1 σ N x0 x1 x4 _ hc14) hRm kc14 rfl kw_705 kw_8 kw_702 kw_704 kp_16 hyX1_addUp (Nat.le_of_ble_eq_true rfl) (Nat.le_of_ble_eq_true rfl) rfl rfl (Nat.le_of_ble_eq_true rfl) dX1_take_107 ?_
    refine z_goto C 128 dX1_take_110 (by decide) ?_
    cases hf
    exact hq _ _ dX1_take_128

set_option maxRecDepth 100000 in
set_option maxHeartbeats 4000000 in
theorem wjX1_take_56 (C : zC p s m args meth c cX1_take RX1 5 D Ca B En) (hRm : zRm R 4 92 cells slots) (σ : zS) (x0 : Nat) (x1 : Int32) (x2 : Int32) (x3 : Int32)  (τ : zS) (hf : jX1_take_56 σ x0 x1 x2 x3  = some τ) (hq : ∀ (pc : Nat) (lv : List (Nat × Value)), decode cX1_take pc = .ok (.return_, 1) → zW p l e R s m args below meth c cells slots Q D Ca B 5 τ N pc lv []) : zW p l e R s m args below meth c cells slots Q D Ca B 5 σ N 56 [(0, .ref x0), (1, .int x1), (2, .int x2), (3, .int x3)] [] := by
  unfold jX1_take_56 at hf
  refine z_aload_n C dX1_take_56 rfl 0 rfl ?_
  obtain ⟨v8, hv8, hf⟩ := zbind hf
  refine gf_RX1_30 C hv8 dX1_take_57 ?_
  refine z_iload_n C dX1_take_60 rfl 3 rfl ?_
  obtain ⟨c9, hc9, hf⟩ := zbind hf
  obtain ⟨kc9, hc9⟩ := zck_ok hc9
  refine z_callVi (As := [.int x3]) (F0 := 4) (L0 := 92) C (mX3_takeFirst l D Ca B En C.2.2.2.2.2.2.2.1 σ N v8 x3 _ hc9) hRm kc9 rfl kw_691 kw_9 kw_688 kw_689 kw_690 hyX3_takeFirst (Nat.le_of_ble_eq_true rfl) (Nat.le_of_ble_eq_true rfl) rfl rfl (Nat.le_of_ble_eq_true rfl) dX1_take_61 ?_
  refine z_istore (lv2 := [(4, .int c9.2), (0, .ref x0), (1, .int x1), (2, .int x2), (3, .int x3)]) C dX1_take_64 (by decide) rfl ?_
  refine z_aload_n C dX1_take_66 rfl 1 rfl ?_
  obtain ⟨v10, hv10, hf⟩ := zbind hf
  refine gf_RX1_37 C hv10 dX1_take_67 ?_
  obtain ⟨c11, hc11, hf⟩ := zbind hf
  obtain ⟨kc11, hc11⟩ := zck_ok hc11
  refine z_callVi (As := []) (F0 := 4) (L0 := 92) C (mX0_isOvertaking l D Ca B En C.2.2.2.2.2.2.2.1 c9.1 N v10  _ hc11) hRm kc11 rfl kw_649 kw_10 kw_646 kw_647 kw_648 hyX0_isOvertaking (Nat.le_of_ble_eq_true rfl) (Nat.le_of_ble_eq_true rfl) rfl rfl (Nat.le_of_ble_eq_true rfl) dX1_take_70 ?_
  refine z_if_eq C 98 dX1_take_73 (by decide) (fun q21 => ?_) (fun q21 => ?_)
  · rw [if_pos q21] at hf
    refine z_sub [1, 2, 0] rfl ?_
    exact wjX1_take_98 C hRm _ _ _ _  _ hf hq
  · rw [if_neg q21] at hf
    refine z_aload_n C dX1_take_76 rfl 1 rfl ?_
    obtain ⟨v16, hv16, hf⟩ := zbind hf
    refine gf_RX1_37 C hv16 dX1_take_77 ?_
    refine z_iload_n C dX1_take_80 rfl 2 rfl ?_
    refine z_iload_n C dX1_take_81 rfl 3 rfl ?_
    obtain ⟨c17, hc17, hf⟩ := zbind hf
    obtain ⟨kc17, hc17⟩ := zck_ok hc17
    refine z_callVi (As := [.int x1, .int x2]) (F0 := 4) (L0 := 92) C (mX0_isOnlyBehind l D Ca B En C.2.2.2.2.2.2.2.1 c11.1 N v16 x1 x2 _ hc17) hRm kc17 rfl kw_696 kw_10 kw_693 kw_694 kw_695 hyX0_isOnlyBehind (Nat.le_of_ble_eq_true rfl) (Nat.le_of_ble_eq_true rfl) rfl rfl (Nat.le_of_ble_eq_true rfl) dX1_take_82 ?_
    refine z_if_eq C 98 dX1_take_85 (by decide) (fun q20 => ?_) (fun q20 => ?_)
    · rw [if_pos q20] at hf
      refine z_sub [1, 2, 0] rfl ?_
      exact wjX1_take_98 C hRm _ _ _ _  _ hf hq
    · rw [if_neg q20] at hf
      refine z_aload_n C dX1_take_88 rfl 1 rfl ?_
      obtain ⟨v18, hv18, hf⟩ := zbind hf
      refine gf_RX1_37 C hv18 dX1_take_89 ?_
      refine z_iload_n C dX1_take_92 rfl 4 rfl ?_
      refine z_iload C dX1_take_93 0 rfl ?_
      obtain ⟨c19, hc19, hf⟩ := zbind hf
      obtain ⟨kc19, hc19⟩ := zck_ok hc19
      refine z_callVv (As := [.int x3, .int c9.2]) (F0 := 4) (L0 := 92) C (mX0_keep l D Ca B En C.2.2.2.2.2.2.2.1 c17.1 N v18 x3 c9.2 _ hc19) hRm kc19 rfl kw_700 kw_10 kw_697 kw_698 kw_699 hyX0_keep (Nat.le_of_ble_eq_true rfl) (Nat.le_of_ble_eq_true rfl) rfl rfl (Nat.le_of_ble_eq_true rfl) dX1_take_95 ?_
      refine z_sub [1, 2, 0] rfl ?_
      exact wjX1_take_98 C hRm _ _ _ _  _ hf hq

set_option maxRecDepth 100000 in
set_option maxHeartbeats 4000000 in
theorem wfX1_take (C : zC p s m args meth c cX1_take RX1 5 D Ca B En) (hRm : zRm R 4 92 cells slots) (σ : zS) (x0 : Nat) (x1 : Int32) (x2 : Int32) (τ : zS) (hf : fX1_take σ x0 x1 x2 = some τ) (hq : ∀ (pc : Nat) (lv : List (Nat × Value)), decode cX1_take pc = .ok (.return_, 1) → zW p l e R s m args below meth c cells slots Q D Ca B 5 τ N pc lv []) : zW p l e R s m args below meth c cells slots Q D Ca B 5 σ N 0 [(0, .ref x0), (1, .int x1), (2, .int x2)] [] := by
  unfold fX1_take at hf
  refine z_iload_n C dX1_take_0 rfl 2 rfl ?_
  refine z_iconst C (zi (-1)) dX1_take_1 (by decide) ?_
  refine z_icmp_ne C 6 dX1_take_2 (by decide) (fun q28 => ?_) (fun q28 => ?_)
  · rw [if_neg q28] at hf
    refine z_aload_n C dX1_take_6 rfl 0 rfl ?_
    obtain ⟨v1, hv1, hf⟩ := zbind hf
    refine gf_RX1_44 C hv1 dX1_take_7 ?_
    refine z_iload_n C dX1_take_10 rfl 1 rfl ?_
    refine z_iload_n C dX1_take_11 rfl 2 rfl ?_
    refine z_iconst C (zi 1) dX1_take_12 (by decide) ?_
    refine z_iadd C dX1_take_13 ?_
    obtain ⟨σ2, hσ2, hf⟩ := zbind hf
    refine z_sI C hσ2 dX1_take_14 ?_
    refine z_iload_n C dX1_take_15 rfl 1 rfl ?_
    refine z_iload_n C dX1_take_16 rfl 2 rfl ?_
    obtain ⟨c3, hc3, hf⟩ := zbind hf
    refine z_callSNi (host := "BarrierFlow") (As := [.int x1, .int x2]) (F0 := 4) (L0 := 92) C (mX9_channel l D Ca B En C.2.2.2.2.2.2.2.1 σ2 N x1 x2 _ hc3) hRm kw_629 kw_1 (by decide) kw_628 hyX9_channel (Nat.le_of_ble_eq_true rfl) (Nat.le_of_ble_eq_true rfl) rfl rfl (Nat.le_of_ble_eq_true rfl) dX1_take_17 ?_
    refine z_istore_n (lv2 := [(3, .int c3.2), (0, .ref x0), (1, .int x1), (2, .int x2)]) C dX1_take_20 rfl (by decide) rfl ?_
    refine z_aload_n C dX1_take_21 rfl 1 rfl ?_
    obtain ⟨v4, hv4, hf⟩ := zbind hf
    refine gf_RX1_47 C hv4 dX1_take_22 ?_
    refine z_iload_n C dX1_take_25 rfl 0 rfl ?_
    obtain ⟨v5, hv5, hf⟩ := zbind hf
    refine z_aI C hv5 dX1_take_26 ?_
    refine z_if_ne C 37 dX1_take_27 (by decide) (fun q27 => ?_) (fun q27 => ?_)
    · rw [if_neg q27] at hf
      refine z_aload_n C dX1_take_37 rfl 1 rfl ?_
      obtain ⟨v6, hv6, hf⟩ := zbind hf
      refine gf_RX1_47 C hv6 dX1_take_38 ?_
      refine z_iload_n C dX1_take_41 rfl 0 rfl ?_
      obtain ⟨v7, hv7, hf⟩ := zbind hf
      refine z_aI C hv7 dX1_take_42 ?_
      refine z_if_le C 56 dX1_take_43 (by decide) (fun q25 => ?_) (fun q25 => ?_)
      · rw [if_pos q25] at hf
        refine z_sub [1, 2, 3, 0] rfl ?_
        exact wjX1_take_56 C hRm _ _ _ _ _  _ hf hq
      · rw [if_neg q25] at hf
        refine z_aload_n C dX1_take_46 rfl 1 rfl ?_
        obtain ⟨v22, hv22, hf⟩ := zbind hf
        refine gf_RX1_47 C hv22 dX1_take_47 ?_
        refine z_iload_n C dX1_take_50 rfl 0 rfl ?_
        refine z_dup2 C dX1_take_51 rfl rfl ?_
        obtain ⟨v23, hv23, hf⟩ := zbind hf
        refine z_aI C hv23 dX1_take_52 ?_
        refine z_iconst C (zi 1) dX1_take_53 (by decide) ?_
        refine z_isub C dX1_take_54 ?_
        obtain ⟨σ24, hσ24, hf⟩ := zbind hf
        refine z_sI C hσ24 dX1_take_55 ?_
        refine z_sub [1, 2, 3, 0] rfl ?_
        exact wjX1_take_56 C hRm _ _ _ _ _  _ hf hq
    · rw [if_pos q27] at hf
      refine z_aload_n C dX1_take_30 rfl 1 rfl ?_
      refine z_iload_n C dX1_take_31 rfl 2 rfl ?_
      refine z_iload_n C dX1_take_32 rfl 3 rfl ?_
      obtain ⟨c26, hc26, hf⟩ := zbind hf
      obtain ⟨kc26, hc26⟩ := zck_ok hc26
      refine z_callVv (As := [.int x1, .int x2]) (F0 := 4) (L0 := 92) C (mX1_letBarrierArrive l D Ca B En C.2.2.2.2.2.2.2.1 c3.1 N x0 x1 x2 _ hc26) hRm kc26 rfl kw_658 kw_8 kw_655 kw_657 kp_9 hyX1_letBarrierArrive (Nat.le_of_ble_eq_true rfl) (Nat.le_of_ble_eq_true rfl) rfl rfl (Nat.le_of_ble_eq_true rfl) dX1_take_33 ?_
      cases hf
      exact hq _ _ dX1_take_36
  · rw [if_pos q28] at hf
    cases hf
    exact hq _ _ dX1_take_5

theorem mX1_take (l : Launch) (D : va_G) (Ca : Nat → ClassId) (B : Nat) (En : State → Prop) (hE : zEk B En) (σ : zS) (N : Nat) (x0 : Nat) (x1 : Int32) (x2 : Int32) (X : zS) (hf : fX1_take σ x0 x1 x2 = some X) : zMv l D Ca B En yX1_take cX1_take 5 (Option.none : Option Jvm.ClassFile.FieldType) 4 92 [.ref x0, .int x1, .int x2] σ N X () :=
  zMet_v (own := RX1) hE (by decide +kernel) rfl (Nat.le_of_ble_eq_true rfl) (fun p e s m args below meth c C hr hRm => wfX1_take C hRm σ x0 x1 x2 X hf (fun pc lv hd => zfin_v (r := ()) C hr hd))
theorem dX1_completeIfAllArrived_0 : decode cX1_completeIfAllArrived 0 = .ok (.aload_n 0, 1) := by decide +kernel
theorem dX1_completeIfAllArrived_1 : decode cX1_completeIfAllArrived 1 = .ok (.getfield 37, 3) := by decide +kernel
theorem dX1_completeIfAllArrived_4 : decode cX1_completeIfAllArrived 4 = .ok (.invokevirtual 129, 3) := by decide +kernel
theorem dX1_completeIfAllArrived_7 : decode cX1_completeIfAllArrived 7 = .ok (.ifCond .eq 72, 3) := by decide +kernel
theorem dX1_completeIfAllArrived_10 : decode cX1_completeIfAllArrived 10 = .ok (.aload_n 0, 1) := by decide +kernel
theorem dX1_completeIfAllArrived_11 : decode cX1_completeIfAllArrived 11 = .ok (.getfield 37, 3) := by decide +kernel
theorem dX1_completeIfAllArrived_14 : decode cX1_completeIfAllArrived 14 = .ok (.getfield 186, 3) := by decide +kernel
theorem dX1_completeIfAllArrived_17 : decode cX1_completeIfAllArrived 17 = .ok (.invokestatic 259, 3) := by decide +kernel
theorem dX1_completeIfAllArrived_20 : decode cX1_completeIfAllArrived 20 = .ok (.aload_n 0, 1) := by decide +kernel
theorem dX1_completeIfAllArrived_21 : decode cX1_completeIfAllArrived 21 = .ok (.getfield 54, 3) := by decide +kernel
theorem dX1_completeIfAllArrived_24 : decode cX1_completeIfAllArrived 24 = .ok (.getfield 140, 3) := by decide +kernel
theorem dX1_completeIfAllArrived_27 : decode cX1_completeIfAllArrived 27 = .ok (.if_icmp .lt 52, 3) := by decide +kernel
theorem dX1_completeIfAllArrived_30 : decode cX1_completeIfAllArrived 30 = .ok (.aload_n 0, 1) := by decide +kernel
theorem dX1_completeIfAllArrived_31 : decode cX1_completeIfAllArrived 31 = .ok (.getfield 37, 3) := by decide +kernel
theorem dX1_completeIfAllArrived_34 : decode cX1_completeIfAllArrived 34 = .ok (.iconst 0, 1) := by decide +kernel
theorem dX1_completeIfAllArrived_35 : decode cX1_completeIfAllArrived 35 = .ok (.iconst 4, 1) := by decide +kernel
theorem dX1_completeIfAllArrived_36 : decode cX1_completeIfAllArrived 36 = .ok (.invokevirtual 274, 3) := by decide +kernel
theorem dX1_completeIfAllArrived_39 : decode cX1_completeIfAllArrived 39 = .ok (.aload_n 0, 1) := by decide +kernel
theorem dX1_completeIfAllArrived_40 : decode cX1_completeIfAllArrived 40 = .ok (.getfield 54, 3) := by decide +kernel
theorem dX1_completeIfAllArrived_43 : decode cX1_completeIfAllArrived 43 = .ok (.getfield 140, 3) := by decide +kernel
theorem dX1_completeIfAllArrived_46 : decode cX1_completeIfAllArrived 46 = .ok (.aload_n 0, 1) := by decide +kernel
theorem dX1_completeIfAllArrived_47 : decode cX1_completeIfAllArrived 47 = .ok (.getfield 70, 3) := by decide +kernel
theorem dX1_completeIfAllArrived_50 : decode cX1_completeIfAllArrived 50 = .ok (.imul, 1) := by decide +kernel
theorem dX1_completeIfAllArrived_51 : decode cX1_completeIfAllArrived 51 = .ok (.if_icmp .lt 28, 3) := by decide +kernel
theorem dX1_completeIfAllArrived_54 : decode cX1_completeIfAllArrived 54 = .ok (.aload_n 0, 1) := by decide +kernel
theorem dX1_completeIfAllArrived_55 : decode cX1_completeIfAllArrived 55 = .ok (.getfield 37, 3) := by decide +kernel
theorem dX1_completeIfAllArrived_58 : decode cX1_completeIfAllArrived 58 = .ok (.iconst 4, 1) := by decide +kernel
theorem dX1_completeIfAllArrived_59 : decode cX1_completeIfAllArrived 59 = .ok (.bipush 6, 2) := by decide +kernel
theorem dX1_completeIfAllArrived_61 : decode cX1_completeIfAllArrived 61 = .ok (.invokevirtual 274, 3) := by decide +kernel
theorem dX1_completeIfAllArrived_64 : decode cX1_completeIfAllArrived 64 = .ok (.aload_n 0, 1) := by decide +kernel
theorem dX1_completeIfAllArrived_65 : decode cX1_completeIfAllArrived 65 = .ok (.getfield 70, 3) := by decide +kernel
theorem dX1_completeIfAllArrived_68 : decode cX1_completeIfAllArrived 68 = .ok (.aload_n 0, 1) := by decide +kernel
theorem dX1_completeIfAllArrived_69 : decode cX1_completeIfAllArrived 69 = .ok (.getfield 54, 3) := by decide +kernel
theorem dX1_completeIfAllArrived_72 : decode cX1_completeIfAllArrived 72 = .ok (.getfield 161, 3) := by decide +kernel
theorem dX1_completeIfAllArrived_75 : decode cX1_completeIfAllArrived 75 = .ok (.imul, 1) := by decide +kernel
theorem dX1_completeIfAllArrived_76 : decode cX1_completeIfAllArrived 76 = .ok (.if_icmp .ge 4, 3) := by decide +kernel
theorem dX1_completeIfAllArrived_79 : decode cX1_completeIfAllArrived 79 = .ok (.return_, 1) := by decide +kernel
theorem dX1_completeIfAllArrived_80 : decode cX1_completeIfAllArrived 80 = .ok (.aload_n 0, 1) := by decide +kernel
theorem dX1_completeIfAllArrived_81 : decode cX1_completeIfAllArrived 81 = .ok (.getfield 37, 3) := by decide +kernel
theorem dX1_completeIfAllArrived_84 : decode cX1_completeIfAllArrived 84 = .ok (.aload_n 0, 1) := by decide +kernel
theorem dX1_completeIfAllArrived_85 : decode cX1_completeIfAllArrived 85 = .ok (.getfield 93, 3) := by decide +kernel
theorem dX1_completeIfAllArrived_88 : decode cX1_completeIfAllArrived 88 = .ok (.putfield 277, 3) := by decide +kernel
theorem dX1_completeIfAllArrived_91 : decode cX1_completeIfAllArrived 91 = .ok (.aload_n 0, 1) := by decide +kernel
theorem dX1_completeIfAllArrived_92 : decode cX1_completeIfAllArrived 92 = .ok (.getfield 41, 3) := by decide +kernel
theorem dX1_completeIfAllArrived_95 : decode cX1_completeIfAllArrived 95 = .ok (.astore_n 1, 1) := by decide +kernel
theorem dX1_completeIfAllArrived_96 : decode cX1_completeIfAllArrived 96 = .ok (.aload_n 0, 1) := by decide +kernel
theorem dX1_completeIfAllArrived_97 : decode cX1_completeIfAllArrived 97 = .ok (.aload_n 0, 1) := by decide +kernel
theorem dX1_completeIfAllArrived_98 : decode cX1_completeIfAllArrived 98 = .ok (.getfield 37, 3) := by decide +kernel
theorem dX1_completeIfAllArrived_101 : decode cX1_completeIfAllArrived 101 = .ok (.putfield 41, 3) := by decide +kernel
theorem dX1_completeIfAllArrived_104 : decode cX1_completeIfAllArrived 104 = .ok (.aload_n 0, 1) := by decide +kernel
theorem dX1_completeIfAllArrived_105 : decode cX1_completeIfAllArrived 105 = .ok (.aload_n 1, 1) := by decide +kernel
theorem dX1_completeIfAllArrived_106 : decode cX1_completeIfAllArrived 106 = .ok (.putfield 37, 3) := by decide +kernel
theorem dX1_completeIfAllArrived_109 : decode cX1_completeIfAllArrived 109 = .ok (.aload_n 0, 1) := by decide +kernel
theorem dX1_completeIfAllArrived_110 : decode cX1_completeIfAllArrived 110 = .ok (.getfield 37, 3) := by decide +kernel
theorem dX1_completeIfAllArrived_113 : decode cX1_completeIfAllArrived 113 = .ok (.iconst 0, 1) := by decide +kernel
theorem dX1_completeIfAllArrived_114 : decode cX1_completeIfAllArrived 114 = .ok (.putfield 110, 3) := by decide +kernel
theorem dX1_completeIfAllArrived_117 : decode cX1_completeIfAllArrived 117 = .ok (.aload_n 0, 1) := by decide +kernel
theorem dX1_completeIfAllArrived_118 : decode cX1_completeIfAllArrived 118 = .ok (.dup, 1) := by decide +kernel
theorem dX1_completeIfAllArrived_119 : decode cX1_completeIfAllArrived 119 = .ok (.getfield 99, 3) := by decide +kernel
theorem dX1_completeIfAllArrived_122 : decode cX1_completeIfAllArrived 122 = .ok (.iconst 1, 1) := by decide +kernel
theorem dX1_completeIfAllArrived_123 : decode cX1_completeIfAllArrived 123 = .ok (.iadd, 1) := by decide +kernel
theorem dX1_completeIfAllArrived_124 : decode cX1_completeIfAllArrived 124 = .ok (.putfield 99, 3) := by decide +kernel
theorem dX1_completeIfAllArrived_127 : decode cX1_completeIfAllArrived 127 = .ok (.return_, 1) := by decide +kernel
theorem hyX1_completeIfAllArrived : yX1_completeIfAllArrived.cls ≠ "java/lang/invoke/MethodHandle" ∧ yX1_completeIfAllArrived.cls ≠ "java/lang/invoke/VarHandle" ∧ (parseMethodDescriptor yX1_completeIfAllArrived.desc).map (fun d => d.parameters.length) = some 0 := ⟨by decide +kernel, by decide +kernel, by decide +kernel⟩
set_option maxRecDepth 100000 in
set_option maxHeartbeats 4000000 in
theorem wfX1_completeIfAllArrived (C : zC p s m args meth c cX1_completeIfAllArrived RX1 2 D Ca B En) (hRm : zRm R 2 44 cells slots) (σ : zS) (x0 : Nat) (τ : zS) (hf : fX1_completeIfAllArrived σ x0 = some τ) (hq : ∀ (pc : Nat) (lv : List (Nat × Value)), decode cX1_completeIfAllArrived pc = .ok (.return_, 1) → zW p l e R s m args below meth c cells slots Q D Ca B 2 τ N pc lv []) : zW p l e R s m args below meth c cells slots Q D Ca B 2 σ N 0 [(0, .ref x0)] [] := by
  unfold fX1_completeIfAllArrived at hf
  refine z_aload_n C dX1_completeIfAllArrived_0 rfl 0 rfl ?_
  obtain ⟨v1, hv1, hf⟩ := zbind hf
  refine gf_RX1_37 C hv1 dX1_completeIfAllArrived_1 ?_
  obtain ⟨c2, hc2, hf⟩ := zbind hf
  obtain ⟨kc2, hc2⟩ := zck_ok hc2
  refine z_callVi (As := []) (F0 := 2) (L0 := 44) C (mX0_exists l D Ca B En C.2.2.2.2.2.2.2.1 σ N v1  _ hc2) hRm kc2 rfl kw_316 kw_10 kw_313 kw_314 kw_315 hyX0_exists (Nat.le_of_ble_eq_true rfl) (Nat.le_of_ble_eq_true rfl) rfl rfl (Nat.le_of_ble_eq_true rfl) dX1_completeIfAllArrived_4 ?_
  refine z_if_eq C 79 dX1_completeIfAllArrived_7 (by decide) (fun q32 => ?_) (fun q32 => ?_)
  · rw [if_pos q32] at hf
    cases hf
    exact hq _ _ dX1_completeIfAllArrived_79
  · rw [if_neg q32] at hf
    refine z_aload_n C dX1_completeIfAllArrived_10 rfl 0 rfl ?_
    obtain ⟨v3, hv3, hf⟩ := zbind hf
    refine gf_RX1_37 C hv3 dX1_completeIfAllArrived_11 ?_
    obtain ⟨v4, hv4, hf⟩ := zbind hf
    refine gf_RX1_186 C hv4 dX1_completeIfAllArrived_14 ?_
    obtain ⟨c5, hc5, hf⟩ := zbind hf
    refine z_callSi (As := [.int v4]) (F0 := 2) (L0 := 44) C (mJ6_bitCount_0f7a4 l D Ca B En C.2.2.2.2.2.2.2.1 c2.1 N v4 _ hc5) hRm kw_553 kw_23 kw_667 kw_552 hyJ6_bitCount_0f7a4 (Nat.le_of_ble_eq_true rfl) (Nat.le_of_ble_eq_true rfl) rfl rfl (Nat.le_of_ble_eq_true rfl) dX1_completeIfAllArrived_17 ?_
    refine z_aload_n C dX1_completeIfAllArrived_20 rfl 0 rfl ?_
    obtain ⟨v6, hv6, hf⟩ := zbind hf
    refine gf_RX1_54 C hv6 dX1_completeIfAllArrived_21 ?_
    obtain ⟨v7, hv7, hf⟩ := zbind hf
    refine gf_RX1_140 C hv7 dX1_completeIfAllArrived_24 ?_
    refine z_icmp_lt C 79 dX1_completeIfAllArrived_27 (by decide) (fun q31 => ?_) (fun q31 => ?_)
    · rw [if_pos q31] at hf
      cases hf
      exact hq _ _ dX1_completeIfAllArrived_79
    · rw [if_neg q31] at hf
      refine z_aload_n C dX1_completeIfAllArrived_30 rfl 0 rfl ?_
      obtain ⟨v8, hv8, hf⟩ := zbind hf
      refine gf_RX1_37 C hv8 dX1_completeIfAllArrived_31 ?_
      refine z_iconst C (zi 0) dX1_completeIfAllArrived_34 (by decide) ?_
      refine z_iconst C (zi 4) dX1_completeIfAllArrived_35 (by decide) ?_
      obtain ⟨c9, hc9, hf⟩ := zbind hf
      obtain ⟨kc9, hc9⟩ := zck_ok hc9
      refine z_callVi (As := [.int ((zi 0)), .int ((zi 4))]) (F0 := 2) (L0 := 44) C (mX0_arrivedFrom l D Ca B En C.2.2.2.2.2.2.2.1 c5.1 N v8 ((zi 0)) ((zi 4)) _ hc9) hRm kc9 rfl kw_560 kw_10 kw_714 kw_558 kw_559 hyX0_arrivedFrom (Nat.le_of_ble_eq_true rfl) (Nat.le_of_ble_eq_true rfl) rfl rfl (Nat.le_of_ble_eq_true rfl) dX1_completeIfAllArrived_36 ?_
      refine z_aload_n C dX1_completeIfAllArrived_39 rfl 0 rfl ?_
      obtain ⟨v10, hv10, hf⟩ := zbind hf
      refine gf_RX1_54 C hv10 dX1_completeIfAllArrived_40 ?_
      obtain ⟨v11, hv11, hf⟩ := zbind hf
      refine gf_RX1_140 C hv11 dX1_completeIfAllArrived_43 ?_
      refine z_aload_n C dX1_completeIfAllArrived_46 rfl 0 rfl ?_
      obtain ⟨v12, hv12, hf⟩ := zbind hf
      refine gf_RX1_70 C hv12 dX1_completeIfAllArrived_47 ?_
      refine z_imul C dX1_completeIfAllArrived_50 ?_
      refine z_icmp_lt C 79 dX1_completeIfAllArrived_51 (by decide) (fun q30 => ?_) (fun q30 => ?_)
      · rw [if_pos q30] at hf
        cases hf
        exact hq _ _ dX1_completeIfAllArrived_79
      · rw [if_neg q30] at hf
        refine z_aload_n C dX1_completeIfAllArrived_54 rfl 0 rfl ?_
        obtain ⟨v13, hv13, hf⟩ := zbind hf
        refine gf_RX1_37 C hv13 dX1_completeIfAllArrived_55 ?_
        refine z_iconst C (zi 4) dX1_completeIfAllArrived_58 (by decide) ?_
        refine z_bipush C (zi 6) dX1_completeIfAllArrived_59 (by decide) ?_
        obtain ⟨c14, hc14, hf⟩ := zbind hf
        obtain ⟨kc14, hc14⟩ := zck_ok hc14
        refine z_callVi (As := [.int ((zi 4)), .int ((zi 6))]) (F0 := 2) (L0 := 44) C (mX0_arrivedFrom l D Ca B En C.2.2.2.2.2.2.2.1 c9.1 N v13 ((zi 4)) ((zi 6)) _ hc14) hRm kc14 rfl kw_560 kw_10 kw_714 kw_558 kw_559 hyX0_arrivedFrom (Nat.le_of_ble_eq_true rfl) (Nat.le_of_ble_eq_true rfl) rfl rfl (Nat.le_of_ble_eq_true rfl) dX1_completeIfAllArrived_61 ?_
        refine z_aload_n C dX1_completeIfAllArrived_64 rfl 0 rfl ?_
        obtain ⟨v15, hv15, hf⟩ := zbind hf
        refine gf_RX1_70 C hv15 dX1_completeIfAllArrived_65 ?_
        refine z_aload_n C dX1_completeIfAllArrived_68 rfl 0 rfl ?_
        obtain ⟨v16, hv16, hf⟩ := zbind hf
        refine gf_RX1_54 C hv16 dX1_completeIfAllArrived_69 ?_
        obtain ⟨v17, hv17, hf⟩ := zbind hf
        refine gf_RX1_161 C hv17 dX1_completeIfAllArrived_72 ?_
        refine z_imul C dX1_completeIfAllArrived_75 ?_
        refine z_icmp_ge C 80 dX1_completeIfAllArrived_76 (by decide) (fun q29 => ?_) (fun q29 => ?_)
        · rw [if_pos q29] at hf
          refine z_aload_n C dX1_completeIfAllArrived_80 rfl 0 rfl ?_
          obtain ⟨v18, hv18, hf⟩ := zbind hf
          refine gf_RX1_37 C hv18 dX1_completeIfAllArrived_81 ?_
          refine z_aload_n C dX1_completeIfAllArrived_84 rfl 0 rfl ?_
          obtain ⟨v19, hv19, hf⟩ := zbind hf
          refine gf_RX1_93 C hv19 dX1_completeIfAllArrived_85 ?_
          obtain ⟨σ20, hσ20, hf⟩ := zbind hf
          refine gp_RX1_277 C hσ20 dX1_completeIfAllArrived_88 ?_
          refine z_aload_n C dX1_completeIfAllArrived_91 rfl 0 rfl ?_
          obtain ⟨v21, hv21, hf⟩ := zbind hf
          refine gf_RX1_41 C hv21 dX1_completeIfAllArrived_92 ?_
          refine z_astore_n (lv2 := [(1, .ref v21), (0, .ref x0)]) C dX1_completeIfAllArrived_95 rfl (by decide) rfl ?_
          refine z_aload_n C dX1_completeIfAllArrived_96 rfl 1 rfl ?_
          refine z_aload_n C dX1_completeIfAllArrived_97 rfl 1 rfl ?_
          obtain ⟨v22, hv22, hf⟩ := zbind hf
          refine gf_RX1_37 C hv22 dX1_completeIfAllArrived_98 ?_
          obtain ⟨σ23, hσ23, hf⟩ := zbind hf
          refine gp_RX1_41 C hσ23 dX1_completeIfAllArrived_101 ?_
          refine z_aload_n C dX1_completeIfAllArrived_104 rfl 1 rfl ?_
          refine z_aload_n C dX1_completeIfAllArrived_105 rfl 0 rfl ?_
          obtain ⟨σ24, hσ24, hf⟩ := zbind hf
          refine gp_RX1_37 C hσ24 dX1_completeIfAllArrived_106 ?_
          refine z_aload_n C dX1_completeIfAllArrived_109 rfl 1 rfl ?_
          obtain ⟨v25, hv25, hf⟩ := zbind hf
          refine gf_RX1_37 C hv25 dX1_completeIfAllArrived_110 ?_
          refine z_iconst C (zi 0) dX1_completeIfAllArrived_113 (by decide) ?_
          obtain ⟨σ26, hσ26, hf⟩ := zbind hf
          refine gp_RX1_110 C hσ26 dX1_completeIfAllArrived_114 ?_
          refine z_aload_n C dX1_completeIfAllArrived_117 rfl 1 rfl ?_
          refine z_dup C dX1_completeIfAllArrived_118 rfl ?_
          obtain ⟨v27, hv27, hf⟩ := zbind hf
          refine gf_RX1_99 C hv27 dX1_completeIfAllArrived_119 ?_
          refine z_iconst C (zi 1) dX1_completeIfAllArrived_122 (by decide) ?_
          refine z_iadd C dX1_completeIfAllArrived_123 ?_
          obtain ⟨σ28, hσ28, hf⟩ := zbind hf
          refine gp_RX1_99 C hσ28 dX1_completeIfAllArrived_124 ?_
          cases hf
          exact hq _ _ dX1_completeIfAllArrived_127
        · rw [if_neg q29] at hf
          cases hf
          exact hq _ _ dX1_completeIfAllArrived_79

theorem mX1_completeIfAllArrived (l : Launch) (D : va_G) (Ca : Nat → ClassId) (B : Nat) (En : State → Prop) (hE : zEk B En) (σ : zS) (N : Nat) (x0 : Nat) (X : zS) (hf : fX1_completeIfAllArrived σ x0 = some X) : zMv l D Ca B En yX1_completeIfAllArrived cX1_completeIfAllArrived 2 (Option.none : Option Jvm.ClassFile.FieldType) 2 44 [.ref x0] σ N X () :=
  zMet_v (own := RX1) hE (by decide +kernel) rfl (Nat.le_of_ble_eq_true rfl) (fun p e s m args below meth c C hr hRm => wfX1_completeIfAllArrived C hRm σ x0 X hf (fun pc lv hd => zfin_v (r := ()) C hr hd))
theorem dX1_tick_0 : decode cX1_tick 0 = .ok (.aload_n 0, 1) := by decide +kernel
theorem dX1_tick_1 : decode cX1_tick 1 = .ok (.getfield 83, 3) := by decide +kernel
theorem dX1_tick_4 : decode cX1_tick 4 = .ok (.ifCond .eq 33, 3) := by decide +kernel
theorem dX1_tick_7 : decode cX1_tick 7 = .ok (.aload_n 0, 1) := by decide +kernel
theorem dX1_tick_8 : decode cX1_tick 8 = .ok (.getfield 93, 3) := by decide +kernel
theorem dX1_tick_11 : decode cX1_tick 11 = .ok (.aload_n 0, 1) := by decide +kernel
theorem dX1_tick_12 : decode cX1_tick 12 = .ok (.getfield 83, 3) := by decide +kernel
theorem dX1_tick_15 : decode cX1_tick 15 = .ok (.irem, 1) := by decide +kernel
theorem dX1_tick_16 : decode cX1_tick 16 = .ok (.ifCond .ne 21, 3) := by decide +kernel
theorem dX1_tick_19 : decode cX1_tick 19 = .ok (.aload_n 0, 1) := by decide +kernel
theorem dX1_tick_20 : decode cX1_tick 20 = .ok (.getfield 37, 3) := by decide +kernel
theorem dX1_tick_23 : decode cX1_tick 23 = .ok (.invokevirtual 129, 3) := by decide +kernel
theorem dX1_tick_26 : decode cX1_tick 26 = .ok (.ifCond .ne 11, 3) := by decide +kernel
theorem dX1_tick_29 : decode cX1_tick 29 = .ok (.aload_n 0, 1) := by decide +kernel
theorem dX1_tick_30 : decode cX1_tick 30 = .ok (.aload_n 0, 1) := by decide +kernel
theorem dX1_tick_31 : decode cX1_tick 31 = .ok (.getfield 89, 3) := by decide +kernel
theorem dX1_tick_34 : decode cX1_tick 34 = .ok (.invokevirtual 133, 3) := by decide +kernel
theorem dX1_tick_37 : decode cX1_tick 37 = .ok (.aload_n 0, 1) := by decide +kernel
theorem dX1_tick_38 : decode cX1_tick 38 = .ok (.invokevirtual 137, 3) := by decide +kernel
theorem dX1_tick_41 : decode cX1_tick 41 = .ok (.iconst 0, 1) := by decide +kernel
theorem dX1_tick_42 : decode cX1_tick 42 = .ok (.istore_n 1, 1) := by decide +kernel
theorem dX1_tick_43 : decode cX1_tick 43 = .ok (.iload_n 1, 1) := by decide +kernel
theorem dX1_tick_44 : decode cX1_tick 44 = .ok (.aload_n 0, 1) := by decide +kernel
theorem dX1_tick_45 : decode cX1_tick 45 = .ok (.getfield 54, 3) := by decide +kernel
theorem dX1_tick_48 : decode cX1_tick 48 = .ok (.getfield 140, 3) := by decide +kernel
theorem dX1_tick_51 : decode cX1_tick 51 = .ok (.if_icmp .ge 19, 3) := by decide +kernel
theorem dX1_tick_54 : decode cX1_tick 54 = .ok (.aload_n 0, 1) := by decide +kernel
theorem dX1_tick_55 : decode cX1_tick 55 = .ok (.iload_n 1, 1) := by decide +kernel
theorem dX1_tick_56 : decode cX1_tick 56 = .ok (.invokevirtual 143, 3) := by decide +kernel
theorem dX1_tick_59 : decode cX1_tick 59 = .ok (.aload_n 0, 1) := by decide +kernel
theorem dX1_tick_60 : decode cX1_tick 60 = .ok (.iload_n 1, 1) := by decide +kernel
theorem dX1_tick_61 : decode cX1_tick 61 = .ok (.invokevirtual 147, 3) := by decide +kernel
theorem dX1_tick_64 : decode cX1_tick 64 = .ok (.iinc 1 1, 3) := by decide +kernel
theorem dX1_tick_67 : decode cX1_tick 67 = .ok (.goto (-24), 3) := by decide +kernel
theorem dX1_tick_70 : decode cX1_tick 70 = .ok (.aload_n 0, 1) := by decide +kernel
theorem dX1_tick_71 : decode cX1_tick 71 = .ok (.iconst 0, 1) := by decide +kernel
theorem dX1_tick_72 : decode cX1_tick 72 = .ok (.aload_n 0, 1) := by decide +kernel
theorem dX1_tick_73 : decode cX1_tick 73 = .ok (.getfield 70, 3) := by decide +kernel
theorem dX1_tick_76 : decode cX1_tick 76 = .ok (.invokevirtual 150, 3) := by decide +kernel
theorem dX1_tick_79 : decode cX1_tick 79 = .ok (.iconst 0, 1) := by decide +kernel
theorem dX1_tick_80 : decode cX1_tick 80 = .ok (.istore_n 1, 1) := by decide +kernel
theorem dX1_tick_81 : decode cX1_tick 81 = .ok (.iload_n 1, 1) := by decide +kernel
theorem dX1_tick_82 : decode cX1_tick 82 = .ok (.aload_n 0, 1) := by decide +kernel
theorem dX1_tick_83 : decode cX1_tick 83 = .ok (.getfield 70, 3) := by decide +kernel
theorem dX1_tick_86 : decode cX1_tick 86 = .ok (.if_icmp .ge 19, 3) := by decide +kernel
theorem dX1_tick_89 : decode cX1_tick 89 = .ok (.aload_n 0, 1) := by decide +kernel
theorem dX1_tick_90 : decode cX1_tick 90 = .ok (.iload_n 1, 1) := by decide +kernel
theorem dX1_tick_91 : decode cX1_tick 91 = .ok (.aload_n 0, 1) := by decide +kernel
theorem dX1_tick_92 : decode cX1_tick 92 = .ok (.iload_n 1, 1) := by decide +kernel
theorem dX1_tick_93 : decode cX1_tick 93 = .ok (.invokevirtual 154, 3) := by decide +kernel
theorem dX1_tick_96 : decode cX1_tick 96 = .ok (.invokevirtual 158, 3) := by decide +kernel
theorem dX1_tick_99 : decode cX1_tick 99 = .ok (.iinc 1 1, 3) := by decide +kernel
theorem dX1_tick_102 : decode cX1_tick 102 = .ok (.goto (-21), 3) := by decide +kernel
theorem dX1_tick_105 : decode cX1_tick 105 = .ok (.aload_n 0, 1) := by decide +kernel
theorem dX1_tick_106 : decode cX1_tick 106 = .ok (.iconst 4, 1) := by decide +kernel
theorem dX1_tick_107 : decode cX1_tick 107 = .ok (.aload_n 0, 1) := by decide +kernel
theorem dX1_tick_108 : decode cX1_tick 108 = .ok (.getfield 54, 3) := by decide +kernel
theorem dX1_tick_111 : decode cX1_tick 111 = .ok (.getfield 161, 3) := by decide +kernel
theorem dX1_tick_114 : decode cX1_tick 114 = .ok (.invokevirtual 150, 3) := by decide +kernel
theorem dX1_tick_117 : decode cX1_tick 117 = .ok (.iconst 0, 1) := by decide +kernel
theorem dX1_tick_118 : decode cX1_tick 118 = .ok (.istore_n 1, 1) := by decide +kernel
theorem dX1_tick_119 : decode cX1_tick 119 = .ok (.iload_n 1, 1) := by decide +kernel
theorem dX1_tick_120 : decode cX1_tick 120 = .ok (.aload_n 0, 1) := by decide +kernel
theorem dX1_tick_121 : decode cX1_tick 121 = .ok (.getfield 54, 3) := by decide +kernel
theorem dX1_tick_124 : decode cX1_tick 124 = .ok (.getfield 161, 3) := by decide +kernel
theorem dX1_tick_127 : decode cX1_tick 127 = .ok (.if_icmp .ge 23, 3) := by decide +kernel
theorem dX1_tick_130 : decode cX1_tick 130 = .ok (.aload_n 0, 1) := by decide +kernel
theorem dX1_tick_131 : decode cX1_tick 131 = .ok (.iconst 4, 1) := by decide +kernel
theorem dX1_tick_132 : decode cX1_tick 132 = .ok (.iload_n 1, 1) := by decide +kernel
theorem dX1_tick_133 : decode cX1_tick 133 = .ok (.iadd, 1) := by decide +kernel
theorem dX1_tick_134 : decode cX1_tick 134 = .ok (.aload_n 0, 1) := by decide +kernel
theorem dX1_tick_135 : decode cX1_tick 135 = .ok (.iconst 4, 1) := by decide +kernel
theorem dX1_tick_136 : decode cX1_tick 136 = .ok (.iload_n 1, 1) := by decide +kernel
theorem dX1_tick_137 : decode cX1_tick 137 = .ok (.iadd, 1) := by decide +kernel
theorem dX1_tick_138 : decode cX1_tick 138 = .ok (.invokevirtual 154, 3) := by decide +kernel
theorem dX1_tick_141 : decode cX1_tick 141 = .ok (.invokevirtual 158, 3) := by decide +kernel
theorem dX1_tick_144 : decode cX1_tick 144 = .ok (.iinc 1 1, 3) := by decide +kernel
theorem dX1_tick_147 : decode cX1_tick 147 = .ok (.goto (-28), 3) := by decide +kernel
theorem dX1_tick_150 : decode cX1_tick 150 = .ok (.aload_n 0, 1) := by decide +kernel
theorem dX1_tick_151 : decode cX1_tick 151 = .ok (.invokevirtual 164, 3) := by decide +kernel
theorem dX1_tick_154 : decode cX1_tick 154 = .ok (.aload_n 0, 1) := by decide +kernel
theorem dX1_tick_155 : decode cX1_tick 155 = .ok (.dup, 1) := by decide +kernel
theorem dX1_tick_156 : decode cX1_tick 156 = .ok (.getfield 93, 3) := by decide +kernel
theorem dX1_tick_159 : decode cX1_tick 159 = .ok (.iconst 1, 1) := by decide +kernel
theorem dX1_tick_160 : decode cX1_tick 160 = .ok (.iadd, 1) := by decide +kernel
theorem dX1_tick_161 : decode cX1_tick 161 = .ok (.putfield 93, 3) := by decide +kernel
theorem dX1_tick_164 : decode cX1_tick 164 = .ok (.return_, 1) := by decide +kernel
theorem hyX1_tick : yX1_tick.cls ≠ "java/lang/invoke/MethodHandle" ∧ yX1_tick.cls ≠ "java/lang/invoke/VarHandle" ∧ (parseMethodDescriptor yX1_tick.desc).map (fun d => d.parameters.length) = some 0 := ⟨by decide +kernel, by decide +kernel, by decide +kernel⟩
set_option maxRecDepth 100000 in
set_option maxHeartbeats 4000000 in
theorem wsX1_tick_43b (C : zC p s m args meth c cX1_tick RX1 2 D Ca B En) (hRm : zRm R 5 116 cells slots) (x0 : Nat) (σ : zS) (u1 : Int32) (y : (zS × Int32) ⊕ zS) (hf : sX1_tick_43b x0 σ u1 = some y) (hk : (∀ z : (zS × Int32), y = .inl z → zW p l e R s m args below meth c cells slots Q D Ca B 2 z.1 N 43 [(0, .ref x0), (1, .int z.2)] []) ∧ (∀ z : zS, y = .inr z → zW p l e R s m args below meth c cells slots Q D Ca B 2 z N 70 [(0, .ref x0)] [])) : zW p l e R s m args below meth c cells slots Q D Ca B 2 σ N 43 [(0, .ref x0), (1, .int u1)] [] := by
  unfold sX1_tick_43b at hf
  refine z_iload_n C dX1_tick_43 rfl 1 rfl ?_
  refine z_aload_n C dX1_tick_44 rfl 0 rfl ?_
  obtain ⟨v3, hv3, hf⟩ := zbind hf
  refine gf_RX1_54 C hv3 dX1_tick_45 ?_
  obtain ⟨v4, hv4, hf⟩ := zbind hf
  refine gf_RX1_140 C hv4 dX1_tick_48 ?_
  refine z_icmp_ge C 70 dX1_tick_51 (by decide) (fun q7 => ?_) (fun q7 => ?_)
  · rw [if_pos q7] at hf
    cases hf
    refine z_sub [0] rfl ?_
    exact hk.2 _ rfl
  · rw [if_neg q7] at hf
    refine z_aload_n C dX1_tick_54 rfl 0 rfl ?_
    refine z_iload_n C dX1_tick_55 rfl 1 rfl ?_
    obtain ⟨c5, hc5, hf⟩ := zbind hf
    obtain ⟨kc5, hc5⟩ := zck_ok hc5
    refine z_callVv (As := [.int u1]) (F0 := 5) (L0 := 116) C (mX1_putBarriers l D Ca B En C.2.2.2.2.2.2.2.1 σ N x0 u1 _ hc5) hRm kc5 rfl kw_622 kw_8 kw_619 kw_621 kp_5 hyX1_putBarriers (Nat.le_of_ble_eq_true rfl) (Nat.le_of_ble_eq_true rfl) rfl rfl (Nat.le_of_ble_eq_true rfl) dX1_tick_56 ?_
    refine z_aload_n C dX1_tick_59 rfl 0 rfl ?_
    refine z_iload_n C dX1_tick_60 rfl 1 rfl ?_
    obtain ⟨c6, hc6, hf⟩ := zbind hf
    obtain ⟨kc6, hc6⟩ := zck_ok hc6
    refine z_callVv (As := [.int u1]) (F0 := 5) (L0 := 116) C (mX1_sendRecord l D Ca B En C.2.2.2.2.2.2.2.1 c5 N x0 u1 _ hc6) hRm kc6 rfl kw_633 kw_8 kw_630 kw_632 kp_6 hyX1_sendRecord (Nat.le_of_ble_eq_true rfl) (Nat.le_of_ble_eq_true rfl) rfl rfl (Nat.le_of_ble_eq_true rfl) dX1_tick_61 ?_
    refine z_iinc (lv2 := [(1, .int (u1 + (zi 1))), (0, .ref x0)]) C (u1 + (zi 1)) dX1_tick_64 1 rfl rfl (by decide) rfl ?_
    refine z_goto C 43 dX1_tick_67 (by decide) ?_
    cases hf
    refine z_sub [1, 0] rfl ?_
    exact hk.1 _ rfl

theorem wsX1_tick_43 (C : zC p s m args meth c cX1_tick RX1 2 D Ca B En) (hRm : zRm R 5 116 cells slots) (x0 : Nat) (n : Nat) (z : (zS × Int32)) (x : zS) (hf : zloop (sX1_tick_43 x0) n z = some x) (hk : (∀ o : zS, x = o → zW p l e R s m args below meth c cells slots Q D Ca B 2 o N 70 [(0, .ref x0)] [])) : zW p l e R s m args below meth c cells slots Q D Ca B 2 z.1 N 43 [(0, .ref x0), (1, .int z.2)] [] := by
  refine zloop_W (P := fun z : (zS × Int32) => zW p l e R s m args below meth c cells slots Q D Ca B 2 z.1 N 43 [(0, .ref x0), (1, .int z.2)] []) (K := fun x : zS => (∀ o : zS, x = o → zW p l e R s m args below meth c cells slots Q D Ca B 2 o N 70 [(0, .ref x0)] [])) ?_ n z x hf hk
  intro z y hy h1 h2
  refine wsX1_tick_43b C hRm x0 z.1 z.2 y hy ⟨fun z2 e => h1 z2 e, fun o e => (h2 _ e) o rfl⟩
set_option maxRecDepth 100000 in
set_option maxHeartbeats 4000000 in
theorem wsX1_tick_81b (C : zC p s m args meth c cX1_tick RX1 2 D Ca B En) (hRm : zRm R 5 116 cells slots) (x0 : Nat) (σ : zS) (u1 : Int32) (y : (zS × Int32) ⊕ zS) (hf : sX1_tick_81b x0 σ u1 = some y) (hk : (∀ z : (zS × Int32), y = .inl z → zW p l e R s m args below meth c cells slots Q D Ca B 2 z.1 N 81 [(0, .ref x0), (1, .int z.2)] []) ∧ (∀ z : zS, y = .inr z → zW p l e R s m args below meth c cells slots Q D Ca B 2 z N 105 [(0, .ref x0)] [])) : zW p l e R s m args below meth c cells slots Q D Ca B 2 σ N 81 [(0, .ref x0), (1, .int u1)] [] := by
  unfold sX1_tick_81b at hf
  refine z_iload_n C dX1_tick_81 rfl 1 rfl ?_
  refine z_aload_n C dX1_tick_82 rfl 0 rfl ?_
  obtain ⟨v11, hv11, hf⟩ := zbind hf
  refine gf_RX1_70 C hv11 dX1_tick_83 ?_
  refine z_icmp_ge C 105 dX1_tick_86 (by decide) (fun q14 => ?_) (fun q14 => ?_)
  · rw [if_pos q14] at hf
    cases hf
    refine z_sub [0] rfl ?_
    exact hk.2 _ rfl
  · rw [if_neg q14] at hf
    refine z_aload_n C dX1_tick_89 rfl 0 rfl ?_
    refine z_iload_n C dX1_tick_90 rfl 1 rfl ?_
    refine z_aload_n C dX1_tick_91 rfl 0 rfl ?_
    refine z_iload_n C dX1_tick_92 rfl 1 rfl ?_
    obtain ⟨c12, hc12, hf⟩ := zbind hf
    obtain ⟨kc12, hc12⟩ := zck_ok hc12
    refine z_callVi (As := [.int u1]) (F0 := 5) (L0 := 116) C (mX1_senderInTurn l D Ca B En C.2.2.2.2.2.2.2.1 σ N x0 u1 _ hc12) hRm kc12 rfl kw_671 kw_8 kw_668 kw_670 kp_12 hyX1_senderInTurn (Nat.le_of_ble_eq_true rfl) (Nat.le_of_ble_eq_true rfl) rfl rfl (Nat.le_of_ble_eq_true rfl) dX1_tick_93 ?_
    obtain ⟨c13, hc13, hf⟩ := zbind hf
    obtain ⟨kc13, hc13⟩ := zck_ok hc13
    refine z_callVv (As := [.int u1, .int c12.2]) (F0 := 5) (L0 := 116) C (mX1_take l D Ca B En C.2.2.2.2.2.2.2.1 c12.1 N x0 u1 c12.2 _ hc13) hRm kc13 rfl kw_687 kw_8 kw_684 kw_686 kp_15 hyX1_take (Nat.le_of_ble_eq_true rfl) (Nat.le_of_ble_eq_true rfl) rfl rfl (Nat.le_of_ble_eq_true rfl) dX1_tick_96 ?_
    refine z_iinc (lv2 := [(1, .int (u1 + (zi 1))), (0, .ref x0)]) C (u1 + (zi 1)) dX1_tick_99 1 rfl rfl (by decide) rfl ?_
    refine z_goto C 81 dX1_tick_102 (by decide) ?_
    cases hf
    refine z_sub [1, 0] rfl ?_
    exact hk.1 _ rfl

theorem wsX1_tick_81 (C : zC p s m args meth c cX1_tick RX1 2 D Ca B En) (hRm : zRm R 5 116 cells slots) (x0 : Nat) (n : Nat) (z : (zS × Int32)) (x : zS) (hf : zloop (sX1_tick_81 x0) n z = some x) (hk : (∀ o : zS, x = o → zW p l e R s m args below meth c cells slots Q D Ca B 2 o N 105 [(0, .ref x0)] [])) : zW p l e R s m args below meth c cells slots Q D Ca B 2 z.1 N 81 [(0, .ref x0), (1, .int z.2)] [] := by
  refine zloop_W (P := fun z : (zS × Int32) => zW p l e R s m args below meth c cells slots Q D Ca B 2 z.1 N 81 [(0, .ref x0), (1, .int z.2)] []) (K := fun x : zS => (∀ o : zS, x = o → zW p l e R s m args below meth c cells slots Q D Ca B 2 o N 105 [(0, .ref x0)] [])) ?_ n z x hf hk
  intro z y hy h1 h2
  refine wsX1_tick_81b C hRm x0 z.1 z.2 y hy ⟨fun z2 e => h1 z2 e, fun o e => (h2 _ e) o rfl⟩
set_option maxRecDepth 100000 in
set_option maxHeartbeats 4000000 in
theorem wsX1_tick_119b (C : zC p s m args meth c cX1_tick RX1 2 D Ca B En) (hRm : zRm R 5 116 cells slots) (x0 : Nat) (σ : zS) (u1 : Int32) (y : (zS × Int32) ⊕ zS) (hf : sX1_tick_119b x0 σ u1 = some y) (hk : (∀ z : (zS × Int32), y = .inl z → zW p l e R s m args below meth c cells slots Q D Ca B 2 z.1 N 119 [(0, .ref x0), (1, .int z.2)] []) ∧ (∀ z : zS, y = .inr z → zW p l e R s m args below meth c cells slots Q D Ca B 2 z N 150 [(0, .ref x0)] [])) : zW p l e R s m args below meth c cells slots Q D Ca B 2 σ N 119 [(0, .ref x0), (1, .int u1)] [] := by
  unfold sX1_tick_119b at hf
  refine z_iload_n C dX1_tick_119 rfl 1 rfl ?_
  refine z_aload_n C dX1_tick_120 rfl 0 rfl ?_
  obtain ⟨v19, hv19, hf⟩ := zbind hf
  refine gf_RX1_54 C hv19 dX1_tick_121 ?_
  obtain ⟨v20, hv20, hf⟩ := zbind hf
  refine gf_RX1_161 C hv20 dX1_tick_124 ?_
  refine z_icmp_ge C 150 dX1_tick_127 (by decide) (fun q23 => ?_) (fun q23 => ?_)
  · rw [if_pos q23] at hf
    cases hf
    refine z_sub [0] rfl ?_
    exact hk.2 _ rfl
  · rw [if_neg q23] at hf
    refine z_aload_n C dX1_tick_130 rfl 0 rfl ?_
    refine z_iconst C (zi 4) dX1_tick_131 (by decide) ?_
    refine z_iload_n C dX1_tick_132 rfl 1 rfl ?_
    refine z_iadd C dX1_tick_133 ?_
    refine z_aload_n C dX1_tick_134 rfl 0 rfl ?_
    refine z_iconst C (zi 4) dX1_tick_135 (by decide) ?_
    refine z_iload_n C dX1_tick_136 rfl 1 rfl ?_
    refine z_iadd C dX1_tick_137 ?_
    obtain ⟨c21, hc21, hf⟩ := zbind hf
    obtain ⟨kc21, hc21⟩ := zck_ok hc21
    refine z_callVi (As := [.int (((zi 4)) + u1)]) (F0 := 5) (L0 := 116) C (mX1_senderInTurn l D Ca B En C.2.2.2.2.2.2.2.1 σ N x0 (((zi 4)) + u1) _ hc21) hRm kc21 rfl kw_671 kw_8 kw_668 kw_670 kp_12 hyX1_senderInTurn (Nat.le_of_ble_eq_true rfl) (Nat.le_of_ble_eq_true rfl) rfl rfl (Nat.le_of_ble_eq_true rfl) dX1_tick_138 ?_
    obtain ⟨c22, hc22, hf⟩ := zbind hf
    obtain ⟨kc22, hc22⟩ := zck_ok hc22
    refine z_callVv (As := [.int (((zi 4)) + u1), .int c21.2]) (F0 := 5) (L0 := 116) C (mX1_take l D Ca B En C.2.2.2.2.2.2.2.1 c21.1 N x0 (((zi 4)) + u1) c21.2 _ hc22) hRm kc22 rfl kw_687 kw_8 kw_684 kw_686 kp_15 hyX1_take (Nat.le_of_ble_eq_true rfl) (Nat.le_of_ble_eq_true rfl) rfl rfl (Nat.le_of_ble_eq_true rfl) dX1_tick_141 ?_
    refine z_iinc (lv2 := [(1, .int (u1 + (zi 1))), (0, .ref x0)]) C (u1 + (zi 1)) dX1_tick_144 1 rfl rfl (by decide) rfl ?_
    refine z_goto C 119 dX1_tick_147 (by decide) ?_
    cases hf
    refine z_sub [1, 0] rfl ?_
    exact hk.1 _ rfl

theorem wsX1_tick_119 (C : zC p s m args meth c cX1_tick RX1 2 D Ca B En) (hRm : zRm R 5 116 cells slots) (x0 : Nat) (n : Nat) (z : (zS × Int32)) (x : zS) (hf : zloop (sX1_tick_119 x0) n z = some x) (hk : (∀ o : zS, x = o → zW p l e R s m args below meth c cells slots Q D Ca B 2 o N 150 [(0, .ref x0)] [])) : zW p l e R s m args below meth c cells slots Q D Ca B 2 z.1 N 119 [(0, .ref x0), (1, .int z.2)] [] := by
  refine zloop_W (P := fun z : (zS × Int32) => zW p l e R s m args below meth c cells slots Q D Ca B 2 z.1 N 119 [(0, .ref x0), (1, .int z.2)] []) (K := fun x : zS => (∀ o : zS, x = o → zW p l e R s m args below meth c cells slots Q D Ca B 2 o N 150 [(0, .ref x0)] [])) ?_ n z x hf hk
  intro z y hy h1 h2
  refine wsX1_tick_119b C hRm x0 z.1 z.2 y hy ⟨fun z2 e => h1 z2 e, fun o e => (h2 _ e) o rfl⟩
set_option maxRecDepth 100000 in
set_option maxHeartbeats 4000000 in
theorem wjX1_tick_37 (C : zC p s m args meth c cX1_tick RX1 2 D Ca B En) (hRm : zRm R 5 116 cells slots) (σ : zS) (x0 : Nat)  (τ : zS) (hf : jX1_tick_37 σ x0  = some τ) (hq : ∀ (pc : Nat) (lv : List (Nat × Value)), decode cX1_tick pc = .ok (.return_, 1) → zW p l e R s m args below meth c cells slots Q D Ca B 2 τ N pc lv []) : zW p l e R s m args below meth c cells slots Q D Ca B 2 σ N 37 [(0, .ref x0)] [] := by
  unfold jX1_tick_37 at hf
  refine z_aload_n C dX1_tick_37 rfl 0 rfl ?_
  obtain ⟨c2, hc2, hf⟩ := zbind hf
  obtain ⟨kc2, hc2⟩ := zck_ok hc2
  refine z_callVv (As := []) (F0 := 5) (L0 := 116) C (mX1_showLatest l D Ca B En C.2.2.2.2.2.2.2.1 σ N x0  _ hc2) hRm kc2 rfl kw_312 kw_8 kw_309 kw_311 kp_2 hyX1_showLatest (Nat.le_of_ble_eq_true rfl) (Nat.le_of_ble_eq_true rfl) rfl rfl (Nat.le_of_ble_eq_true rfl) dX1_tick_38 ?_
  refine z_iconst C (zi 0) dX1_tick_41 (by decide) ?_
  refine z_istore_n (lv2 := [(1, .int ((zi 0))), (0, .ref x0)]) C dX1_tick_42 rfl (by decide) rfl ?_
  obtain ⟨o8, ho8, hf⟩ := zbind hf
  refine z_sub [1, 0] rfl ?_
  refine wsX1_tick_43 C hRm _ zfuel (c2, (zi 0)) o8 ho8 ?_
  intro z9 e9
  subst e9
  refine z_aload_n C dX1_tick_70 rfl 0 rfl ?_
  refine z_iconst C (zi 0) dX1_tick_71 (by decide) ?_
  refine z_aload_n C dX1_tick_72 rfl 0 rfl ?_
  obtain ⟨v9, hv9, hf⟩ := zbind hf
  refine gf_RX1_70 C hv9 dX1_tick_73 ?_
  obtain ⟨c10, hc10, hf⟩ := zbind hf
  obtain ⟨kc10, hc10⟩ := zck_ok hc10
  refine z_callVv (As := [.int ((zi 0)), .int v9]) (F0 := 5) (L0 := 116) C (mX1_letBarriersOvertake l D Ca B En C.2.2.2.2.2.2.2.1 o8 N x0 ((zi 0)) v9 _ hc10) hRm kc10 rfl kw_645 kw_8 kw_642 kw_644 kp_7 hyX1_letBarriersOvertake (Nat.le_of_ble_eq_true rfl) (Nat.le_of_ble_eq_true rfl) rfl rfl (Nat.le_of_ble_eq_true rfl) dX1_tick_76 ?_
  refine z_iconst C (zi 0) dX1_tick_79 (by decide) ?_
  refine z_istore_n (lv2 := [(1, .int ((zi 0))), (0, .ref x0)]) C dX1_tick_80 rfl (by decide) rfl ?_
  obtain ⟨o15, ho15, hf⟩ := zbind hf
  refine z_sub [1, 0] rfl ?_
  refine wsX1_tick_81 C hRm _ zfuel (c10, (zi 0)) o15 ho15 ?_
  intro z9 e9
  subst e9
  refine z_aload_n C dX1_tick_105 rfl 0 rfl ?_
  refine z_iconst C (zi 4) dX1_tick_106 (by decide) ?_
  refine z_aload_n C dX1_tick_107 rfl 0 rfl ?_
  obtain ⟨v16, hv16, hf⟩ := zbind hf
  refine gf_RX1_54 C hv16 dX1_tick_108 ?_
  obtain ⟨v17, hv17, hf⟩ := zbind hf
  refine gf_RX1_161 C hv17 dX1_tick_111 ?_
  obtain ⟨c18, hc18, hf⟩ := zbind hf
  obtain ⟨kc18, hc18⟩ := zck_ok hc18
  refine z_callVv (As := [.int ((zi 4)), .int v17]) (F0 := 5) (L0 := 116) C (mX1_letBarriersOvertake l D Ca B En C.2.2.2.2.2.2.2.1 o15 N x0 ((zi 4)) v17 _ hc18) hRm kc18 rfl kw_645 kw_8 kw_642 kw_644 kp_7 hyX1_letBarriersOvertake (Nat.le_of_ble_eq_true rfl) (Nat.le_of_ble_eq_true rfl) rfl rfl (Nat.le_of_ble_eq_true rfl) dX1_tick_114 ?_
  refine z_iconst C (zi 0) dX1_tick_117 (by decide) ?_
  refine z_istore_n (lv2 := [(1, .int ((zi 0))), (0, .ref x0)]) C dX1_tick_118 rfl (by decide) rfl ?_
  obtain ⟨o24, ho24, hf⟩ := zbind hf
  refine z_sub [1, 0] rfl ?_
  refine wsX1_tick_119 C hRm _ zfuel (c18, (zi 0)) o24 ho24 ?_
  intro z9 e9
  subst e9
  refine z_aload_n C dX1_tick_150 rfl 0 rfl ?_
  obtain ⟨c25, hc25, hf⟩ := zbind hf
  obtain ⟨kc25, hc25⟩ := zck_ok hc25
  refine z_callVv (As := []) (F0 := 5) (L0 := 116) C (mX1_completeIfAllArrived l D Ca B En C.2.2.2.2.2.2.2.1 o24 N x0  _ hc25) hRm kc25 rfl kw_713 kw_8 kw_710 kw_712 kp_17 hyX1_completeIfAllArrived (Nat.le_of_ble_eq_true rfl) (Nat.le_of_ble_eq_true rfl) rfl rfl (Nat.le_of_ble_eq_true rfl) dX1_tick_151 ?_
  refine z_aload_n C dX1_tick_154 rfl 0 rfl ?_
  refine z_dup C dX1_tick_155 rfl ?_
  obtain ⟨v26, hv26, hf⟩ := zbind hf
  refine gf_RX1_93 C hv26 dX1_tick_156 ?_
  refine z_iconst C (zi 1) dX1_tick_159 (by decide) ?_
  refine z_iadd C dX1_tick_160 ?_
  obtain ⟨σ27, hσ27, hf⟩ := zbind hf
  refine gp_RX1_93 C hσ27 dX1_tick_161 ?_
  cases hf
  exact hq _ _ dX1_tick_164

set_option maxRecDepth 100000 in
set_option maxHeartbeats 4000000 in
theorem wfX1_tick (C : zC p s m args meth c cX1_tick RX1 2 D Ca B En) (hRm : zRm R 5 116 cells slots) (σ : zS) (x0 : Nat) (τ : zS) (hf : fX1_tick σ x0 = some τ) (hq : ∀ (pc : Nat) (lv : List (Nat × Value)), decode cX1_tick pc = .ok (.return_, 1) → zW p l e R s m args below meth c cells slots Q D Ca B 2 τ N pc lv []) : zW p l e R s m args below meth c cells slots Q D Ca B 2 σ N 0 [(0, .ref x0)] [] := by
  unfold fX1_tick at hf
  refine z_aload_n C dX1_tick_0 rfl 0 rfl ?_
  obtain ⟨v1, hv1, hf⟩ := zbind hf
  refine gf_RX1_83 C hv1 dX1_tick_1 ?_
  refine z_if_eq C 37 dX1_tick_4 (by decide) (fun q37 => ?_) (fun q37 => ?_)
  · rw [if_pos q37] at hf
    refine z_sub [0] rfl ?_
    exact wjX1_tick_37 C hRm _ _  _ hf hq
  · rw [if_neg q37] at hf
    refine z_aload_n C dX1_tick_7 rfl 0 rfl ?_
    obtain ⟨v28, hv28, hf⟩ := zbind hf
    refine gf_RX1_93 C hv28 dX1_tick_8 ?_
    refine z_aload_n C dX1_tick_11 rfl 0 rfl ?_
    obtain ⟨v29, hv29, hf⟩ := zbind hf
    refine gf_RX1_83 C hv29 dX1_tick_12 ?_
    obtain ⟨d30, hd30, hf⟩ := zbind hf
    refine z_irem C dX1_tick_15 (znz_ok hd30) ?_
    refine z_if_ne C 37 dX1_tick_16 (by decide) (fun q36 => ?_) (fun q36 => ?_)
    · rw [if_neg q36] at hf
      refine z_sub [0] rfl ?_
      exact wjX1_tick_37 C hRm _ _  _ hf hq
    · rw [if_pos q36] at hf
      refine z_aload_n C dX1_tick_19 rfl 0 rfl ?_
      obtain ⟨v31, hv31, hf⟩ := zbind hf
      refine gf_RX1_37 C hv31 dX1_tick_20 ?_
      obtain ⟨c32, hc32, hf⟩ := zbind hf
      obtain ⟨kc32, hc32⟩ := zck_ok hc32
      refine z_callVi (As := []) (F0 := 5) (L0 := 116) C (mX0_exists l D Ca B En C.2.2.2.2.2.2.2.1 σ N v31  _ hc32) hRm kc32 rfl kw_316 kw_10 kw_313 kw_314 kw_315 hyX0_exists (Nat.le_of_ble_eq_true rfl) (Nat.le_of_ble_eq_true rfl) rfl rfl (Nat.le_of_ble_eq_true rfl) dX1_tick_23 ?_
      refine z_if_ne C 37 dX1_tick_26 (by decide) (fun q35 => ?_) (fun q35 => ?_)
      · rw [if_neg q35] at hf
        refine z_sub [0] rfl ?_
        exact wjX1_tick_37 C hRm _ _  _ hf hq
      · rw [if_pos q35] at hf
        refine z_aload_n C dX1_tick_29 rfl 0 rfl ?_
        refine z_aload_n C dX1_tick_30 rfl 0 rfl ?_
        obtain ⟨v33, hv33, hf⟩ := zbind hf
        refine gf_RX1_89 C hv33 dX1_tick_31 ?_
        obtain ⟨c34, hc34, hf⟩ := zbind hf
        obtain ⟨kc34, hc34⟩ := zck_ok hc34
        refine z_callVv (As := [.int v33]) (F0 := 5) (L0 := 116) C (mX1_startCheckpoint l D Ca B En C.2.2.2.2.2.2.2.1 c32.1 N x0 v33 _ hc34) hRm kc34 rfl kw_612 kw_8 kw_609 kw_610 kw_611 hyX1_startCheckpoint (Nat.le_of_ble_eq_true rfl) (Nat.le_of_ble_eq_true rfl) rfl rfl (Nat.le_of_ble_eq_true rfl) dX1_tick_34 ?_
        refine z_sub [0] rfl ?_
        exact wjX1_tick_37 C hRm _ _  _ hf hq

theorem mX1_tick (l : Launch) (D : va_G) (Ca : Nat → ClassId) (B : Nat) (En : State → Prop) (hE : zEk B En) (σ : zS) (N : Nat) (x0 : Nat) (X : zS) (hf : fX1_tick σ x0 = some X) : zMv l D Ca B En yX1_tick cX1_tick 2 (Option.none : Option Jvm.ClassFile.FieldType) 5 116 [.ref x0] σ N X () :=
  zMet_v (own := RX1) hE (by decide +kernel) rfl (Nat.le_of_ble_eq_true rfl) (fun p e s m args below meth c C hr hRm => wfX1_tick C hRm σ x0 X hf (fun pc lv hd => zfin_v (r := ()) C hr hd))
theorem dX1_ticksToCompletion_0 : decode cX1_ticksToCompletion 0 = .ok (.aload_n 0, 1) := by decide +kernel
theorem dX1_ticksToCompletion_1 : decode cX1_ticksToCompletion 1 = .ok (.getfield 99, 3) := by decide +kernel
theorem dX1_ticksToCompletion_4 : decode cX1_ticksToCompletion 4 = .ok (.istore_n 2, 1) := by decide +kernel
theorem dX1_ticksToCompletion_5 : decode cX1_ticksToCompletion 5 = .ok (.iconst 1, 1) := by decide +kernel
theorem dX1_ticksToCompletion_6 : decode cX1_ticksToCompletion 6 = .ok (.istore_n 3, 1) := by decide +kernel
theorem dX1_ticksToCompletion_7 : decode cX1_ticksToCompletion 7 = .ok (.iload_n 3, 1) := by decide +kernel
theorem dX1_ticksToCompletion_8 : decode cX1_ticksToCompletion 8 = .ok (.iload_n 1, 1) := by decide +kernel
theorem dX1_ticksToCompletion_9 : decode cX1_ticksToCompletion 9 = .ok (.if_icmp .gt 23, 3) := by decide +kernel
theorem dX1_ticksToCompletion_12 : decode cX1_ticksToCompletion 12 = .ok (.aload_n 0, 1) := by decide +kernel
theorem dX1_ticksToCompletion_13 : decode cX1_ticksToCompletion 13 = .ok (.invokevirtual 167, 3) := by decide +kernel
theorem dX1_ticksToCompletion_16 : decode cX1_ticksToCompletion 16 = .ok (.aload_n 0, 1) := by decide +kernel
theorem dX1_ticksToCompletion_17 : decode cX1_ticksToCompletion 17 = .ok (.getfield 99, 3) := by decide +kernel
theorem dX1_ticksToCompletion_20 : decode cX1_ticksToCompletion 20 = .ok (.iload_n 2, 1) := by decide +kernel
theorem dX1_ticksToCompletion_21 : decode cX1_ticksToCompletion 21 = .ok (.if_icmp .le 5, 3) := by decide +kernel
theorem dX1_ticksToCompletion_24 : decode cX1_ticksToCompletion 24 = .ok (.iload_n 3, 1) := by decide +kernel
theorem dX1_ticksToCompletion_25 : decode cX1_ticksToCompletion 25 = .ok (.ireturn, 1) := by decide +kernel
theorem dX1_ticksToCompletion_26 : decode cX1_ticksToCompletion 26 = .ok (.iinc 3 1, 3) := by decide +kernel
theorem dX1_ticksToCompletion_29 : decode cX1_ticksToCompletion 29 = .ok (.goto (-22), 3) := by decide +kernel
theorem dX1_ticksToCompletion_32 : decode cX1_ticksToCompletion 32 = .ok (.iconst (-1), 1) := by decide +kernel
theorem dX1_ticksToCompletion_33 : decode cX1_ticksToCompletion 33 = .ok (.ireturn, 1) := by decide +kernel
theorem hyX1_ticksToCompletion : yX1_ticksToCompletion.cls ≠ "java/lang/invoke/MethodHandle" ∧ yX1_ticksToCompletion.cls ≠ "java/lang/invoke/VarHandle" ∧ (parseMethodDescriptor yX1_ticksToCompletion.desc).map (fun d => d.parameters.length) = some 1 := ⟨by decide +kernel, by decide +kernel, by decide +kernel⟩
set_option maxRecDepth 100000 in
set_option maxHeartbeats 4000000 in
theorem wsX1_ticksToCompletion_7b (C : zC p s m args meth c cX1_ticksToCompletion RX1 4 D Ca B En) (hRm : zRm R 6 137 cells slots) (x0 : Nat) (x1 : Int32) (x2 : Int32) (σ : zS) (u3 : Int32) (y : (zS × Int32) ⊕ ((zS × Int32) ⊕ zS)) (hf : sX1_ticksToCompletion_7b x0 x1 x2 σ u3 = some y) (hk : (∀ z : (zS × Int32), y = .inl z → zW p l e R s m args below meth c cells slots Q D Ca B 4 z.1 N 7 [(0, .ref x0), (1, .int x1), (2, .int x2), (3, .int z.2)] []) ∧ (∀ z : (zS × Int32), y = .inr (.inl z) → zW p l e R s m args below meth c cells slots Q D Ca B 4 z.1 N 24 [(3, .int z.2)] []) ∧ (∀ z : zS, y = .inr (.inr z) → zW p l e R s m args below meth c cells slots Q D Ca B 4 z N 32 [] [])) : zW p l e R s m args below meth c cells slots Q D Ca B 4 σ N 7 [(0, .ref x0), (1, .int x1), (2, .int x2), (3, .int u3)] [] := by
  unfold sX1_ticksToCompletion_7b at hf
  refine z_iload_n C dX1_ticksToCompletion_7 rfl 3 rfl ?_
  refine z_iload_n C dX1_ticksToCompletion_8 rfl 1 rfl ?_
  refine z_icmp_gt C 32 dX1_ticksToCompletion_9 (by decide) (fun q5 => ?_) (fun q5 => ?_)
  · rw [if_pos q5] at hf
    cases hf
    refine z_sub [] rfl ?_
    exact hk.2.2 _ rfl
  · rw [if_neg q5] at hf
    refine z_aload_n C dX1_ticksToCompletion_12 rfl 0 rfl ?_
    obtain ⟨c2, hc2, hf⟩ := zbind hf
    obtain ⟨kc2, hc2⟩ := zck_ok hc2
    refine z_callVv (As := []) (F0 := 6) (L0 := 137) C (mX1_tick l D Ca B En C.2.2.2.2.2.2.2.1 σ N x0  _ hc2) hRm kc2 rfl kw_608 kw_8 kw_752 kw_606 kw_607 hyX1_tick (Nat.le_of_ble_eq_true rfl) (Nat.le_of_ble_eq_true rfl) rfl rfl (Nat.le_of_ble_eq_true rfl) dX1_ticksToCompletion_13 ?_
    refine z_aload_n C dX1_ticksToCompletion_16 rfl 0 rfl ?_
    obtain ⟨v3, hv3, hf⟩ := zbind hf
    refine gf_RX1_99 C hv3 dX1_ticksToCompletion_17 ?_
    refine z_iload_n C dX1_ticksToCompletion_20 rfl 2 rfl ?_
    refine z_icmp_le C 26 dX1_ticksToCompletion_21 (by decide) (fun q4 => ?_) (fun q4 => ?_)
    · rw [if_pos q4] at hf
      refine z_iinc (lv2 := [(3, .int (u3 + (zi 1))), (0, .ref x0), (1, .int x1), (2, .int x2)]) C (u3 + (zi 1)) dX1_ticksToCompletion_26 3 rfl rfl (by decide) rfl ?_
      refine z_goto C 7 dX1_ticksToCompletion_29 (by decide) ?_
      cases hf
      refine z_sub [1, 2, 3, 0] rfl ?_
      exact hk.1 _ rfl
    · rw [if_neg q4] at hf
      cases hf
      refine z_sub [3] rfl ?_
      exact hk.2.1 _ rfl

theorem wsX1_ticksToCompletion_7 (C : zC p s m args meth c cX1_ticksToCompletion RX1 4 D Ca B En) (hRm : zRm R 6 137 cells slots) (x0 : Nat) (x1 : Int32) (x2 : Int32) (n : Nat) (z : (zS × Int32)) (x : ((zS × Int32) ⊕ zS)) (hf : zloop (sX1_ticksToCompletion_7 x0 x1 x2) n z = some x) (hk : (∀ o : (zS × Int32), x = (.inl o) → zW p l e R s m args below meth c cells slots Q D Ca B 4 o.1 N 24 [(3, .int o.2)] []) ∧ (∀ o : zS, x = (.inr o) → zW p l e R s m args below meth c cells slots Q D Ca B 4 o N 32 [] [])) : zW p l e R s m args below meth c cells slots Q D Ca B 4 z.1 N 7 [(0, .ref x0), (1, .int x1), (2, .int x2), (3, .int z.2)] [] := by
  refine zloop_W (P := fun z : (zS × Int32) => zW p l e R s m args below meth c cells slots Q D Ca B 4 z.1 N 7 [(0, .ref x0), (1, .int x1), (2, .int x2), (3, .int z.2)] []) (K := fun x : ((zS × Int32) ⊕ zS) => (∀ o : (zS × Int32), x = (.inl o) → zW p l e R s m args below meth c cells slots Q D Ca B 4 o.1 N 24 [(3, .int o.2)] []) ∧ (∀ o : zS, x = (.inr o) → zW p l e R s m args below meth c cells slots Q D Ca B 4 o N 32 [] [])) ?_ n z x hf hk
  intro z y hy h1 h2
  refine wsX1_ticksToCompletion_7b C hRm x0 x1 x2 z.1 z.2 y hy ⟨fun z2 e => h1 z2 e, fun o e => (h2 _ e).1 o rfl, fun o e => (h2 _ e).2 o rfl⟩
set_option maxRecDepth 100000 in
set_option maxHeartbeats 4000000 in
theorem wfX1_ticksToCompletion (C : zC p s m args meth c cX1_ticksToCompletion RX1 4 D Ca B En) (hRm : zRm R 6 137 cells slots) (σ : zS) (x0 : Nat) (x1 : Int32) (τ : zS) (r : Int32) (hf : fX1_ticksToCompletion σ x0 x1 = some (τ, r)) (hq : ∀ (pc : Nat) (lv : List (Nat × Value)), decode cX1_ticksToCompletion pc = .ok (.ireturn, 1) → zW p l e R s m args below meth c cells slots Q D Ca B 4 τ N pc lv [.int r]) : zW p l e R s m args below meth c cells slots Q D Ca B 4 σ N 0 [(0, .ref x0), (1, .int x1)] [] := by
  unfold fX1_ticksToCompletion at hf
  refine z_aload_n C dX1_ticksToCompletion_0 rfl 0 rfl ?_
  obtain ⟨v1, hv1, hf⟩ := zbind hf
  refine gf_RX1_99 C hv1 dX1_ticksToCompletion_1 ?_
  refine z_istore_n (lv2 := [(2, .int v1), (0, .ref x0), (1, .int x1)]) C dX1_ticksToCompletion_4 rfl (by decide) rfl ?_
  refine z_iconst C (zi 1) dX1_ticksToCompletion_5 (by decide) ?_
  refine z_istore_n (lv2 := [(3, .int ((zi 1))), (2, .int v1), (0, .ref x0), (1, .int x1)]) C dX1_ticksToCompletion_6 rfl (by decide) rfl ?_
  obtain ⟨o6, ho6, hf⟩ := zbind hf
  refine z_sub [2, 3, 1, 0] rfl ?_
  refine wsX1_ticksToCompletion_7 C hRm _ _ _ zfuel (σ, (zi 1)) o6 ho6 ⟨?_, ?_⟩
  · intro z7 e9
    subst e9
    dsimp only at hf
    refine z_iload_n C dX1_ticksToCompletion_24 rfl 0 rfl ?_
    cases hf
    exact hq _ _ dX1_ticksToCompletion_25
  · intro z8 e9
    subst e9
    dsimp only at hf
    refine z_iconst C (zi (-1)) dX1_ticksToCompletion_32 (by decide) ?_
    cases hf
    exact hq _ _ dX1_ticksToCompletion_33

theorem mX1_ticksToCompletion (l : Launch) (D : va_G) (Ca : Nat → ClassId) (B : Nat) (En : State → Prop) (hE : zEk B En) (σ : zS) (N : Nat) (x0 : Nat) (x1 : Int32) (X : zS × Int32) (hf : fX1_ticksToCompletion σ x0 x1 = some X) : zMi l D Ca B En yX1_ticksToCompletion cX1_ticksToCompletion 4 (Option.some Jvm.ClassFile.FieldType.int) 6 137 [.ref x0, .int x1] σ N X.1 X.2 :=
  zMet_i (own := RX1) hE (by decide +kernel) rfl (Nat.le_of_ble_eq_true rfl) (fun p e s m args below meth c C hr hRm => wfX1_ticksToCompletion C hRm σ x0 x1 X.1 X.2 hf (fun pc lv hd => zfin_i C hr hd))
theorem dX1_recoverWith_0 : decode cX1_recoverWith 0 = .ok (.aload_n 0, 1) := by decide +kernel
theorem dX1_recoverWith_1 : decode cX1_recoverWith 1 = .ok (.getfield 41, 3) := by decide +kernel
theorem dX1_recoverWith_4 : decode cX1_recoverWith 4 = .ok (.invokevirtual 129, 3) := by decide +kernel
theorem dX1_recoverWith_7 : decode cX1_recoverWith 7 = .ok (.ifCond .eq 19, 3) := by decide +kernel
theorem dX1_recoverWith_10 : decode cX1_recoverWith 10 = .ok (.aload_n 0, 1) := by decide +kernel
theorem dX1_recoverWith_11 : decode cX1_recoverWith 11 = .ok (.getfield 41, 3) := by decide +kernel
theorem dX1_recoverWith_14 : decode cX1_recoverWith 14 = .ok (.aload_n 0, 1) := by decide +kernel
theorem dX1_recoverWith_15 : decode cX1_recoverWith 15 = .ok (.getfield 54, 3) := by decide +kernel
theorem dX1_recoverWith_18 : decode cX1_recoverWith 18 = .ok (.aload_n 0, 1) := by decide +kernel
theorem dX1_recoverWith_19 : decode cX1_recoverWith 19 = .ok (.getfield 70, 3) := by decide +kernel
theorem dX1_recoverWith_22 : decode cX1_recoverWith 22 = .ok (.iload_n 1, 1) := by decide +kernel
theorem dX1_recoverWith_23 : decode cX1_recoverWith 23 = .ok (.invokevirtual 290, 3) := by decide +kernel
theorem dX1_recoverWith_26 : decode cX1_recoverWith 26 = .ok (.aload_n 0, 1) := by decide +kernel
theorem dX1_recoverWith_27 : decode cX1_recoverWith 27 = .ok (.iload_n 1, 1) := by decide +kernel
theorem dX1_recoverWith_28 : decode cX1_recoverWith 28 = .ok (.putfield 70, 3) := by decide +kernel
theorem dX1_recoverWith_31 : decode cX1_recoverWith 31 = .ok (.aload_n 0, 1) := by decide +kernel
theorem dX1_recoverWith_32 : decode cX1_recoverWith 32 = .ok (.invokevirtual 116, 3) := by decide +kernel
theorem dX1_recoverWith_35 : decode cX1_recoverWith 35 = .ok (.return_, 1) := by decide +kernel
theorem hyX1_recoverWith : yX1_recoverWith.cls ≠ "java/lang/invoke/MethodHandle" ∧ yX1_recoverWith.cls ≠ "java/lang/invoke/VarHandle" ∧ (parseMethodDescriptor yX1_recoverWith.desc).map (fun d => d.parameters.length) = some 1 := ⟨by decide +kernel, by decide +kernel, by decide +kernel⟩
set_option maxRecDepth 100000 in
set_option maxHeartbeats 4000000 in
theorem wjX1_recoverWith_26 (C : zC p s m args meth c cX1_recoverWith RX1 2 D Ca B En) (hRm : zRm R 4 129 cells slots) (σ : zS) (x0 : Nat) (x1 : Int32)  (τ : zS) (hf : jX1_recoverWith_26 σ x0 x1  = some τ) (hq : ∀ (pc : Nat) (lv : List (Nat × Value)), decode cX1_recoverWith pc = .ok (.return_, 1) → zW p l e R s m args below meth c cells slots Q D Ca B 2 τ N pc lv []) : zW p l e R s m args below meth c cells slots Q D Ca B 2 σ N 26 [(0, .ref x0), (1, .int x1)] [] := by
  unfold jX1_recoverWith_26 at hf
  refine z_aload_n C dX1_recoverWith_26 rfl 0 rfl ?_
  refine z_iload_n C dX1_recoverWith_27 rfl 1 rfl ?_
  obtain ⟨σ3, hσ3, hf⟩ := zbind hf
  refine gp_RX1_70 C hσ3 dX1_recoverWith_28 ?_
  refine z_aload_n C dX1_recoverWith_31 rfl 0 rfl ?_
  obtain ⟨c4, hc4, hf⟩ := zbind hf
  obtain ⟨kc4, hc4⟩ := zck_ok hc4
  refine z_callVv (As := []) (F0 := 4) (L0 := 129) C (mX1_recover l D Ca B En C.2.2.2.2.2.2.2.1 σ3 N x0  _ hc4) hRm kc4 rfl kw_308 kw_8 kw_305 kw_306 kw_307 hyX1_recover (Nat.le_of_ble_eq_true rfl) (Nat.le_of_ble_eq_true rfl) rfl rfl (Nat.le_of_ble_eq_true rfl) dX1_recoverWith_32 ?_
  cases hf
  exact hq _ _ dX1_recoverWith_35

set_option maxRecDepth 100000 in
set_option maxHeartbeats 4000000 in
theorem wfX1_recoverWith (C : zC p s m args meth c cX1_recoverWith RX1 2 D Ca B En) (hRm : zRm R 4 129 cells slots) (σ : zS) (x0 : Nat) (x1 : Int32) (τ : zS) (hf : fX1_recoverWith σ x0 x1 = some τ) (hq : ∀ (pc : Nat) (lv : List (Nat × Value)), decode cX1_recoverWith pc = .ok (.return_, 1) → zW p l e R s m args below meth c cells slots Q D Ca B 2 τ N pc lv []) : zW p l e R s m args below meth c cells slots Q D Ca B 2 σ N 0 [(0, .ref x0), (1, .int x1)] [] := by
  unfold fX1_recoverWith at hf
  refine z_aload_n C dX1_recoverWith_0 rfl 0 rfl ?_
  obtain ⟨v1, hv1, hf⟩ := zbind hf
  refine gf_RX1_41 C hv1 dX1_recoverWith_1 ?_
  obtain ⟨c2, hc2, hf⟩ := zbind hf
  obtain ⟨kc2, hc2⟩ := zck_ok hc2
  refine z_callVi (As := []) (F0 := 4) (L0 := 129) C (mX0_exists l D Ca B En C.2.2.2.2.2.2.2.1 σ N v1  _ hc2) hRm kc2 rfl kw_316 kw_10 kw_313 kw_314 kw_315 hyX0_exists (Nat.le_of_ble_eq_true rfl) (Nat.le_of_ble_eq_true rfl) rfl rfl (Nat.le_of_ble_eq_true rfl) dX1_recoverWith_4 ?_
  refine z_if_eq C 26 dX1_recoverWith_7 (by decide) (fun q9 => ?_) (fun q9 => ?_)
  · rw [if_pos q9] at hf
    refine z_sub [0, 1] rfl ?_
    exact wjX1_recoverWith_26 C hRm _ _ _  _ hf hq
  · rw [if_neg q9] at hf
    refine z_aload_n C dX1_recoverWith_10 rfl 0 rfl ?_
    obtain ⟨v5, hv5, hf⟩ := zbind hf
    refine gf_RX1_41 C hv5 dX1_recoverWith_11 ?_
    refine z_aload_n C dX1_recoverWith_14 rfl 0 rfl ?_
    obtain ⟨v6, hv6, hf⟩ := zbind hf
    refine gf_RX1_54 C hv6 dX1_recoverWith_15 ?_
    refine z_aload_n C dX1_recoverWith_18 rfl 0 rfl ?_
    obtain ⟨v7, hv7, hf⟩ := zbind hf
    refine gf_RX1_70 C hv7 dX1_recoverWith_19 ?_
    refine z_iload_n C dX1_recoverWith_22 rfl 1 rfl ?_
    obtain ⟨c8, hc8, hf⟩ := zbind hf
    obtain ⟨kc8, hc8⟩ := zck_ok hc8
    refine z_callVv (As := [.ref v6, .int v7, .int x1]) (F0 := 4) (L0 := 129) C (mX0_spread l D Ca B En C.2.2.2.2.2.2.2.1 c2.1 N v5 v6 v7 x1 _ hc8) hRm kc8 rfl kw_1202 kw_10 kw_1199 kw_1200 kw_1201 hyX0_spread (Nat.le_of_ble_eq_true rfl) (Nat.le_of_ble_eq_true rfl) rfl rfl (Nat.le_of_ble_eq_true rfl) dX1_recoverWith_23 ?_
    refine z_sub [0, 1] rfl ?_
    exact wjX1_recoverWith_26 C hRm _ _ _  _ hf hq

theorem mX1_recoverWith (l : Launch) (D : va_G) (Ca : Nat → ClassId) (B : Nat) (En : State → Prop) (hE : zEk B En) (σ : zS) (N : Nat) (x0 : Nat) (x1 : Int32) (X : zS) (hf : fX1_recoverWith σ x0 x1 = some X) : zMv l D Ca B En yX1_recoverWith cX1_recoverWith 2 (Option.none : Option Jvm.ClassFile.FieldType) 4 129 [.ref x0, .int x1] σ N X () :=
  zMet_v (own := RX1) hE (by decide +kernel) rfl (Nat.le_of_ble_eq_true rfl) (fun p e s m args below meth c C hr hRm => wfX1_recoverWith C hRm σ x0 x1 X hf (fun pc lv hd => zfin_v (r := ()) C hr hd))
theorem dX1_recordsTo_0 : decode cX1_recordsTo 0 = .ok (.iconst 0, 1) := by decide +kernel
theorem dX1_recordsTo_1 : decode cX1_recordsTo 1 = .ok (.istore_n 2, 1) := by decide +kernel
theorem dX1_recordsTo_2 : decode cX1_recordsTo 2 = .ok (.iconst 0, 1) := by decide +kernel
theorem dX1_recordsTo_3 : decode cX1_recordsTo 3 = .ok (.istore_n 3, 1) := by decide +kernel
theorem dX1_recordsTo_4 : decode cX1_recordsTo 4 = .ok (.iload_n 3, 1) := by decide +kernel
theorem dX1_recordsTo_5 : decode cX1_recordsTo 5 = .ok (.aload_n 0, 1) := by decide +kernel
theorem dX1_recordsTo_6 : decode cX1_recordsTo 6 = .ok (.getfield 54, 3) := by decide +kernel
theorem dX1_recordsTo_9 : decode cX1_recordsTo 9 = .ok (.getfield 140, 3) := by decide +kernel
theorem dX1_recordsTo_12 : decode cX1_recordsTo 12 = .ok (.if_icmp .ge 24, 3) := by decide +kernel
theorem dX1_recordsTo_15 : decode cX1_recordsTo 15 = .ok (.iload_n 2, 1) := by decide +kernel
theorem dX1_recordsTo_16 : decode cX1_recordsTo 16 = .ok (.aload_n 0, 1) := by decide +kernel
theorem dX1_recordsTo_17 : decode cX1_recordsTo 17 = .ok (.getfield 30, 3) := by decide +kernel
theorem dX1_recordsTo_20 : decode cX1_recordsTo 20 = .ok (.iload_n 1, 1) := by decide +kernel
theorem dX1_recordsTo_21 : decode cX1_recordsTo 21 = .ok (.iload_n 3, 1) := by decide +kernel
theorem dX1_recordsTo_22 : decode cX1_recordsTo 22 = .ok (.invokestatic 190, 3) := by decide +kernel
theorem dX1_recordsTo_25 : decode cX1_recordsTo 25 = .ok (.invokevirtual 194, 3) := by decide +kernel
theorem dX1_recordsTo_28 : decode cX1_recordsTo 28 = .ok (.iadd, 1) := by decide +kernel
theorem dX1_recordsTo_29 : decode cX1_recordsTo 29 = .ok (.istore_n 2, 1) := by decide +kernel
theorem dX1_recordsTo_30 : decode cX1_recordsTo 30 = .ok (.iinc 3 1, 3) := by decide +kernel
theorem dX1_recordsTo_33 : decode cX1_recordsTo 33 = .ok (.goto (-29), 3) := by decide +kernel
theorem dX1_recordsTo_36 : decode cX1_recordsTo 36 = .ok (.iload_n 2, 1) := by decide +kernel
theorem dX1_recordsTo_37 : decode cX1_recordsTo 37 = .ok (.ireturn, 1) := by decide +kernel
theorem hyX1_recordsTo : yX1_recordsTo.cls ≠ "java/lang/invoke/MethodHandle" ∧ yX1_recordsTo.cls ≠ "java/lang/invoke/VarHandle" ∧ (parseMethodDescriptor yX1_recordsTo.desc).map (fun d => d.parameters.length) = some 1 := ⟨by decide +kernel, by decide +kernel, by decide +kernel⟩
set_option maxRecDepth 100000 in
set_option maxHeartbeats 4000000 in
theorem wsX1_recordsTo_4b (C : zC p s m args meth c cX1_recordsTo RX1 4 D Ca B En) (hRm : zRm R 2 41 cells slots) (x0 : Nat) (x1 : Int32) (σ : zS) (u2 : Int32) (u3 : Int32) (y : (zS × Int32 × Int32) ⊕ (zS × Int32)) (hf : sX1_recordsTo_4b x0 x1 σ u2 u3 = some y) (hk : (∀ z : (zS × Int32 × Int32), y = .inl z → zW p l e R s m args below meth c cells slots Q D Ca B 4 z.1 N 4 [(0, .ref x0), (1, .int x1), (2, .int z.2.1), (3, .int z.2.2)] []) ∧ (∀ z : (zS × Int32), y = .inr z → zW p l e R s m args below meth c cells slots Q D Ca B 4 z.1 N 36 [(2, .int z.2)] [])) : zW p l e R s m args below meth c cells slots Q D Ca B 4 σ N 4 [(0, .ref x0), (1, .int x1), (2, .int u2), (3, .int u3)] [] := by
  unfold sX1_recordsTo_4b at hf
  refine z_iload_n C dX1_recordsTo_4 rfl 3 rfl ?_
  refine z_aload_n C dX1_recordsTo_5 rfl 0 rfl ?_
  obtain ⟨v1, hv1, hf⟩ := zbind hf
  refine gf_RX1_54 C hv1 dX1_recordsTo_6 ?_
  obtain ⟨v2, hv2, hf⟩ := zbind hf
  refine gf_RX1_140 C hv2 dX1_recordsTo_9 ?_
  refine z_icmp_ge C 36 dX1_recordsTo_12 (by decide) (fun q6 => ?_) (fun q6 => ?_)
  · rw [if_pos q6] at hf
    cases hf
    refine z_sub [2] rfl ?_
    exact hk.2 _ rfl
  · rw [if_neg q6] at hf
    refine z_iload_n C dX1_recordsTo_15 rfl 2 rfl ?_
    refine z_aload_n C dX1_recordsTo_16 rfl 0 rfl ?_
    obtain ⟨v3, hv3, hf⟩ := zbind hf
    refine gf_RX1_30 C hv3 dX1_recordsTo_17 ?_
    refine z_iload_n C dX1_recordsTo_20 rfl 1 rfl ?_
    refine z_iload_n C dX1_recordsTo_21 rfl 3 rfl ?_
    obtain ⟨c4, hc4, hf⟩ := zbind hf
    refine z_callSNi (host := "BarrierFlow") (As := [.int x1, .int u3]) (F0 := 2) (L0 := 41) C (mX9_channel l D Ca B En C.2.2.2.2.2.2.2.1 σ N x1 u3 _ hc4) hRm kw_629 kw_1 (by decide) kw_628 hyX9_channel (Nat.le_of_ble_eq_true rfl) (Nat.le_of_ble_eq_true rfl) rfl rfl (Nat.le_of_ble_eq_true rfl) dX1_recordsTo_22 ?_
    obtain ⟨c5, hc5, hf⟩ := zbind hf
    obtain ⟨kc5, hc5⟩ := zck_ok hc5
    refine z_callVi (As := [.int c4.2]) (F0 := 2) (L0 := 41) C (mX3_sizeOf l D Ca B En C.2.2.2.2.2.2.2.1 c4.1 N v3 c4.2 _ hc5) hRm kc5 rfl kw_340 kw_9 kw_337 kw_338 kw_339 hyX3_sizeOf (Nat.le_of_ble_eq_true rfl) (Nat.le_of_ble_eq_true rfl) rfl rfl (Nat.le_of_ble_eq_true rfl) dX1_recordsTo_25 ?_
    refine z_iadd C dX1_recordsTo_28 ?_
    refine z_istore_n (lv2 := [(2, .int (u2 + c5.2)), (0, .ref x0), (1, .int x1), (3, .int u3)]) C dX1_recordsTo_29 rfl (by decide) rfl ?_
    refine z_iinc (lv2 := [(3, .int (u3 + (zi 1))), (2, .int (u2 + c5.2)), (0, .ref x0), (1, .int x1)]) C (u3 + (zi 1)) dX1_recordsTo_30 3 rfl rfl (by decide) rfl ?_
    refine z_goto C 4 dX1_recordsTo_33 (by decide) ?_
    cases hf
    refine z_sub [2, 3, 1, 0] rfl ?_
    exact hk.1 _ rfl

theorem wsX1_recordsTo_4 (C : zC p s m args meth c cX1_recordsTo RX1 4 D Ca B En) (hRm : zRm R 2 41 cells slots) (x0 : Nat) (x1 : Int32) (n : Nat) (z : (zS × Int32 × Int32)) (x : (zS × Int32)) (hf : zloop (sX1_recordsTo_4 x0 x1) n z = some x) (hk : (∀ o : (zS × Int32), x = o → zW p l e R s m args below meth c cells slots Q D Ca B 4 o.1 N 36 [(2, .int o.2)] [])) : zW p l e R s m args below meth c cells slots Q D Ca B 4 z.1 N 4 [(0, .ref x0), (1, .int x1), (2, .int z.2.1), (3, .int z.2.2)] [] := by
  refine zloop_W (P := fun z : (zS × Int32 × Int32) => zW p l e R s m args below meth c cells slots Q D Ca B 4 z.1 N 4 [(0, .ref x0), (1, .int x1), (2, .int z.2.1), (3, .int z.2.2)] []) (K := fun x : (zS × Int32) => (∀ o : (zS × Int32), x = o → zW p l e R s m args below meth c cells slots Q D Ca B 4 o.1 N 36 [(2, .int o.2)] [])) ?_ n z x hf hk
  intro z y hy h1 h2
  refine wsX1_recordsTo_4b C hRm x0 x1 z.1 z.2.1 z.2.2 y hy ⟨fun z2 e => h1 z2 e, fun o e => (h2 _ e) o rfl⟩
set_option maxRecDepth 100000 in
set_option maxHeartbeats 4000000 in
theorem wfX1_recordsTo (C : zC p s m args meth c cX1_recordsTo RX1 4 D Ca B En) (hRm : zRm R 2 41 cells slots) (σ : zS) (x0 : Nat) (x1 : Int32) (τ : zS) (r : Int32) (hf : fX1_recordsTo σ x0 x1 = some (τ, r)) (hq : ∀ (pc : Nat) (lv : List (Nat × Value)), decode cX1_recordsTo pc = .ok (.ireturn, 1) → zW p l e R s m args below meth c cells slots Q D Ca B 4 τ N pc lv [.int r]) : zW p l e R s m args below meth c cells slots Q D Ca B 4 σ N 0 [(0, .ref x0), (1, .int x1)] [] := by
  unfold fX1_recordsTo at hf
  refine z_iconst C (zi 0) dX1_recordsTo_0 (by decide) ?_
  refine z_istore_n (lv2 := [(2, .int ((zi 0))), (0, .ref x0), (1, .int x1)]) C dX1_recordsTo_1 rfl (by decide) rfl ?_
  refine z_iconst C (zi 0) dX1_recordsTo_2 (by decide) ?_
  refine z_istore_n (lv2 := [(3, .int ((zi 0))), (2, .int ((zi 0))), (0, .ref x0), (1, .int x1)]) C dX1_recordsTo_3 rfl (by decide) rfl ?_
  obtain ⟨o7, ho7, hf⟩ := zbind hf
  refine z_sub [2, 3, 1, 0] rfl ?_
  refine wsX1_recordsTo_4 C hRm _ _ zfuel (σ, (zi 0), (zi 0)) o7 ho7 ?_
  intro z9 e9
  subst e9
  refine z_iload_n C dX1_recordsTo_36 rfl 0 rfl ?_
  cases hf
  exact hq _ _ dX1_recordsTo_37

theorem mX1_recordsTo (l : Launch) (D : va_G) (Ca : Nat → ClassId) (B : Nat) (En : State → Prop) (hE : zEk B En) (σ : zS) (N : Nat) (x0 : Nat) (x1 : Int32) (X : zS × Int32) (hf : fX1_recordsTo σ x0 x1 = some X) : zMi l D Ca B En yX1_recordsTo cX1_recordsTo 4 (Option.some Jvm.ClassFile.FieldType.int) 2 41 [.ref x0, .int x1] σ N X.1 X.2 :=
  zMet_i (own := RX1) hE (by decide +kernel) rfl (Nat.le_of_ble_eq_true rfl) (fun p e s m args below meth c C hr hRm => wfX1_recordsTo C hRm σ x0 x1 X.1 X.2 hf (fun pc lv hd => zfin_i C hr hd))
theorem dX1_resultsFrom_0 : decode cX1_resultsFrom 0 = .ok (.iconst 0, 1) := by decide +kernel
theorem dX1_resultsFrom_1 : decode cX1_resultsFrom 1 = .ok (.istore_n 2, 1) := by decide +kernel
theorem dX1_resultsFrom_2 : decode cX1_resultsFrom 2 = .ok (.iconst 0, 1) := by decide +kernel
theorem dX1_resultsFrom_3 : decode cX1_resultsFrom 3 = .ok (.istore_n 3, 1) := by decide +kernel
theorem dX1_resultsFrom_4 : decode cX1_resultsFrom 4 = .ok (.iload_n 3, 1) := by decide +kernel
theorem dX1_resultsFrom_5 : decode cX1_resultsFrom 5 = .ok (.aload_n 0, 1) := by decide +kernel
theorem dX1_resultsFrom_6 : decode cX1_resultsFrom 6 = .ok (.getfield 54, 3) := by decide +kernel
theorem dX1_resultsFrom_9 : decode cX1_resultsFrom 9 = .ok (.getfield 161, 3) := by decide +kernel
theorem dX1_resultsFrom_12 : decode cX1_resultsFrom 12 = .ok (.if_icmp .ge 26, 3) := by decide +kernel
theorem dX1_resultsFrom_15 : decode cX1_resultsFrom 15 = .ok (.iload_n 2, 1) := by decide +kernel
theorem dX1_resultsFrom_16 : decode cX1_resultsFrom 16 = .ok (.aload_n 0, 1) := by decide +kernel
theorem dX1_resultsFrom_17 : decode cX1_resultsFrom 17 = .ok (.getfield 30, 3) := by decide +kernel
theorem dX1_resultsFrom_20 : decode cX1_resultsFrom 20 = .ok (.iconst 4, 1) := by decide +kernel
theorem dX1_resultsFrom_21 : decode cX1_resultsFrom 21 = .ok (.iload_n 3, 1) := by decide +kernel
theorem dX1_resultsFrom_22 : decode cX1_resultsFrom 22 = .ok (.iadd, 1) := by decide +kernel
theorem dX1_resultsFrom_23 : decode cX1_resultsFrom 23 = .ok (.iload_n 1, 1) := by decide +kernel
theorem dX1_resultsFrom_24 : decode cX1_resultsFrom 24 = .ok (.invokestatic 190, 3) := by decide +kernel
theorem dX1_resultsFrom_27 : decode cX1_resultsFrom 27 = .ok (.invokevirtual 194, 3) := by decide +kernel
theorem dX1_resultsFrom_30 : decode cX1_resultsFrom 30 = .ok (.iadd, 1) := by decide +kernel
theorem dX1_resultsFrom_31 : decode cX1_resultsFrom 31 = .ok (.istore_n 2, 1) := by decide +kernel
theorem dX1_resultsFrom_32 : decode cX1_resultsFrom 32 = .ok (.iinc 3 1, 3) := by decide +kernel
theorem dX1_resultsFrom_35 : decode cX1_resultsFrom 35 = .ok (.goto (-31), 3) := by decide +kernel
theorem dX1_resultsFrom_38 : decode cX1_resultsFrom 38 = .ok (.iload_n 2, 1) := by decide +kernel
theorem dX1_resultsFrom_39 : decode cX1_resultsFrom 39 = .ok (.ireturn, 1) := by decide +kernel
theorem hyX1_resultsFrom : yX1_resultsFrom.cls ≠ "java/lang/invoke/MethodHandle" ∧ yX1_resultsFrom.cls ≠ "java/lang/invoke/VarHandle" ∧ (parseMethodDescriptor yX1_resultsFrom.desc).map (fun d => d.parameters.length) = some 1 := ⟨by decide +kernel, by decide +kernel, by decide +kernel⟩
set_option maxRecDepth 100000 in
set_option maxHeartbeats 4000000 in
theorem wsX1_resultsFrom_4b (C : zC p s m args meth c cX1_resultsFrom RX1 4 D Ca B En) (hRm : zRm R 2 41 cells slots) (x0 : Nat) (x1 : Int32) (σ : zS) (u2 : Int32) (u3 : Int32) (y : (zS × Int32 × Int32) ⊕ (zS × Int32)) (hf : sX1_resultsFrom_4b x0 x1 σ u2 u3 = some y) (hk : (∀ z : (zS × Int32 × Int32), y = .inl z → zW p l e R s m args below meth c cells slots Q D Ca B 4 z.1 N 4 [(0, .ref x0), (1, .int x1), (2, .int z.2.1), (3, .int z.2.2)] []) ∧ (∀ z : (zS × Int32), y = .inr z → zW p l e R s m args below meth c cells slots Q D Ca B 4 z.1 N 38 [(2, .int z.2)] [])) : zW p l e R s m args below meth c cells slots Q D Ca B 4 σ N 4 [(0, .ref x0), (1, .int x1), (2, .int u2), (3, .int u3)] [] := by
  unfold sX1_resultsFrom_4b at hf
  refine z_iload_n C dX1_resultsFrom_4 rfl 3 rfl ?_
  refine z_aload_n C dX1_resultsFrom_5 rfl 0 rfl ?_
  obtain ⟨v1, hv1, hf⟩ := zbind hf
  refine gf_RX1_54 C hv1 dX1_resultsFrom_6 ?_
  obtain ⟨v2, hv2, hf⟩ := zbind hf
  refine gf_RX1_161 C hv2 dX1_resultsFrom_9 ?_
  refine z_icmp_ge C 38 dX1_resultsFrom_12 (by decide) (fun q6 => ?_) (fun q6 => ?_)
  · rw [if_pos q6] at hf
    cases hf
    refine z_sub [2] rfl ?_
    exact hk.2 _ rfl
  · rw [if_neg q6] at hf
    refine z_iload_n C dX1_resultsFrom_15 rfl 2 rfl ?_
    refine z_aload_n C dX1_resultsFrom_16 rfl 0 rfl ?_
    obtain ⟨v3, hv3, hf⟩ := zbind hf
    refine gf_RX1_30 C hv3 dX1_resultsFrom_17 ?_
    refine z_iconst C (zi 4) dX1_resultsFrom_20 (by decide) ?_
    refine z_iload_n C dX1_resultsFrom_21 rfl 3 rfl ?_
    refine z_iadd C dX1_resultsFrom_22 ?_
    refine z_iload_n C dX1_resultsFrom_23 rfl 1 rfl ?_
    obtain ⟨c4, hc4, hf⟩ := zbind hf
    refine z_callSNi (host := "BarrierFlow") (As := [.int (((zi 4)) + u3), .int x1]) (F0 := 2) (L0 := 41) C (mX9_channel l D Ca B En C.2.2.2.2.2.2.2.1 σ N (((zi 4)) + u3) x1 _ hc4) hRm kw_629 kw_1 (by decide) kw_628 hyX9_channel (Nat.le_of_ble_eq_true rfl) (Nat.le_of_ble_eq_true rfl) rfl rfl (Nat.le_of_ble_eq_true rfl) dX1_resultsFrom_24 ?_
    obtain ⟨c5, hc5, hf⟩ := zbind hf
    obtain ⟨kc5, hc5⟩ := zck_ok hc5
    refine z_callVi (As := [.int c4.2]) (F0 := 2) (L0 := 41) C (mX3_sizeOf l D Ca B En C.2.2.2.2.2.2.2.1 c4.1 N v3 c4.2 _ hc5) hRm kc5 rfl kw_340 kw_9 kw_337 kw_338 kw_339 hyX3_sizeOf (Nat.le_of_ble_eq_true rfl) (Nat.le_of_ble_eq_true rfl) rfl rfl (Nat.le_of_ble_eq_true rfl) dX1_resultsFrom_27 ?_
    refine z_iadd C dX1_resultsFrom_30 ?_
    refine z_istore_n (lv2 := [(2, .int (u2 + c5.2)), (0, .ref x0), (1, .int x1), (3, .int u3)]) C dX1_resultsFrom_31 rfl (by decide) rfl ?_
    refine z_iinc (lv2 := [(3, .int (u3 + (zi 1))), (2, .int (u2 + c5.2)), (0, .ref x0), (1, .int x1)]) C (u3 + (zi 1)) dX1_resultsFrom_32 3 rfl rfl (by decide) rfl ?_
    refine z_goto C 4 dX1_resultsFrom_35 (by decide) ?_
    cases hf
    refine z_sub [2, 3, 1, 0] rfl ?_
    exact hk.1 _ rfl

theorem wsX1_resultsFrom_4 (C : zC p s m args meth c cX1_resultsFrom RX1 4 D Ca B En) (hRm : zRm R 2 41 cells slots) (x0 : Nat) (x1 : Int32) (n : Nat) (z : (zS × Int32 × Int32)) (x : (zS × Int32)) (hf : zloop (sX1_resultsFrom_4 x0 x1) n z = some x) (hk : (∀ o : (zS × Int32), x = o → zW p l e R s m args below meth c cells slots Q D Ca B 4 o.1 N 38 [(2, .int o.2)] [])) : zW p l e R s m args below meth c cells slots Q D Ca B 4 z.1 N 4 [(0, .ref x0), (1, .int x1), (2, .int z.2.1), (3, .int z.2.2)] [] := by
  refine zloop_W (P := fun z : (zS × Int32 × Int32) => zW p l e R s m args below meth c cells slots Q D Ca B 4 z.1 N 4 [(0, .ref x0), (1, .int x1), (2, .int z.2.1), (3, .int z.2.2)] []) (K := fun x : (zS × Int32) => (∀ o : (zS × Int32), x = o → zW p l e R s m args below meth c cells slots Q D Ca B 4 o.1 N 38 [(2, .int o.2)] [])) ?_ n z x hf hk
  intro z y hy h1 h2
  refine wsX1_resultsFrom_4b C hRm x0 x1 z.1 z.2.1 z.2.2 y hy ⟨fun z2 e => h1 z2 e, fun o e => (h2 _ e) o rfl⟩
set_option maxRecDepth 100000 in
set_option maxHeartbeats 4000000 in
theorem wfX1_resultsFrom (C : zC p s m args meth c cX1_resultsFrom RX1 4 D Ca B En) (hRm : zRm R 2 41 cells slots) (σ : zS) (x0 : Nat) (x1 : Int32) (τ : zS) (r : Int32) (hf : fX1_resultsFrom σ x0 x1 = some (τ, r)) (hq : ∀ (pc : Nat) (lv : List (Nat × Value)), decode cX1_resultsFrom pc = .ok (.ireturn, 1) → zW p l e R s m args below meth c cells slots Q D Ca B 4 τ N pc lv [.int r]) : zW p l e R s m args below meth c cells slots Q D Ca B 4 σ N 0 [(0, .ref x0), (1, .int x1)] [] := by
  unfold fX1_resultsFrom at hf
  refine z_iconst C (zi 0) dX1_resultsFrom_0 (by decide) ?_
  refine z_istore_n (lv2 := [(2, .int ((zi 0))), (0, .ref x0), (1, .int x1)]) C dX1_resultsFrom_1 rfl (by decide) rfl ?_
  refine z_iconst C (zi 0) dX1_resultsFrom_2 (by decide) ?_
  refine z_istore_n (lv2 := [(3, .int ((zi 0))), (2, .int ((zi 0))), (0, .ref x0), (1, .int x1)]) C dX1_resultsFrom_3 rfl (by decide) rfl ?_
  obtain ⟨o7, ho7, hf⟩ := zbind hf
  refine z_sub [2, 3, 1, 0] rfl ?_
  refine wsX1_resultsFrom_4 C hRm _ _ zfuel (σ, (zi 0), (zi 0)) o7 ho7 ?_
  intro z9 e9
  subst e9
  refine z_iload_n C dX1_resultsFrom_38 rfl 0 rfl ?_
  cases hf
  exact hq _ _ dX1_resultsFrom_39

theorem mX1_resultsFrom (l : Launch) (D : va_G) (Ca : Nat → ClassId) (B : Nat) (En : State → Prop) (hE : zEk B En) (σ : zS) (N : Nat) (x0 : Nat) (x1 : Int32) (X : zS × Int32) (hf : fX1_resultsFrom σ x0 x1 = some X) : zMi l D Ca B En yX1_resultsFrom cX1_resultsFrom 4 (Option.some Jvm.ClassFile.FieldType.int) 2 41 [.ref x0, .int x1] σ N X.1 X.2 :=
  zMet_i (own := RX1) hE (by decide +kernel) rfl (Nat.le_of_ble_eq_true rfl) (fun p e s m args below meth c C hr hRm => wfX1_resultsFrom C hRm σ x0 x1 X.1 X.2 hf (fun pc lv hd => zfin_i C hr hd))
theorem dX1_positionsInAll_0 : decode cX1_positionsInAll 0 = .ok (.iconst 0, 1) := by decide +kernel
theorem dX1_positionsInAll_1 : decode cX1_positionsInAll 1 = .ok (.istore_n 1, 1) := by decide +kernel
theorem dX1_positionsInAll_2 : decode cX1_positionsInAll 2 = .ok (.iconst 0, 1) := by decide +kernel
theorem dX1_positionsInAll_3 : decode cX1_positionsInAll 3 = .ok (.istore_n 2, 1) := by decide +kernel
theorem dX1_positionsInAll_4 : decode cX1_positionsInAll 4 = .ok (.iload_n 2, 1) := by decide +kernel
theorem dX1_positionsInAll_5 : decode cX1_positionsInAll 5 = .ok (.aload_n 0, 1) := by decide +kernel
theorem dX1_positionsInAll_6 : decode cX1_positionsInAll 6 = .ok (.getfield 54, 3) := by decide +kernel
theorem dX1_positionsInAll_9 : decode cX1_positionsInAll 9 = .ok (.getfield 140, 3) := by decide +kernel
theorem dX1_positionsInAll_12 : decode cX1_positionsInAll 12 = .ok (.if_icmp .ge 18, 3) := by decide +kernel
theorem dX1_positionsInAll_15 : decode cX1_positionsInAll 15 = .ok (.iload_n 1, 1) := by decide +kernel
theorem dX1_positionsInAll_16 : decode cX1_positionsInAll 16 = .ok (.aload_n 0, 1) := by decide +kernel
theorem dX1_positionsInAll_17 : decode cX1_positionsInAll 17 = .ok (.getfield 15, 3) := by decide +kernel
theorem dX1_positionsInAll_20 : decode cX1_positionsInAll 20 = .ok (.iload_n 2, 1) := by decide +kernel
theorem dX1_positionsInAll_21 : decode cX1_positionsInAll 21 = .ok (.iaload, 1) := by decide +kernel
theorem dX1_positionsInAll_22 : decode cX1_positionsInAll 22 = .ok (.iadd, 1) := by decide +kernel
theorem dX1_positionsInAll_23 : decode cX1_positionsInAll 23 = .ok (.istore_n 1, 1) := by decide +kernel
theorem dX1_positionsInAll_24 : decode cX1_positionsInAll 24 = .ok (.iinc 2 1, 3) := by decide +kernel
theorem dX1_positionsInAll_27 : decode cX1_positionsInAll 27 = .ok (.goto (-23), 3) := by decide +kernel
theorem dX1_positionsInAll_30 : decode cX1_positionsInAll 30 = .ok (.iload_n 1, 1) := by decide +kernel
theorem dX1_positionsInAll_31 : decode cX1_positionsInAll 31 = .ok (.ireturn, 1) := by decide +kernel
theorem hyX1_positionsInAll : yX1_positionsInAll.cls ≠ "java/lang/invoke/MethodHandle" ∧ yX1_positionsInAll.cls ≠ "java/lang/invoke/VarHandle" ∧ (parseMethodDescriptor yX1_positionsInAll.desc).map (fun d => d.parameters.length) = some 0 := ⟨by decide +kernel, by decide +kernel, by decide +kernel⟩
set_option maxRecDepth 100000 in
set_option maxHeartbeats 4000000 in
theorem wsX1_positionsInAll_4b (C : zC p s m args meth c cX1_positionsInAll RX1 3 D Ca B En) (hRm : zRm R 0 0 cells slots) (x0 : Nat) (σ : zS) (u1 : Int32) (u2 : Int32) (y : (zS × Int32 × Int32) ⊕ (zS × Int32)) (hf : sX1_positionsInAll_4b x0 σ u1 u2 = some y) (hk : (∀ z : (zS × Int32 × Int32), y = .inl z → zW p l e R s m args below meth c cells slots Q D Ca B 3 z.1 N 4 [(0, .ref x0), (1, .int z.2.1), (2, .int z.2.2)] []) ∧ (∀ z : (zS × Int32), y = .inr z → zW p l e R s m args below meth c cells slots Q D Ca B 3 z.1 N 30 [(1, .int z.2)] [])) : zW p l e R s m args below meth c cells slots Q D Ca B 3 σ N 4 [(0, .ref x0), (1, .int u1), (2, .int u2)] [] := by
  unfold sX1_positionsInAll_4b at hf
  refine z_iload_n C dX1_positionsInAll_4 rfl 2 rfl ?_
  refine z_aload_n C dX1_positionsInAll_5 rfl 0 rfl ?_
  obtain ⟨v1, hv1, hf⟩ := zbind hf
  refine gf_RX1_54 C hv1 dX1_positionsInAll_6 ?_
  obtain ⟨v2, hv2, hf⟩ := zbind hf
  refine gf_RX1_140 C hv2 dX1_positionsInAll_9 ?_
  refine z_icmp_ge C 30 dX1_positionsInAll_12 (by decide) (fun q5 => ?_) (fun q5 => ?_)
  · rw [if_pos q5] at hf
    cases hf
    refine z_sub [1] rfl ?_
    exact hk.2 _ rfl
  · rw [if_neg q5] at hf
    refine z_iload_n C dX1_positionsInAll_15 rfl 1 rfl ?_
    refine z_aload_n C dX1_positionsInAll_16 rfl 0 rfl ?_
    obtain ⟨v3, hv3, hf⟩ := zbind hf
    refine gf_RX1_15 C hv3 dX1_positionsInAll_17 ?_
    refine z_iload_n C dX1_positionsInAll_20 rfl 2 rfl ?_
    obtain ⟨v4, hv4, hf⟩ := zbind hf
    refine z_aI C hv4 dX1_positionsInAll_21 ?_
    refine z_iadd C dX1_positionsInAll_22 ?_
    refine z_istore_n (lv2 := [(1, .int (u1 + v4)), (0, .ref x0), (2, .int u2)]) C dX1_positionsInAll_23 rfl (by decide) rfl ?_
    refine z_iinc (lv2 := [(2, .int (u2 + (zi 1))), (1, .int (u1 + v4)), (0, .ref x0)]) C (u2 + (zi 1)) dX1_positionsInAll_24 2 rfl rfl (by decide) rfl ?_
    refine z_goto C 4 dX1_positionsInAll_27 (by decide) ?_
    cases hf
    refine z_sub [2, 1, 0] rfl ?_
    exact hk.1 _ rfl

theorem wsX1_positionsInAll_4 (C : zC p s m args meth c cX1_positionsInAll RX1 3 D Ca B En) (hRm : zRm R 0 0 cells slots) (x0 : Nat) (n : Nat) (z : (zS × Int32 × Int32)) (x : (zS × Int32)) (hf : zloop (sX1_positionsInAll_4 x0) n z = some x) (hk : (∀ o : (zS × Int32), x = o → zW p l e R s m args below meth c cells slots Q D Ca B 3 o.1 N 30 [(1, .int o.2)] [])) : zW p l e R s m args below meth c cells slots Q D Ca B 3 z.1 N 4 [(0, .ref x0), (1, .int z.2.1), (2, .int z.2.2)] [] := by
  refine zloop_W (P := fun z : (zS × Int32 × Int32) => zW p l e R s m args below meth c cells slots Q D Ca B 3 z.1 N 4 [(0, .ref x0), (1, .int z.2.1), (2, .int z.2.2)] []) (K := fun x : (zS × Int32) => (∀ o : (zS × Int32), x = o → zW p l e R s m args below meth c cells slots Q D Ca B 3 o.1 N 30 [(1, .int o.2)] [])) ?_ n z x hf hk
  intro z y hy h1 h2
  refine wsX1_positionsInAll_4b C hRm x0 z.1 z.2.1 z.2.2 y hy ⟨fun z2 e => h1 z2 e, fun o e => (h2 _ e) o rfl⟩
set_option maxRecDepth 100000 in
set_option maxHeartbeats 4000000 in
theorem wfX1_positionsInAll (C : zC p s m args meth c cX1_positionsInAll RX1 3 D Ca B En) (hRm : zRm R 0 0 cells slots) (σ : zS) (x0 : Nat) (τ : zS) (r : Int32) (hf : fX1_positionsInAll σ x0 = some (τ, r)) (hq : ∀ (pc : Nat) (lv : List (Nat × Value)), decode cX1_positionsInAll pc = .ok (.ireturn, 1) → zW p l e R s m args below meth c cells slots Q D Ca B 3 τ N pc lv [.int r]) : zW p l e R s m args below meth c cells slots Q D Ca B 3 σ N 0 [(0, .ref x0)] [] := by
  unfold fX1_positionsInAll at hf
  refine z_iconst C (zi 0) dX1_positionsInAll_0 (by decide) ?_
  refine z_istore_n (lv2 := [(1, .int ((zi 0))), (0, .ref x0)]) C dX1_positionsInAll_1 rfl (by decide) rfl ?_
  refine z_iconst C (zi 0) dX1_positionsInAll_2 (by decide) ?_
  refine z_istore_n (lv2 := [(2, .int ((zi 0))), (1, .int ((zi 0))), (0, .ref x0)]) C dX1_positionsInAll_3 rfl (by decide) rfl ?_
  obtain ⟨o6, ho6, hf⟩ := zbind hf
  refine z_sub [2, 1, 0] rfl ?_
  refine wsX1_positionsInAll_4 C hRm _ zfuel (σ, (zi 0), (zi 0)) o6 ho6 ?_
  intro z9 e9
  subst e9
  refine z_iload_n C dX1_positionsInAll_30 rfl 0 rfl ?_
  cases hf
  exact hq _ _ dX1_positionsInAll_31

theorem mX1_positionsInAll (l : Launch) (D : va_G) (Ca : Nat → ClassId) (B : Nat) (En : State → Prop) (hE : zEk B En) (σ : zS) (N : Nat) (x0 : Nat) (X : zS × Int32) (hf : fX1_positionsInAll σ x0 = some X) : zMi l D Ca B En yX1_positionsInAll cX1_positionsInAll 3 (Option.some Jvm.ClassFile.FieldType.int) 0 0 [.ref x0] σ N X.1 X.2 :=
  zMet_i (own := RX1) hE (by decide +kernel) rfl (Nat.le_of_ble_eq_true rfl) (fun p e s m args below meth c C hr hRm => wfX1_positionsInAll C hRm σ x0 X.1 X.2 hf (fun pc lv hd => zfin_i C hr hd))
theorem dX1_recordsAtRisk_0 : decode cX1_recordsAtRisk 0 = .ok (.aload_n 0, 1) := by decide +kernel
theorem dX1_recordsAtRisk_1 : decode cX1_recordsAtRisk 1 = .ok (.invokevirtual 294, 3) := by decide +kernel
theorem dX1_recordsAtRisk_4 : decode cX1_recordsAtRisk 4 = .ok (.istore_n 1, 1) := by decide +kernel
theorem dX1_recordsAtRisk_5 : decode cX1_recordsAtRisk 5 = .ok (.iconst 0, 1) := by decide +kernel
theorem dX1_recordsAtRisk_6 : decode cX1_recordsAtRisk 6 = .ok (.istore_n 2, 1) := by decide +kernel
theorem dX1_recordsAtRisk_7 : decode cX1_recordsAtRisk 7 = .ok (.aload_n 0, 1) := by decide +kernel
theorem dX1_recordsAtRisk_8 : decode cX1_recordsAtRisk 8 = .ok (.getfield 41, 3) := by decide +kernel
theorem dX1_recordsAtRisk_11 : decode cX1_recordsAtRisk 11 = .ok (.invokevirtual 129, 3) := by decide +kernel
theorem dX1_recordsAtRisk_14 : decode cX1_recordsAtRisk 14 = .ok (.ifCond .eq 32, 3) := by decide +kernel
theorem dX1_recordsAtRisk_17 : decode cX1_recordsAtRisk 17 = .ok (.iload_n 2, 1) := by decide +kernel
theorem dX1_recordsAtRisk_18 : decode cX1_recordsAtRisk 18 = .ok (.aload_n 0, 1) := by decide +kernel
theorem dX1_recordsAtRisk_19 : decode cX1_recordsAtRisk 19 = .ok (.getfield 54, 3) := by decide +kernel
theorem dX1_recordsAtRisk_22 : decode cX1_recordsAtRisk 22 = .ok (.getfield 140, 3) := by decide +kernel
theorem dX1_recordsAtRisk_25 : decode cX1_recordsAtRisk 25 = .ok (.if_icmp .ge 21, 3) := by decide +kernel
theorem dX1_recordsAtRisk_28 : decode cX1_recordsAtRisk 28 = .ok (.iload_n 1, 1) := by decide +kernel
theorem dX1_recordsAtRisk_29 : decode cX1_recordsAtRisk 29 = .ok (.aload_n 0, 1) := by decide +kernel
theorem dX1_recordsAtRisk_30 : decode cX1_recordsAtRisk 30 = .ok (.getfield 41, 3) := by decide +kernel
theorem dX1_recordsAtRisk_33 : decode cX1_recordsAtRisk 33 = .ok (.getfield 189, 3) := by decide +kernel
theorem dX1_recordsAtRisk_36 : decode cX1_recordsAtRisk 36 = .ok (.iload_n 2, 1) := by decide +kernel
theorem dX1_recordsAtRisk_37 : decode cX1_recordsAtRisk 37 = .ok (.iaload, 1) := by decide +kernel
theorem dX1_recordsAtRisk_38 : decode cX1_recordsAtRisk 38 = .ok (.isub, 1) := by decide +kernel
theorem dX1_recordsAtRisk_39 : decode cX1_recordsAtRisk 39 = .ok (.istore_n 1, 1) := by decide +kernel
theorem dX1_recordsAtRisk_40 : decode cX1_recordsAtRisk 40 = .ok (.iinc 2 1, 3) := by decide +kernel
theorem dX1_recordsAtRisk_43 : decode cX1_recordsAtRisk 43 = .ok (.goto (-36), 3) := by decide +kernel
theorem dX1_recordsAtRisk_46 : decode cX1_recordsAtRisk 46 = .ok (.iload_n 1, 1) := by decide +kernel
theorem dX1_recordsAtRisk_47 : decode cX1_recordsAtRisk 47 = .ok (.ireturn, 1) := by decide +kernel
theorem hyX1_recordsAtRisk : yX1_recordsAtRisk.cls ≠ "java/lang/invoke/MethodHandle" ∧ yX1_recordsAtRisk.cls ≠ "java/lang/invoke/VarHandle" ∧ (parseMethodDescriptor yX1_recordsAtRisk.desc).map (fun d => d.parameters.length) = some 0 := ⟨by decide +kernel, by decide +kernel, by decide +kernel⟩
set_option maxRecDepth 100000 in
set_option maxHeartbeats 4000000 in
theorem wsX1_recordsAtRisk_7b (C : zC p s m args meth c cX1_recordsAtRisk RX1 3 D Ca B En) (hRm : zRm R 1 22 cells slots) (x0 : Nat) (σ : zS) (u1 : Int32) (u2 : Int32) (y : (zS × Int32 × Int32) ⊕ (zS × Int32)) (hf : sX1_recordsAtRisk_7b x0 σ u1 u2 = some y) (hk : (∀ z : (zS × Int32 × Int32), y = .inl z → zW p l e R s m args below meth c cells slots Q D Ca B 3 z.1 N 7 [(0, .ref x0), (1, .int z.2.1), (2, .int z.2.2)] []) ∧ (∀ z : (zS × Int32), y = .inr z → zW p l e R s m args below meth c cells slots Q D Ca B 3 z.1 N 46 [(1, .int z.2)] [])) : zW p l e R s m args below meth c cells slots Q D Ca B 3 σ N 7 [(0, .ref x0), (1, .int u1), (2, .int u2)] [] := by
  unfold sX1_recordsAtRisk_7b at hf
  refine z_aload_n C dX1_recordsAtRisk_7 rfl 0 rfl ?_
  obtain ⟨v2, hv2, hf⟩ := zbind hf
  refine gf_RX1_41 C hv2 dX1_recordsAtRisk_8 ?_
  obtain ⟨c3, hc3, hf⟩ := zbind hf
  obtain ⟨kc3, hc3⟩ := zck_ok hc3
  refine z_callVi (As := []) (F0 := 1) (L0 := 22) C (mX0_exists l D Ca B En C.2.2.2.2.2.2.2.1 σ N v2  _ hc3) hRm kc3 rfl kw_316 kw_10 kw_313 kw_314 kw_315 hyX0_exists (Nat.le_of_ble_eq_true rfl) (Nat.le_of_ble_eq_true rfl) rfl rfl (Nat.le_of_ble_eq_true rfl) dX1_recordsAtRisk_11 ?_
  refine z_if_eq C 46 dX1_recordsAtRisk_14 (by decide) (fun q10 => ?_) (fun q10 => ?_)
  · rw [if_pos q10] at hf
    cases hf
    refine z_sub [1] rfl ?_
    exact hk.2 _ rfl
  · rw [if_neg q10] at hf
    refine z_iload_n C dX1_recordsAtRisk_17 rfl 2 rfl ?_
    refine z_aload_n C dX1_recordsAtRisk_18 rfl 0 rfl ?_
    obtain ⟨v4, hv4, hf⟩ := zbind hf
    refine gf_RX1_54 C hv4 dX1_recordsAtRisk_19 ?_
    obtain ⟨v5, hv5, hf⟩ := zbind hf
    refine gf_RX1_140 C hv5 dX1_recordsAtRisk_22 ?_
    refine z_icmp_ge C 46 dX1_recordsAtRisk_25 (by decide) (fun q9 => ?_) (fun q9 => ?_)
    · rw [if_pos q9] at hf
      cases hf
      refine z_sub [1] rfl ?_
      exact hk.2 _ rfl
    · rw [if_neg q9] at hf
      refine z_iload_n C dX1_recordsAtRisk_28 rfl 1 rfl ?_
      refine z_aload_n C dX1_recordsAtRisk_29 rfl 0 rfl ?_
      obtain ⟨v6, hv6, hf⟩ := zbind hf
      refine gf_RX1_41 C hv6 dX1_recordsAtRisk_30 ?_
      obtain ⟨v7, hv7, hf⟩ := zbind hf
      refine gf_RX1_189 C hv7 dX1_recordsAtRisk_33 ?_
      refine z_iload_n C dX1_recordsAtRisk_36 rfl 2 rfl ?_
      obtain ⟨v8, hv8, hf⟩ := zbind hf
      refine z_aI C hv8 dX1_recordsAtRisk_37 ?_
      refine z_isub C dX1_recordsAtRisk_38 ?_
      refine z_istore_n (lv2 := [(1, .int (u1 - v8)), (0, .ref x0), (2, .int u2)]) C dX1_recordsAtRisk_39 rfl (by decide) rfl ?_
      refine z_iinc (lv2 := [(2, .int (u2 + (zi 1))), (1, .int (u1 - v8)), (0, .ref x0)]) C (u2 + (zi 1)) dX1_recordsAtRisk_40 2 rfl rfl (by decide) rfl ?_
      refine z_goto C 7 dX1_recordsAtRisk_43 (by decide) ?_
      cases hf
      refine z_sub [2, 1, 0] rfl ?_
      exact hk.1 _ rfl

theorem wsX1_recordsAtRisk_7 (C : zC p s m args meth c cX1_recordsAtRisk RX1 3 D Ca B En) (hRm : zRm R 1 22 cells slots) (x0 : Nat) (n : Nat) (z : (zS × Int32 × Int32)) (x : (zS × Int32)) (hf : zloop (sX1_recordsAtRisk_7 x0) n z = some x) (hk : (∀ o : (zS × Int32), x = o → zW p l e R s m args below meth c cells slots Q D Ca B 3 o.1 N 46 [(1, .int o.2)] [])) : zW p l e R s m args below meth c cells slots Q D Ca B 3 z.1 N 7 [(0, .ref x0), (1, .int z.2.1), (2, .int z.2.2)] [] := by
  refine zloop_W (P := fun z : (zS × Int32 × Int32) => zW p l e R s m args below meth c cells slots Q D Ca B 3 z.1 N 7 [(0, .ref x0), (1, .int z.2.1), (2, .int z.2.2)] []) (K := fun x : (zS × Int32) => (∀ o : (zS × Int32), x = o → zW p l e R s m args below meth c cells slots Q D Ca B 3 o.1 N 46 [(1, .int o.2)] [])) ?_ n z x hf hk
  intro z y hy h1 h2
  refine wsX1_recordsAtRisk_7b C hRm x0 z.1 z.2.1 z.2.2 y hy ⟨fun z2 e => h1 z2 e, fun o e => (h2 _ e) o rfl⟩
set_option maxRecDepth 100000 in
set_option maxHeartbeats 4000000 in
theorem wfX1_recordsAtRisk (C : zC p s m args meth c cX1_recordsAtRisk RX1 3 D Ca B En) (hRm : zRm R 1 22 cells slots) (σ : zS) (x0 : Nat) (τ : zS) (r : Int32) (hf : fX1_recordsAtRisk σ x0 = some (τ, r)) (hq : ∀ (pc : Nat) (lv : List (Nat × Value)), decode cX1_recordsAtRisk pc = .ok (.ireturn, 1) → zW p l e R s m args below meth c cells slots Q D Ca B 3 τ N pc lv [.int r]) : zW p l e R s m args below meth c cells slots Q D Ca B 3 σ N 0 [(0, .ref x0)] [] := by
  unfold fX1_recordsAtRisk at hf
  refine z_aload_n C dX1_recordsAtRisk_0 rfl 0 rfl ?_
  obtain ⟨c1, hc1, hf⟩ := zbind hf
  obtain ⟨kc1, hc1⟩ := zck_ok hc1
  refine z_callVi (As := []) (F0 := 1) (L0 := 22) C (mX1_positionsInAll l D Ca B En C.2.2.2.2.2.2.2.1 σ N x0  _ hc1) hRm kc1 rfl kw_577 kw_8 kw_574 kw_575 kw_576 hyX1_positionsInAll (Nat.le_of_ble_eq_true rfl) (Nat.le_of_ble_eq_true rfl) rfl rfl (Nat.le_of_ble_eq_true rfl) dX1_recordsAtRisk_1 ?_
  refine z_istore_n (lv2 := [(1, .int c1.2), (0, .ref x0)]) C dX1_recordsAtRisk_4 rfl (by decide) rfl ?_
  refine z_iconst C (zi 0) dX1_recordsAtRisk_5 (by decide) ?_
  refine z_istore_n (lv2 := [(2, .int ((zi 0))), (1, .int c1.2), (0, .ref x0)]) C dX1_recordsAtRisk_6 rfl (by decide) rfl ?_
  obtain ⟨o11, ho11, hf⟩ := zbind hf
  refine z_sub [2, 1, 0] rfl ?_
  refine wsX1_recordsAtRisk_7 C hRm _ zfuel (c1.1, c1.2, (zi 0)) o11 ho11 ?_
  intro z9 e9
  subst e9
  refine z_iload_n C dX1_recordsAtRisk_46 rfl 0 rfl ?_
  cases hf
  exact hq _ _ dX1_recordsAtRisk_47

theorem mX1_recordsAtRisk (l : Launch) (D : va_G) (Ca : Nat → ClassId) (B : Nat) (En : State → Prop) (hE : zEk B En) (σ : zS) (N : Nat) (x0 : Nat) (X : zS × Int32) (hf : fX1_recordsAtRisk σ x0 = some X) : zMi l D Ca B En yX1_recordsAtRisk cX1_recordsAtRisk 3 (Option.some Jvm.ClassFile.FieldType.int) 1 22 [.ref x0] σ N X.1 X.2 :=
  zMet_i (own := RX1) hE (by decide +kernel) rfl (Nat.le_of_ble_eq_true rfl) (fun p e s m args below meth c C hr hRm => wfX1_recordsAtRisk C hRm σ x0 X.1 X.2 hf (fun pc lv hd => zfin_i C hr hd))
theorem dX2_addByte_0 : decode cX2_addByte 0 = .ok (.aload_n 0, 1) := by decide +kernel
theorem dX2_addByte_1 : decode cX2_addByte 1 = .ok (.getfield 19, 3) := by decide +kernel
theorem dX2_addByte_4 : decode cX2_addByte 4 = .ok (.ifCond .lt 36, 3) := by decide +kernel
theorem dX2_addByte_7 : decode cX2_addByte 7 = .ok (.aload_n 0, 1) := by decide +kernel
theorem dX2_addByte_8 : decode cX2_addByte 8 = .ok (.getfield 19, 3) := by decide +kernel
theorem dX2_addByte_11 : decode cX2_addByte 11 = .ok (.aload_n 0, 1) := by decide +kernel
theorem dX2_addByte_12 : decode cX2_addByte 12 = .ok (.getfield 9, 3) := by decide +kernel
theorem dX2_addByte_15 : decode cX2_addByte 15 = .ok (.arraylength, 1) := by decide +kernel
theorem dX2_addByte_16 : decode cX2_addByte 16 = .ok (.if_icmp .ge 24, 3) := by decide +kernel
theorem dX2_addByte_19 : decode cX2_addByte 19 = .ok (.aload_n 0, 1) := by decide +kernel
theorem dX2_addByte_20 : decode cX2_addByte 20 = .ok (.getfield 9, 3) := by decide +kernel
theorem dX2_addByte_23 : decode cX2_addByte 23 = .ok (.aload_n 0, 1) := by decide +kernel
theorem dX2_addByte_24 : decode cX2_addByte 24 = .ok (.getfield 19, 3) := by decide +kernel
theorem dX2_addByte_27 : decode cX2_addByte 27 = .ok (.iload_n 1, 1) := by decide +kernel
theorem dX2_addByte_28 : decode cX2_addByte 28 = .ok (.i2b, 1) := by decide +kernel
theorem dX2_addByte_29 : decode cX2_addByte 29 = .ok (.bastore, 1) := by decide +kernel
theorem dX2_addByte_30 : decode cX2_addByte 30 = .ok (.aload_n 0, 1) := by decide +kernel
theorem dX2_addByte_31 : decode cX2_addByte 31 = .ok (.dup, 1) := by decide +kernel
theorem dX2_addByte_32 : decode cX2_addByte 32 = .ok (.getfield 19, 3) := by decide +kernel
theorem dX2_addByte_35 : decode cX2_addByte 35 = .ok (.iconst 1, 1) := by decide +kernel
theorem dX2_addByte_36 : decode cX2_addByte 36 = .ok (.iadd, 1) := by decide +kernel
theorem dX2_addByte_37 : decode cX2_addByte 37 = .ok (.putfield 19, 3) := by decide +kernel
theorem dX2_addByte_40 : decode cX2_addByte 40 = .ok (.return_, 1) := by decide +kernel
theorem hyX2_addByte : yX2_addByte.cls ≠ "java/lang/invoke/MethodHandle" ∧ yX2_addByte.cls ≠ "java/lang/invoke/VarHandle" ∧ (parseMethodDescriptor yX2_addByte.desc).map (fun d => d.parameters.length) = some 1 := ⟨by decide +kernel, by decide +kernel, by decide +kernel⟩
set_option maxRecDepth 100000 in
set_option maxHeartbeats 4000000 in
theorem wfX2_addByte (C : zC p s m args meth c cX2_addByte RX2 2 D Ca B En) (hRm : zRm R 0 0 cells slots) (σ : zS) (x0 : Nat) (x1 : Int32) (τ : zS) (hf : fX2_addByte σ x0 x1 = some τ) (hq : ∀ (pc : Nat) (lv : List (Nat × Value)), decode cX2_addByte pc = .ok (.return_, 1) → zW p l e R s m args below meth c cells slots Q D Ca B 2 τ N pc lv []) : zW p l e R s m args below meth c cells slots Q D Ca B 2 σ N 0 [(0, .ref x0), (1, .int x1)] [] := by
  unfold fX2_addByte at hf
  refine z_aload_n C dX2_addByte_0 rfl 0 rfl ?_
  obtain ⟨v1, hv1, hf⟩ := zbind hf
  refine gf_RX2_19 C hv1 dX2_addByte_1 ?_
  refine z_if_lt C 40 dX2_addByte_4 (by decide) (fun q11 => ?_) (fun q11 => ?_)
  · rw [if_pos q11] at hf
    cases hf
    exact hq _ _ dX2_addByte_40
  · rw [if_neg q11] at hf
    refine z_aload_n C dX2_addByte_7 rfl 0 rfl ?_
    obtain ⟨v2, hv2, hf⟩ := zbind hf
    refine gf_RX2_19 C hv2 dX2_addByte_8 ?_
    refine z_aload_n C dX2_addByte_11 rfl 0 rfl ?_
    obtain ⟨v3, hv3, hf⟩ := zbind hf
    refine gf_RX2_9 C hv3 dX2_addByte_12 ?_
    obtain ⟨v4, hv4, hf⟩ := zbind hf
    refine z_alen C hv4 dX2_addByte_15 ?_
    refine z_icmp_ge C 40 dX2_addByte_16 (by decide) (fun q10 => ?_) (fun q10 => ?_)
    · rw [if_pos q10] at hf
      cases hf
      exact hq _ _ dX2_addByte_40
    · rw [if_neg q10] at hf
      refine z_aload_n C dX2_addByte_19 rfl 0 rfl ?_
      obtain ⟨v5, hv5, hf⟩ := zbind hf
      refine gf_RX2_9 C hv5 dX2_addByte_20 ?_
      refine z_aload_n C dX2_addByte_23 rfl 0 rfl ?_
      obtain ⟨v6, hv6, hf⟩ := zbind hf
      refine gf_RX2_19 C hv6 dX2_addByte_24 ?_
      refine z_iload_n C dX2_addByte_27 rfl 1 rfl ?_
      refine z_i2b C dX2_addByte_28 ?_
      obtain ⟨σ7, hσ7, hf⟩ := zbind hf
      refine z_sB C hσ7 dX2_addByte_29 ?_
      refine z_aload_n C dX2_addByte_30 rfl 0 rfl ?_
      refine z_dup C dX2_addByte_31 rfl ?_
      obtain ⟨v8, hv8, hf⟩ := zbind hf
      refine gf_RX2_19 C hv8 dX2_addByte_32 ?_
      refine z_iconst C (zi 1) dX2_addByte_35 (by decide) ?_
      refine z_iadd C dX2_addByte_36 ?_
      obtain ⟨σ9, hσ9, hf⟩ := zbind hf
      refine gp_RX2_19 C hσ9 dX2_addByte_37 ?_
      cases hf
      exact hq _ _ dX2_addByte_40

theorem mX2_addByte (l : Launch) (D : va_G) (Ca : Nat → ClassId) (B : Nat) (En : State → Prop) (hE : zEk B En) (σ : zS) (N : Nat) (x0 : Nat) (x1 : Int32) (X : zS) (hf : fX2_addByte σ x0 x1 = some X) : zMv l D Ca B En yX2_addByte cX2_addByte 2 (Option.none : Option Jvm.ClassFile.FieldType) 0 0 [.ref x0, .int x1] σ N X () :=
  zMet_v (own := RX2) hE (by decide +kernel) rfl (Nat.le_of_ble_eq_true rfl) (fun p e s m args below meth c C hr hRm => wfX2_addByte C hRm σ x0 x1 X hf (fun pc lv hd => zfin_v (r := ()) C hr hd))
theorem dX2_addFourBytes_0 : decode cX2_addFourBytes 0 = .ok (.aload_n 0, 1) := by decide +kernel
theorem dX2_addFourBytes_1 : decode cX2_addFourBytes 1 = .ok (.iload_n 1, 1) := by decide +kernel
theorem dX2_addFourBytes_2 : decode cX2_addFourBytes 2 = .ok (.bipush 24, 2) := by decide +kernel
theorem dX2_addFourBytes_4 : decode cX2_addFourBytes 4 = .ok (.iushr, 1) := by decide +kernel
theorem dX2_addFourBytes_5 : decode cX2_addFourBytes 5 = .ok (.invokevirtual 15, 3) := by decide +kernel
theorem dX2_addFourBytes_8 : decode cX2_addFourBytes 8 = .ok (.aload_n 0, 1) := by decide +kernel
theorem dX2_addFourBytes_9 : decode cX2_addFourBytes 9 = .ok (.iload_n 1, 1) := by decide +kernel
theorem dX2_addFourBytes_10 : decode cX2_addFourBytes 10 = .ok (.bipush 16, 2) := by decide +kernel
theorem dX2_addFourBytes_12 : decode cX2_addFourBytes 12 = .ok (.iushr, 1) := by decide +kernel
theorem dX2_addFourBytes_13 : decode cX2_addFourBytes 13 = .ok (.invokevirtual 15, 3) := by decide +kernel
theorem dX2_addFourBytes_16 : decode cX2_addFourBytes 16 = .ok (.aload_n 0, 1) := by decide +kernel
theorem dX2_addFourBytes_17 : decode cX2_addFourBytes 17 = .ok (.iload_n 1, 1) := by decide +kernel
theorem dX2_addFourBytes_18 : decode cX2_addFourBytes 18 = .ok (.bipush 8, 2) := by decide +kernel
theorem dX2_addFourBytes_20 : decode cX2_addFourBytes 20 = .ok (.iushr, 1) := by decide +kernel
theorem dX2_addFourBytes_21 : decode cX2_addFourBytes 21 = .ok (.invokevirtual 15, 3) := by decide +kernel
theorem dX2_addFourBytes_24 : decode cX2_addFourBytes 24 = .ok (.aload_n 0, 1) := by decide +kernel
theorem dX2_addFourBytes_25 : decode cX2_addFourBytes 25 = .ok (.iload_n 1, 1) := by decide +kernel
theorem dX2_addFourBytes_26 : decode cX2_addFourBytes 26 = .ok (.invokevirtual 15, 3) := by decide +kernel
theorem dX2_addFourBytes_29 : decode cX2_addFourBytes 29 = .ok (.return_, 1) := by decide +kernel
theorem hyX2_addFourBytes : yX2_addFourBytes.cls ≠ "java/lang/invoke/MethodHandle" ∧ yX2_addFourBytes.cls ≠ "java/lang/invoke/VarHandle" ∧ (parseMethodDescriptor yX2_addFourBytes.desc).map (fun d => d.parameters.length) = some 1 := ⟨by decide +kernel, by decide +kernel, by decide +kernel⟩
set_option maxRecDepth 100000 in
set_option maxHeartbeats 4000000 in
theorem wfX2_addFourBytes (C : zC p s m args meth c cX2_addFourBytes RX2 2 D Ca B En) (hRm : zRm R 1 21 cells slots) (σ : zS) (x0 : Nat) (x1 : Int32) (τ : zS) (hf : fX2_addFourBytes σ x0 x1 = some τ) (hq : ∀ (pc : Nat) (lv : List (Nat × Value)), decode cX2_addFourBytes pc = .ok (.return_, 1) → zW p l e R s m args below meth c cells slots Q D Ca B 2 τ N pc lv []) : zW p l e R s m args below meth c cells slots Q D Ca B 2 σ N 0 [(0, .ref x0), (1, .int x1)] [] := by
  unfold fX2_addFourBytes at hf
  refine z_aload_n C dX2_addFourBytes_0 rfl 0 rfl ?_
  refine z_iload_n C dX2_addFourBytes_1 rfl 1 rfl ?_
  refine z_bipush C (zi 24) dX2_addFourBytes_2 (by decide) ?_
  refine z_iushr C dX2_addFourBytes_4 ?_
  obtain ⟨c1, hc1, hf⟩ := zbind hf
  obtain ⟨kc1, hc1⟩ := zck_ok hc1
  refine z_callVv (As := [.int ((x1.toUInt32 >>> (((zi 24) : Int32).toUInt32 &&& Int32.toUInt32 31)).toInt32)]) (F0 := 1) (L0 := 21) C (mX2_addByte l D Ca B En C.2.2.2.2.2.2.2.1 σ N x0 ((x1.toUInt32 >>> (((zi 24) : Int32).toUInt32 &&& Int32.toUInt32 31)).toInt32) _ hc1) hRm kc1 rfl kw_847 kw_2 kw_844 kw_846 kp_18 hyX2_addByte (Nat.le_of_ble_eq_true rfl) (Nat.le_of_ble_eq_true rfl) rfl rfl (Nat.le_of_ble_eq_true rfl) dX2_addFourBytes_5 ?_
  refine z_aload_n C dX2_addFourBytes_8 rfl 0 rfl ?_
  refine z_iload_n C dX2_addFourBytes_9 rfl 1 rfl ?_
  refine z_bipush C (zi 16) dX2_addFourBytes_10 (by decide) ?_
  refine z_iushr C dX2_addFourBytes_12 ?_
  obtain ⟨c2, hc2, hf⟩ := zbind hf
  obtain ⟨kc2, hc2⟩ := zck_ok hc2
  refine z_callVv (As := [.int ((x1.toUInt32 >>> (((zi 16) : Int32).toUInt32 &&& Int32.toUInt32 31)).toInt32)]) (F0 := 1) (L0 := 21) C (mX2_addByte l D Ca B En C.2.2.2.2.2.2.2.1 c1 N x0 ((x1.toUInt32 >>> (((zi 16) : Int32).toUInt32 &&& Int32.toUInt32 31)).toInt32) _ hc2) hRm kc2 rfl kw_847 kw_2 kw_844 kw_846 kp_18 hyX2_addByte (Nat.le_of_ble_eq_true rfl) (Nat.le_of_ble_eq_true rfl) rfl rfl (Nat.le_of_ble_eq_true rfl) dX2_addFourBytes_13 ?_
  refine z_aload_n C dX2_addFourBytes_16 rfl 0 rfl ?_
  refine z_iload_n C dX2_addFourBytes_17 rfl 1 rfl ?_
  refine z_bipush C (zi 8) dX2_addFourBytes_18 (by decide) ?_
  refine z_iushr C dX2_addFourBytes_20 ?_
  obtain ⟨c3, hc3, hf⟩ := zbind hf
  obtain ⟨kc3, hc3⟩ := zck_ok hc3
  refine z_callVv (As := [.int ((x1.toUInt32 >>> (((zi 8) : Int32).toUInt32 &&& Int32.toUInt32 31)).toInt32)]) (F0 := 1) (L0 := 21) C (mX2_addByte l D Ca B En C.2.2.2.2.2.2.2.1 c2 N x0 ((x1.toUInt32 >>> (((zi 8) : Int32).toUInt32 &&& Int32.toUInt32 31)).toInt32) _ hc3) hRm kc3 rfl kw_847 kw_2 kw_844 kw_846 kp_18 hyX2_addByte (Nat.le_of_ble_eq_true rfl) (Nat.le_of_ble_eq_true rfl) rfl rfl (Nat.le_of_ble_eq_true rfl) dX2_addFourBytes_21 ?_
  refine z_aload_n C dX2_addFourBytes_24 rfl 0 rfl ?_
  refine z_iload_n C dX2_addFourBytes_25 rfl 1 rfl ?_
  obtain ⟨c4, hc4, hf⟩ := zbind hf
  obtain ⟨kc4, hc4⟩ := zck_ok hc4
  refine z_callVv (As := [.int x1]) (F0 := 1) (L0 := 21) C (mX2_addByte l D Ca B En C.2.2.2.2.2.2.2.1 c3 N x0 x1 _ hc4) hRm kc4 rfl kw_847 kw_2 kw_844 kw_846 kp_18 hyX2_addByte (Nat.le_of_ble_eq_true rfl) (Nat.le_of_ble_eq_true rfl) rfl rfl (Nat.le_of_ble_eq_true rfl) dX2_addFourBytes_26 ?_
  cases hf
  exact hq _ _ dX2_addFourBytes_29

theorem mX2_addFourBytes (l : Launch) (D : va_G) (Ca : Nat → ClassId) (B : Nat) (En : State → Prop) (hE : zEk B En) (σ : zS) (N : Nat) (x0 : Nat) (x1 : Int32) (X : zS) (hf : fX2_addFourBytes σ x0 x1 = some X) : zMv l D Ca B En yX2_addFourBytes cX2_addFourBytes 2 (Option.none : Option Jvm.ClassFile.FieldType) 1 21 [.ref x0, .int x1] σ N X () :=
  zMet_v (own := RX2) hE (by decide +kernel) rfl (Nat.le_of_ble_eq_true rfl) (fun p e s m args below meth c C hr hRm => wfX2_addFourBytes C hRm σ x0 x1 X hf (fun pc lv hd => zfin_v (r := ()) C hr hd))
theorem dX2_byteAt_0 : decode cX2_byteAt 0 = .ok (.iload_n 1, 1) := by decide +kernel
theorem dX2_byteAt_1 : decode cX2_byteAt 1 = .ok (.ifCond .lt 29, 3) := by decide +kernel
theorem dX2_byteAt_4 : decode cX2_byteAt 4 = .ok (.iload_n 1, 1) := by decide +kernel
theorem dX2_byteAt_5 : decode cX2_byteAt 5 = .ok (.aload_n 0, 1) := by decide +kernel
theorem dX2_byteAt_6 : decode cX2_byteAt 6 = .ok (.getfield 19, 3) := by decide +kernel
theorem dX2_byteAt_9 : decode cX2_byteAt 9 = .ok (.if_icmp .ge 21, 3) := by decide +kernel
theorem dX2_byteAt_12 : decode cX2_byteAt 12 = .ok (.iload_n 1, 1) := by decide +kernel
theorem dX2_byteAt_13 : decode cX2_byteAt 13 = .ok (.aload_n 0, 1) := by decide +kernel
theorem dX2_byteAt_14 : decode cX2_byteAt 14 = .ok (.getfield 9, 3) := by decide +kernel
theorem dX2_byteAt_17 : decode cX2_byteAt 17 = .ok (.arraylength, 1) := by decide +kernel
theorem dX2_byteAt_18 : decode cX2_byteAt 18 = .ok (.if_icmp .ge 12, 3) := by decide +kernel
theorem dX2_byteAt_21 : decode cX2_byteAt 21 = .ok (.aload_n 0, 1) := by decide +kernel
theorem dX2_byteAt_22 : decode cX2_byteAt 22 = .ok (.getfield 9, 3) := by decide +kernel
theorem dX2_byteAt_25 : decode cX2_byteAt 25 = .ok (.iload_n 1, 1) := by decide +kernel
theorem dX2_byteAt_26 : decode cX2_byteAt 26 = .ok (.baload, 1) := by decide +kernel
theorem dX2_byteAt_27 : decode cX2_byteAt 27 = .ok (.goto 4, 3) := by decide +kernel
theorem dX2_byteAt_30 : decode cX2_byteAt 30 = .ok (.iconst 0, 1) := by decide +kernel
theorem dX2_byteAt_31 : decode cX2_byteAt 31 = .ok (.ireturn, 1) := by decide +kernel
theorem hyX2_byteAt : yX2_byteAt.cls ≠ "java/lang/invoke/MethodHandle" ∧ yX2_byteAt.cls ≠ "java/lang/invoke/VarHandle" ∧ (parseMethodDescriptor yX2_byteAt.desc).map (fun d => d.parameters.length) = some 1 := ⟨by decide +kernel, by decide +kernel, by decide +kernel⟩
set_option maxRecDepth 100000 in
set_option maxHeartbeats 4000000 in
theorem wfX2_byteAt (C : zC p s m args meth c cX2_byteAt RX2 2 D Ca B En) (hRm : zRm R 0 0 cells slots) (σ : zS) (x0 : Nat) (x1 : Int32) (τ : zS) (r : Int32) (hf : fX2_byteAt σ x0 x1 = some (τ, r)) (hq : ∀ (pc : Nat) (lv : List (Nat × Value)), decode cX2_byteAt pc = .ok (.ireturn, 1) → zW p l e R s m args below meth c cells slots Q D Ca B 2 τ N pc lv [.int r]) : zW p l e R s m args below meth c cells slots Q D Ca B 2 σ N 0 [(0, .ref x0), (1, .int x1)] [] := by
  unfold fX2_byteAt at hf
  refine z_iload_n C dX2_byteAt_0 rfl 1 rfl ?_
  refine z_if_lt C 30 dX2_byteAt_1 (by decide) (fun q8 => ?_) (fun q8 => ?_)
  · rw [if_pos q8] at hf
    refine z_iconst C (zi 0) dX2_byteAt_30 (by decide) ?_
    cases hf
    exact hq _ _ dX2_byteAt_31
  · rw [if_neg q8] at hf
    refine z_iload_n C dX2_byteAt_4 rfl 1 rfl ?_
    refine z_aload_n C dX2_byteAt_5 rfl 0 rfl ?_
    obtain ⟨v1, hv1, hf⟩ := zbind hf
    refine gf_RX2_19 C hv1 dX2_byteAt_6 ?_
    refine z_icmp_ge C 30 dX2_byteAt_9 (by decide) (fun q7 => ?_) (fun q7 => ?_)
    · rw [if_pos q7] at hf
      refine z_iconst C (zi 0) dX2_byteAt_30 (by decide) ?_
      cases hf
      exact hq _ _ dX2_byteAt_31
    · rw [if_neg q7] at hf
      refine z_iload_n C dX2_byteAt_12 rfl 1 rfl ?_
      refine z_aload_n C dX2_byteAt_13 rfl 0 rfl ?_
      obtain ⟨v2, hv2, hf⟩ := zbind hf
      refine gf_RX2_9 C hv2 dX2_byteAt_14 ?_
      obtain ⟨v3, hv3, hf⟩ := zbind hf
      refine z_alen C hv3 dX2_byteAt_17 ?_
      refine z_icmp_ge C 30 dX2_byteAt_18 (by decide) (fun q6 => ?_) (fun q6 => ?_)
      · rw [if_pos q6] at hf
        refine z_iconst C (zi 0) dX2_byteAt_30 (by decide) ?_
        cases hf
        exact hq _ _ dX2_byteAt_31
      · rw [if_neg q6] at hf
        refine z_aload_n C dX2_byteAt_21 rfl 0 rfl ?_
        obtain ⟨v4, hv4, hf⟩ := zbind hf
        refine gf_RX2_9 C hv4 dX2_byteAt_22 ?_
        refine z_iload_n C dX2_byteAt_25 rfl 1 rfl ?_
        obtain ⟨v5, hv5, hf⟩ := zbind hf
        refine z_aB C hv5 dX2_byteAt_26 ?_
        refine z_goto C 31 dX2_byteAt_27 (by decide) ?_
        cases hf
        exact hq _ _ dX2_byteAt_31

theorem mX2_byteAt (l : Launch) (D : va_G) (Ca : Nat → ClassId) (B : Nat) (En : State → Prop) (hE : zEk B En) (σ : zS) (N : Nat) (x0 : Nat) (x1 : Int32) (X : zS × Int32) (hf : fX2_byteAt σ x0 x1 = some X) : zMi l D Ca B En yX2_byteAt cX2_byteAt 2 (Option.some Jvm.ClassFile.FieldType.int) 0 0 [.ref x0, .int x1] σ N X.1 X.2 :=
  zMet_i (own := RX2) hE (by decide +kernel) rfl (Nat.le_of_ble_eq_true rfl) (fun p e s m args below meth c C hr hRm => wfX2_byteAt C hRm σ x0 x1 X.1 X.2 hf (fun pc lv hd => zfin_i C hr hd))
theorem dX3_at_0 : decode cX3_at 0 = .ok (.iload_n 2, 1) := by decide +kernel
theorem dX3_at_1 : decode cX3_at 1 = .ok (.ifCond .lt 12, 3) := by decide +kernel
theorem dX3_at_4 : decode cX3_at 4 = .ok (.iload_n 2, 1) := by decide +kernel
theorem dX3_at_5 : decode cX3_at 5 = .ok (.aload_n 0, 1) := by decide +kernel
theorem dX3_at_6 : decode cX3_at 6 = .ok (.iload_n 1, 1) := by decide +kernel
theorem dX3_at_7 : decode cX3_at 7 = .ok (.invokevirtual 42, 3) := by decide +kernel
theorem dX3_at_10 : decode cX3_at 10 = .ok (.if_icmp .lt 5, 3) := by decide +kernel
theorem dX3_at_13 : decode cX3_at 13 = .ok (.iconst (-1), 1) := by decide +kernel
theorem dX3_at_14 : decode cX3_at 14 = .ok (.ireturn, 1) := by decide +kernel
theorem dX3_at_15 : decode cX3_at 15 = .ok (.aload_n 0, 1) := by decide +kernel
theorem dX3_at_16 : decode cX3_at 16 = .ok (.iload_n 1, 1) := by decide +kernel
theorem dX3_at_17 : decode cX3_at 17 = .ok (.invokevirtual 46, 3) := by decide +kernel
theorem dX3_at_20 : decode cX3_at 20 = .ok (.istore_n 3, 1) := by decide +kernel
theorem dX3_at_21 : decode cX3_at 21 = .ok (.iconst 0, 1) := by decide +kernel
theorem dX3_at_22 : decode cX3_at 22 = .ok (.istore 4, 2) := by decide +kernel
theorem dX3_at_24 : decode cX3_at 24 = .ok (.iload 4, 2) := by decide +kernel
theorem dX3_at_26 : decode cX3_at 26 = .ok (.iload_n 2, 1) := by decide +kernel
theorem dX3_at_27 : decode cX3_at 27 = .ok (.if_icmp .ge 15, 3) := by decide +kernel
theorem dX3_at_30 : decode cX3_at 30 = .ok (.aload_n 0, 1) := by decide +kernel
theorem dX3_at_31 : decode cX3_at 31 = .ok (.iload_n 3, 1) := by decide +kernel
theorem dX3_at_32 : decode cX3_at 32 = .ok (.invokevirtual 49, 3) := by decide +kernel
theorem dX3_at_35 : decode cX3_at 35 = .ok (.istore_n 3, 1) := by decide +kernel
theorem dX3_at_36 : decode cX3_at 36 = .ok (.iinc 4 1, 3) := by decide +kernel
theorem dX3_at_39 : decode cX3_at 39 = .ok (.goto (-15), 3) := by decide +kernel
theorem dX3_at_42 : decode cX3_at 42 = .ok (.iload_n 3, 1) := by decide +kernel
theorem dX3_at_43 : decode cX3_at 43 = .ok (.ireturn, 1) := by decide +kernel
theorem hyX3_at : yX3_at.cls ≠ "java/lang/invoke/MethodHandle" ∧ yX3_at.cls ≠ "java/lang/invoke/VarHandle" ∧ (parseMethodDescriptor yX3_at.desc).map (fun d => d.parameters.length) = some 2 := ⟨by decide +kernel, by decide +kernel, by decide +kernel⟩
set_option maxRecDepth 100000 in
set_option maxHeartbeats 4000000 in
theorem wsX3_at_24b (C : zC p s m args meth c cX3_at RX3 5 D Ca B En) (hRm : zRm R 2 41 cells slots) (x0 : Nat) (x2 : Int32) (σ : zS) (u3 : Int32) (u4 : Int32) (y : (zS × Int32 × Int32) ⊕ (zS × Int32)) (hf : sX3_at_24b x0 x2 σ u3 u4 = some y) (hk : (∀ z : (zS × Int32 × Int32), y = .inl z → zW p l e R s m args below meth c cells slots Q D Ca B 5 z.1 N 24 [(0, .ref x0), (2, .int x2), (3, .int z.2.1), (4, .int z.2.2)] []) ∧ (∀ z : (zS × Int32), y = .inr z → zW p l e R s m args below meth c cells slots Q D Ca B 5 z.1 N 42 [(3, .int z.2)] [])) : zW p l e R s m args below meth c cells slots Q D Ca B 5 σ N 24 [(0, .ref x0), (2, .int x2), (3, .int u3), (4, .int u4)] [] := by
  unfold sX3_at_24b at hf
  refine z_iload C dX3_at_24 3 rfl ?_
  refine z_iload_n C dX3_at_26 rfl 1 rfl ?_
  refine z_icmp_ge C 42 dX3_at_27 (by decide) (fun q4 => ?_) (fun q4 => ?_)
  · rw [if_pos q4] at hf
    cases hf
    refine z_sub [2] rfl ?_
    exact hk.2 _ rfl
  · rw [if_neg q4] at hf
    refine z_aload_n C dX3_at_30 rfl 0 rfl ?_
    refine z_iload_n C dX3_at_31 rfl 2 rfl ?_
    obtain ⟨c3, hc3, hf⟩ := zbind hf
    obtain ⟨kc3, hc3⟩ := zck_ok hc3
    refine z_callVi (As := [.int u3]) (F0 := 2) (L0 := 41) C (mX3_behind l D Ca B En C.2.2.2.2.2.2.2.1 σ N x0 u3 _ hc3) hRm kc3 rfl kw_348 kw_9 kw_1261 kw_346 kw_347 hyX3_behind (Nat.le_of_ble_eq_true rfl) (Nat.le_of_ble_eq_true rfl) rfl rfl (Nat.le_of_ble_eq_true rfl) dX3_at_32 ?_
    refine z_istore_n (lv2 := [(3, .int c3.2), (0, .ref x0), (2, .int x2), (4, .int u4)]) C dX3_at_35 rfl (by decide) rfl ?_
    refine z_iinc (lv2 := [(4, .int (u4 + (zi 1))), (3, .int c3.2), (0, .ref x0), (2, .int x2)]) C (u4 + (zi 1)) dX3_at_36 3 rfl rfl (by decide) rfl ?_
    refine z_goto C 24 dX3_at_39 (by decide) ?_
    cases hf
    refine z_sub [2, 3, 1, 0] rfl ?_
    exact hk.1 _ rfl

theorem wsX3_at_24 (C : zC p s m args meth c cX3_at RX3 5 D Ca B En) (hRm : zRm R 2 41 cells slots) (x0 : Nat) (x2 : Int32) (n : Nat) (z : (zS × Int32 × Int32)) (x : (zS × Int32)) (hf : zloop (sX3_at_24 x0 x2) n z = some x) (hk : (∀ o : (zS × Int32), x = o → zW p l e R s m args below meth c cells slots Q D Ca B 5 o.1 N 42 [(3, .int o.2)] [])) : zW p l e R s m args below meth c cells slots Q D Ca B 5 z.1 N 24 [(0, .ref x0), (2, .int x2), (3, .int z.2.1), (4, .int z.2.2)] [] := by
  refine zloop_W (P := fun z : (zS × Int32 × Int32) => zW p l e R s m args below meth c cells slots Q D Ca B 5 z.1 N 24 [(0, .ref x0), (2, .int x2), (3, .int z.2.1), (4, .int z.2.2)] []) (K := fun x : (zS × Int32) => (∀ o : (zS × Int32), x = o → zW p l e R s m args below meth c cells slots Q D Ca B 5 o.1 N 42 [(3, .int o.2)] [])) ?_ n z x hf hk
  intro z y hy h1 h2
  refine wsX3_at_24b C hRm x0 x2 z.1 z.2.1 z.2.2 y hy ⟨fun z2 e => h1 z2 e, fun o e => (h2 _ e) o rfl⟩
set_option maxRecDepth 100000 in
set_option maxHeartbeats 4000000 in
theorem wfX3_at (C : zC p s m args meth c cX3_at RX3 5 D Ca B En) (hRm : zRm R 2 41 cells slots) (σ : zS) (x0 : Nat) (x1 : Int32) (x2 : Int32) (τ : zS) (r : Int32) (hf : fX3_at σ x0 x1 x2 = some (τ, r)) (hq : ∀ (pc : Nat) (lv : List (Nat × Value)), decode cX3_at pc = .ok (.ireturn, 1) → zW p l e R s m args below meth c cells slots Q D Ca B 5 τ N pc lv [.int r]) : zW p l e R s m args below meth c cells slots Q D Ca B 5 σ N 0 [(0, .ref x0), (1, .int x1), (2, .int x2)] [] := by
  unfold fX3_at at hf
  refine z_iload_n C dX3_at_0 rfl 2 rfl ?_
  refine z_if_lt C 13 dX3_at_1 (by decide) (fun q7 => ?_) (fun q7 => ?_)
  · rw [if_pos q7] at hf
    refine z_iconst C (zi (-1)) dX3_at_13 (by decide) ?_
    cases hf
    exact hq _ _ dX3_at_14
  · rw [if_neg q7] at hf
    refine z_iload_n C dX3_at_4 rfl 2 rfl ?_
    refine z_aload_n C dX3_at_5 rfl 0 rfl ?_
    refine z_iload_n C dX3_at_6 rfl 1 rfl ?_
    obtain ⟨c1, hc1, hf⟩ := zbind hf
    obtain ⟨kc1, hc1⟩ := zck_ok hc1
    refine z_callVi (As := [.int x1]) (F0 := 2) (L0 := 41) C (mX3_sizeOf l D Ca B En C.2.2.2.2.2.2.2.1 σ N x0 x1 _ hc1) hRm kc1 rfl kw_340 kw_9 kw_1260 kw_338 kw_339 hyX3_sizeOf (Nat.le_of_ble_eq_true rfl) (Nat.le_of_ble_eq_true rfl) rfl rfl (Nat.le_of_ble_eq_true rfl) dX3_at_7 ?_
    refine z_icmp_lt C 15 dX3_at_10 (by decide) (fun q6 => ?_) (fun q6 => ?_)
    · rw [if_pos q6] at hf
      refine z_aload_n C dX3_at_15 rfl 0 rfl ?_
      refine z_iload_n C dX3_at_16 rfl 1 rfl ?_
      obtain ⟨c2, hc2, hf⟩ := zbind hf
      obtain ⟨kc2, hc2⟩ := zck_ok hc2
      refine z_callVi (As := [.int x1]) (F0 := 2) (L0 := 41) C (mX3_firstOf l D Ca B En C.2.2.2.2.2.2.2.1 c1.1 N x0 x1 _ hc2) hRm kc2 rfl kw_336 kw_9 kw_692 kw_334 kw_335 hyX3_firstOf (Nat.le_of_ble_eq_true rfl) (Nat.le_of_ble_eq_true rfl) rfl rfl (Nat.le_of_ble_eq_true rfl) dX3_at_17 ?_
      refine z_istore_n (lv2 := [(3, .int c2.2), (0, .ref x0), (1, .int x1), (2, .int x2)]) C dX3_at_20 rfl (by decide) rfl ?_
      refine z_iconst C (zi 0) dX3_at_21 (by decide) ?_
      refine z_istore (lv2 := [(4, .int ((zi 0))), (3, .int c2.2), (0, .ref x0), (1, .int x1), (2, .int x2)]) C dX3_at_22 (by decide) rfl ?_
      obtain ⟨o5, ho5, hf⟩ := zbind hf
      refine z_sub [2, 4, 1, 0] rfl ?_
      refine wsX3_at_24 C hRm _ _ zfuel (c2.1, c2.2, (zi 0)) o5 ho5 ?_
      intro z9 e9
      subst e9
      refine z_iload_n C dX3_at_42 rfl 0 rfl ?_
      cases hf
      exact hq _ _ dX3_at_43
    · rw [if_neg q6] at hf
      refine z_iconst C (zi (-1)) dX3_at_13 (by decide) ?_
      cases hf
      exact hq _ _ dX3_at_14

theorem mX3_at (l : Launch) (D : va_G) (Ca : Nat → ClassId) (B : Nat) (En : State → Prop) (hE : zEk B En) (σ : zS) (N : Nat) (x0 : Nat) (x1 : Int32) (x2 : Int32) (X : zS × Int32) (hf : fX3_at σ x0 x1 x2 = some X) : zMi l D Ca B En yX3_at cX3_at 5 (Option.some Jvm.ClassFile.FieldType.int) 2 41 [.ref x0, .int x1, .int x2] σ N X.1 X.2 :=
  zMet_i (own := RX3) hE (by decide +kernel) rfl (Nat.le_of_ble_eq_true rfl) (fun p e s m args below meth c C hr hRm => wfX3_at C hRm σ x0 x1 x2 X.1 X.2 hf (fun pc lv hd => zfin_i C hr hd))
theorem dX7_clear_0 : decode cX7_clear 0 = .ok (.aload_n 0, 1) := by decide +kernel
theorem dX7_clear_1 : decode cX7_clear 1 = .ok (.iconst 0, 1) := by decide +kernel
theorem dX7_clear_2 : decode cX7_clear 2 = .ok (.putfield 40, 3) := by decide +kernel
theorem dX7_clear_5 : decode cX7_clear 5 = .ok (.aload_n 0, 1) := by decide +kernel
theorem dX7_clear_6 : decode cX7_clear 6 = .ok (.getfield 9, 3) := by decide +kernel
theorem dX7_clear_9 : decode cX7_clear 9 = .ok (.iconst 0, 1) := by decide +kernel
theorem dX7_clear_10 : decode cX7_clear 10 = .ok (.invokestatic 44, 3) := by decide +kernel
theorem dX7_clear_13 : decode cX7_clear 13 = .ok (.aload_n 0, 1) := by decide +kernel
theorem dX7_clear_14 : decode cX7_clear 14 = .ok (.getfield 15, 3) := by decide +kernel
theorem dX7_clear_17 : decode cX7_clear 17 = .ok (.iconst 0, 1) := by decide +kernel
theorem dX7_clear_18 : decode cX7_clear 18 = .ok (.invokestatic 44, 3) := by decide +kernel
theorem dX7_clear_21 : decode cX7_clear 21 = .ok (.aload_n 0, 1) := by decide +kernel
theorem dX7_clear_22 : decode cX7_clear 22 = .ok (.getfield 18, 3) := by decide +kernel
theorem dX7_clear_25 : decode cX7_clear 25 = .ok (.iconst 0, 1) := by decide +kernel
theorem dX7_clear_26 : decode cX7_clear 26 = .ok (.invokestatic 44, 3) := by decide +kernel
theorem dX7_clear_29 : decode cX7_clear 29 = .ok (.aload_n 0, 1) := by decide +kernel
theorem dX7_clear_30 : decode cX7_clear 30 = .ok (.getfield 28, 3) := by decide +kernel
theorem dX7_clear_33 : decode cX7_clear 33 = .ok (.iconst (-1), 1) := by decide +kernel
theorem dX7_clear_34 : decode cX7_clear 34 = .ok (.invokestatic 44, 3) := by decide +kernel
theorem dX7_clear_37 : decode cX7_clear 37 = .ok (.return_, 1) := by decide +kernel
theorem hyX7_clear : yX7_clear.cls ≠ "java/lang/invoke/MethodHandle" ∧ yX7_clear.cls ≠ "java/lang/invoke/VarHandle" ∧ (parseMethodDescriptor yX7_clear.desc).map (fun d => d.parameters.length) = some 0 := ⟨by decide +kernel, by decide +kernel, by decide +kernel⟩
set_option maxRecDepth 100000 in
set_option maxHeartbeats 4000000 in
theorem wfX7_clear (C : zC p s m args meth c cX7_clear RX7 1 D Ca B En) (hRm : zRm R 1 22 cells slots) (σ : zS) (x0 : Nat) (τ : zS) (hf : fX7_clear σ x0 = some τ) (hq : ∀ (pc : Nat) (lv : List (Nat × Value)), decode cX7_clear pc = .ok (.return_, 1) → zW p l e R s m args below meth c cells slots Q D Ca B 1 τ N pc lv []) : zW p l e R s m args below meth c cells slots Q D Ca B 1 σ N 0 [(0, .ref x0)] [] := by
  unfold fX7_clear at hf
  refine z_aload_n C dX7_clear_0 rfl 0 rfl ?_
  refine z_iconst C (zi 0) dX7_clear_1 (by decide) ?_
  obtain ⟨σ1, hσ1, hf⟩ := zbind hf
  refine gp_RX7_40 C hσ1 dX7_clear_2 ?_
  refine z_aload_n C dX7_clear_5 rfl 0 rfl ?_
  obtain ⟨v2, hv2, hf⟩ := zbind hf
  refine gf_RX7_9 C hv2 dX7_clear_6 ?_
  refine z_iconst C (zi 0) dX7_clear_9 (by decide) ?_
  obtain ⟨c3, hc3, hf⟩ := zbind hf
  refine z_callSNv (host := "BarrierFlow") (As := [.ref v2, .int ((zi 0))]) (F0 := 1) (L0 := 22) C (mX9_fillRow l D Ca B En C.2.2.2.2.2.2.2.1 σ1 N v2 ((zi 0)) _ hc3) hRm kw_165 kw_1 (by decide) kw_164 hyX9_fillRow (Nat.le_of_ble_eq_true rfl) (Nat.le_of_ble_eq_true rfl) rfl rfl (Nat.le_of_ble_eq_true rfl) dX7_clear_10 ?_
  refine z_aload_n C dX7_clear_13 rfl 0 rfl ?_
  obtain ⟨v4, hv4, hf⟩ := zbind hf
  refine gf_RX7_15 C hv4 dX7_clear_14 ?_
  refine z_iconst C (zi 0) dX7_clear_17 (by decide) ?_
  obtain ⟨c5, hc5, hf⟩ := zbind hf
  refine z_callSNv (host := "BarrierFlow") (As := [.ref v4, .int ((zi 0))]) (F0 := 1) (L0 := 22) C (mX9_fillRow l D Ca B En C.2.2.2.2.2.2.2.1 c3 N v4 ((zi 0)) _ hc5) hRm kw_165 kw_1 (by decide) kw_164 hyX9_fillRow (Nat.le_of_ble_eq_true rfl) (Nat.le_of_ble_eq_true rfl) rfl rfl (Nat.le_of_ble_eq_true rfl) dX7_clear_18 ?_
  refine z_aload_n C dX7_clear_21 rfl 0 rfl ?_
  obtain ⟨v6, hv6, hf⟩ := zbind hf
  refine gf_RX7_18 C hv6 dX7_clear_22 ?_
  refine z_iconst C (zi 0) dX7_clear_25 (by decide) ?_
  obtain ⟨c7, hc7, hf⟩ := zbind hf
  refine z_callSNv (host := "BarrierFlow") (As := [.ref v6, .int ((zi 0))]) (F0 := 1) (L0 := 22) C (mX9_fillRow l D Ca B En C.2.2.2.2.2.2.2.1 c5 N v6 ((zi 0)) _ hc7) hRm kw_165 kw_1 (by decide) kw_164 hyX9_fillRow (Nat.le_of_ble_eq_true rfl) (Nat.le_of_ble_eq_true rfl) rfl rfl (Nat.le_of_ble_eq_true rfl) dX7_clear_26 ?_
  refine z_aload_n C dX7_clear_29 rfl 0 rfl ?_
  obtain ⟨v8, hv8, hf⟩ := zbind hf
  refine gf_RX7_28 C hv8 dX7_clear_30 ?_
  refine z_iconst C (zi (-1)) dX7_clear_33 (by decide) ?_
  obtain ⟨c9, hc9, hf⟩ := zbind hf
  refine z_callSNv (host := "BarrierFlow") (As := [.ref v8, .int ((zi (-1)))]) (F0 := 1) (L0 := 22) C (mX9_fillRow l D Ca B En C.2.2.2.2.2.2.2.1 c7 N v8 ((zi (-1))) _ hc9) hRm kw_165 kw_1 (by decide) kw_164 hyX9_fillRow (Nat.le_of_ble_eq_true rfl) (Nat.le_of_ble_eq_true rfl) rfl rfl (Nat.le_of_ble_eq_true rfl) dX7_clear_34 ?_
  cases hf
  exact hq _ _ dX7_clear_37

theorem mX7_clear (l : Launch) (D : va_G) (Ca : Nat → ClassId) (B : Nat) (En : State → Prop) (hE : zEk B En) (σ : zS) (N : Nat) (x0 : Nat) (X : zS) (hf : fX7_clear σ x0 = some X) : zMv l D Ca B En yX7_clear cX7_clear 1 (Option.none : Option Jvm.ClassFile.FieldType) 1 22 [.ref x0] σ N X () :=
  zMet_v (own := RX7) hE (by decide +kernel) rfl (Nat.le_of_ble_eq_true rfl) (fun p e s m args below meth c C hr hRm => wfX7_clear C hRm σ x0 X hf (fun pc lv hd => zfin_v (r := ()) C hr hd))
end ZM
