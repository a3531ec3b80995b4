/-! Methods: X5_kindAt, X5_advance, J0_coder_7d493, J0_length_8abf5, J0_isLatin1_aae02, J3_checkIndex_8e157, J0_checkIndex_df160, J1_charAt_3b067, J2_length_9d52b, J2_checkIndex_2214a, J2_charAt_3b067, J0_charAt_5068e, X5_isToken, X5_quotedWord, X5_refuse, X7_isName, X7_named, X7_setName, X5_readName, X5_readWord, X5_readNumber, X5_readSource, X5_readSemicolon -/
section ZM
variable {p : Program} {l : Launch} {e : Env} {R : Room} {s : State} {m : MethodId} {args : Array Value} {below : List Frame} {meth : Method} {c : Code} {cells slots : Nat} {Q : State → Prop} {D : va_G} {Ca : Nat → ClassId} {B : Nat} {En : State → Prop} {N : Nat}
theorem dX5_kindAt_0 : decode cX5_kindAt 0 = .ok (.iload_n 1, 1) := by decide +kernel
theorem dX5_kindAt_1 : decode cX5_kindAt 1 = .ok (.aload_n 0, 1) := by decide +kernel
theorem dX5_kindAt_2 : decode cX5_kindAt 2 = .ok (.getfield 15, 3) := by decide +kernel
theorem dX5_kindAt_5 : decode cX5_kindAt 5 = .ok (.getfield 162, 3) := by decide +kernel
theorem dX5_kindAt_8 : decode cX5_kindAt 8 = .ok (.if_icmp .lt 5, 3) := by decide +kernel
theorem dX5_kindAt_11 : decode cX5_kindAt 11 = .ok (.iconst 0, 1) := by decide +kernel
theorem dX5_kindAt_12 : decode cX5_kindAt 12 = .ok (.ireturn, 1) := by decide +kernel
theorem dX5_kindAt_13 : decode cX5_kindAt 13 = .ok (.aload_n 0, 1) := by decide +kernel
theorem dX5_kindAt_14 : decode cX5_kindAt 14 = .ok (.getfield 15, 3) := by decide +kernel
theorem dX5_kindAt_17 : decode cX5_kindAt 17 = .ok (.iload_n 1, 1) := by decide +kernel
theorem dX5_kindAt_18 : decode cX5_kindAt 18 = .ok (.invokevirtual 131, 3) := by decide +kernel
theorem dX5_kindAt_21 : decode cX5_kindAt 21 = .ok (.istore_n 2, 1) := by decide +kernel
theorem dX5_kindAt_22 : decode cX5_kindAt 22 = .ok (.iload_n 2, 1) := by decide +kernel
theorem dX5_kindAt_23 : decode cX5_kindAt 23 = .ok (.bipush 97, 2) := by decide +kernel
theorem dX5_kindAt_25 : decode cX5_kindAt 25 = .ok (.if_icmp .lt 11, 3) := by decide +kernel
theorem dX5_kindAt_28 : decode cX5_kindAt 28 = .ok (.iload_n 2, 1) := by decide +kernel
theorem dX5_kindAt_29 : decode cX5_kindAt 29 = .ok (.bipush 122, 2) := by decide +kernel
theorem dX5_kindAt_31 : decode cX5_kindAt 31 = .ok (.if_icmp .gt 5, 3) := by decide +kernel
theorem dX5_kindAt_34 : decode cX5_kindAt 34 = .ok (.iconst 1, 1) := by decide +kernel
theorem dX5_kindAt_35 : decode cX5_kindAt 35 = .ok (.ireturn, 1) := by decide +kernel
theorem dX5_kindAt_36 : decode cX5_kindAt 36 = .ok (.iload_n 2, 1) := by decide +kernel
theorem dX5_kindAt_37 : decode cX5_kindAt 37 = .ok (.bipush 48, 2) := by decide +kernel
theorem dX5_kindAt_39 : decode cX5_kindAt 39 = .ok (.if_icmp .lt 11, 3) := by decide +kernel
theorem dX5_kindAt_42 : decode cX5_kindAt 42 = .ok (.iload_n 2, 1) := by decide +kernel
theorem dX5_kindAt_43 : decode cX5_kindAt 43 = .ok (.bipush 57, 2) := by decide +kernel
theorem dX5_kindAt_45 : decode cX5_kindAt 45 = .ok (.if_icmp .gt 5, 3) := by decide +kernel
theorem dX5_kindAt_48 : decode cX5_kindAt 48 = .ok (.iconst 2, 1) := by decide +kernel
theorem dX5_kindAt_49 : decode cX5_kindAt 49 = .ok (.ireturn, 1) := by decide +kernel
theorem dX5_kindAt_50 : decode cX5_kindAt 50 = .ok (.iload_n 2, 1) := by decide +kernel
theorem dX5_kindAt_51 : decode cX5_kindAt 51 = .ok (.bipush 59, 2) := by decide +kernel
theorem dX5_kindAt_53 : decode cX5_kindAt 53 = .ok (.if_icmp .ne 7, 3) := by decide +kernel
theorem dX5_kindAt_56 : decode cX5_kindAt 56 = .ok (.iconst 3, 1) := by decide +kernel
theorem dX5_kindAt_57 : decode cX5_kindAt 57 = .ok (.goto 4, 3) := by decide +kernel
theorem dX5_kindAt_60 : decode cX5_kindAt 60 = .ok (.iconst 4, 1) := by decide +kernel
theorem dX5_kindAt_61 : decode cX5_kindAt 61 = .ok (.ireturn, 1) := by decide +kernel
theorem hyX5_kindAt : yX5_kindAt.cls ≠ "java/lang/invoke/MethodHandle" ∧ yX5_kindAt.cls ≠ "java/lang/invoke/VarHandle" ∧ (parseMethodDescriptor yX5_kindAt.desc).map (fun d => d.parameters.length) = some 1 := ⟨by decide +kernel, by decide +kernel, by decide +kernel⟩
set_option maxRecDepth 100000 in
set_option maxHeartbeats 4000000 in
theorem wjX5_kindAt_50 (C : zC p s m args meth c cX5_kindAt RX5 3 D Ca B En) (hRm : zRm R 1 21 cells slots) (σ : zS) (x2 : Int32)  (τ : zS) (r : Int32) (hf : jX5_kindAt_50 σ x2  = some (τ, r)) (hq : ∀ (pc : Nat) (lv : List (Nat × Value)), decode cX5_kindAt pc = .ok (.ireturn, 1) → zW p l e R s m args below meth c cells slots Q D Ca B 3 τ N pc lv [.int r]) : zW p l e R s m args below meth c cells slots Q D Ca B 3 σ N 50 [(2, .int x2)] [] := by
  unfold jX5_kindAt_50 at hf
  refine z_iload_n C dX5_kindAt_50 rfl 0 rfl ?_
  refine z_bipush C (zi 59) dX5_kindAt_51 (by decide) ?_
  refine z_icmp_ne C 60 dX5_kindAt_53 (by decide) (fun q5 => ?_) (fun q5 => ?_)
  · rw [if_neg q5] at hf
    refine z_iconst C (zi 4) dX5_kindAt_60 (by decide) ?_
    cases hf
    exact hq _ _ dX5_kindAt_61
  · rw [if_pos q5] at hf
    refine z_iconst C (zi 3) dX5_kindAt_56 (by decide) ?_
    refine z_goto C 61 dX5_kindAt_57 (by decide) ?_
    cases hf
    exact hq _ _ dX5_kindAt_61

set_option maxRecDepth 100000 in
set_option maxHeartbeats 4000000 in
theorem wjX5_kindAt_36 (C : zC p s m args meth c cX5_kindAt RX5 3 D Ca B En) (hRm : zRm R 1 21 cells slots) (σ : zS) (x2 : Int32)  (τ : zS) (r : Int32) (hf : jX5_kindAt_36 σ x2  = some (τ, r)) (hq : ∀ (pc : Nat) (lv : List (Nat × Value)), decode cX5_kindAt pc = .ok (.ireturn, 1) → zW p l e R s m args below meth c cells slots Q D Ca B 3 τ N pc lv [.int r]) : zW p l e R s m args below meth c cells slots Q D Ca B 3 σ N 36 [(2, .int x2)] [] := by
  unfold jX5_kindAt_36 at hf
  refine z_iload_n C dX5_kindAt_36 rfl 0 rfl ?_
  refine z_bipush C (zi 48) dX5_kindAt_37 (by decide) ?_
  refine z_icmp_lt C 50 dX5_kindAt_39 (by decide) (fun q7 => ?_) (fun q7 => ?_)
  · rw [if_pos q7] at hf
    refine z_sub [0] rfl ?_
    exact wjX5_kindAt_50 C hRm _ _  _ _ hf hq
  · rw [if_neg q7] at hf
    refine z_iload_n C dX5_kindAt_42 rfl 0 rfl ?_
    refine z_bipush C (zi 57) dX5_kindAt_43 (by decide) ?_
    refine z_icmp_gt C 50 dX5_kindAt_45 (by decide) (fun q6 => ?_) (fun q6 => ?_)
    · rw [if_pos q6] at hf
      refine z_sub [0] rfl ?_
      exact wjX5_kindAt_50 C hRm _ _  _ _ hf hq
    · rw [if_neg q6] at hf
      refine z_iconst C (zi 2) dX5_kindAt_48 (by decide) ?_
      cases hf
      exact hq _ _ dX5_kindAt_49

set_option maxRecDepth 100000 in
set_option maxHeartbeats 4000000 in
theorem wfX5_kindAt (C : zC p s m args meth c cX5_kindAt RX5 3 D Ca B En) (hRm : zRm R 1 21 cells slots) (σ : zS) (x0 : Nat) (x1 : Int32) (τ : zS) (r : Int32) (hf : fX5_kindAt σ x0 x1 = some (τ, r)) (hq : ∀ (pc : Nat) (lv : List (Nat × Value)), decode cX5_kindAt pc = .ok (.ireturn, 1) → zW p l e R s m args below meth c cells slots Q D Ca B 3 τ N pc lv [.int r]) : zW p l e R s m args below meth c cells slots Q D Ca B 3 σ N 0 [(0, .ref x0), (1, .int x1)] [] := by
  unfold fX5_kindAt at hf
  refine z_iload_n C dX5_kindAt_0 rfl 1 rfl ?_
  refine z_aload_n C dX5_kindAt_1 rfl 0 rfl ?_
  obtain ⟨v1, hv1, hf⟩ := zbind hf
  refine gf_RX5_15 C hv1 dX5_kindAt_2 ?_
  obtain ⟨v2, hv2, hf⟩ := zbind hf
  refine gf_RX5_162 C hv2 dX5_kindAt_5 ?_
  refine z_icmp_lt C 13 dX5_kindAt_8 (by decide) (fun q10 => ?_) (fun q10 => ?_)
  · rw [if_pos q10] at hf
    refine z_aload_n C dX5_kindAt_13 rfl 0 rfl ?_
    obtain ⟨v3, hv3, hf⟩ := zbind hf
    refine gf_RX5_15 C hv3 dX5_kindAt_14 ?_
    refine z_iload_n C dX5_kindAt_17 rfl 1 rfl ?_
    obtain ⟨c4, hc4, hf⟩ := zbind hf
    obtain ⟨kc4, hc4⟩ := zck_ok hc4
    refine z_callVi (As := [.int x1]) (F0 := 1) (L0 := 21) C (mX2_byteAt l D Ca B En C.2.2.2.2.2.2.2.1 σ N v3 x1 _ hc4) hRm kc4 rfl kw_868 kw_2 kw_865 kw_866 kw_867 hyX2_byteAt (Nat.le_of_ble_eq_true rfl) (Nat.le_of_ble_eq_true rfl) rfl rfl (Nat.le_of_ble_eq_true rfl) dX5_kindAt_18 ?_
    refine z_istore_n (lv2 := [(2, .int c4.2), (0, .ref x0), (1, .int x1)]) C dX5_kindAt_21 rfl (by decide) rfl ?_
    refine z_iload_n C dX5_kindAt_22 rfl 0 rfl ?_
    refine z_bipush C (zi 97) dX5_kindAt_23 (by decide) ?_
    refine z_icmp_lt C 36 dX5_kindAt_25 (by decide) (fun q9 => ?_) (fun q9 => ?_)
    · rw [if_pos q9] at hf
      refine z_sub [0] rfl ?_
      exact wjX5_kindAt_36 C hRm _ _  _ _ hf hq
    · rw [if_neg q9] at hf
      refine z_iload_n C dX5_kindAt_28 rfl 0 rfl ?_
      refine z_bipush C (zi 122) dX5_kindAt_29 (by decide) ?_
      refine z_icmp_gt C 36 dX5_kindAt_31 (by decide) (fun q8 => ?_) (fun q8 => ?_)
      · rw [if_pos q8] at hf
        refine z_sub [0] rfl ?_
        exact wjX5_kindAt_36 C hRm _ _  _ _ hf hq
      · rw [if_neg q8] at hf
        refine z_iconst C (zi 1) dX5_kindAt_34 (by decide) ?_
        cases hf
        exact hq _ _ dX5_kindAt_35
  · rw [if_neg q10] at hf
    refine z_iconst C (zi 0) dX5_kindAt_11 (by decide) ?_
    cases hf
    exact hq _ _ dX5_kindAt_12

theorem mX5_kindAt (l : Launch) (D : va_G) (Ca : Nat → ClassId) (B : Nat) (En : State → Prop) (hE : zEk B En) (σ : zS) (N : Nat) (x0 : Nat) (x1 : Int32) (X : zS × Int32) (hf : fX5_kindAt σ x0 x1 = some X) : zMi l D Ca B En yX5_kindAt cX5_kindAt 3 (Option.some Jvm.ClassFile.FieldType.int) 1 21 [.ref x0, .int x1] σ N X.1 X.2 :=
  zMet_i (own := RX5) hE (by decide +kernel) rfl (Nat.le_of_ble_eq_true rfl) (fun p e s m args below meth c C hr hRm => wfX5_kindAt C hRm σ x0 x1 X.1 X.2 hf (fun pc lv hd => zfin_i C hr hd))
theorem dX5_advance_0 : decode cX5_advance 0 = .ok (.aload_n 0, 1) := by decide +kernel
theorem dX5_advance_1 : decode cX5_advance 1 = .ok (.aload_n 0, 1) := by decide +kernel
theorem dX5_advance_2 : decode cX5_advance 2 = .ok (.getfield 31, 3) := by decide +kernel
theorem dX5_advance_5 : decode cX5_advance 5 = .ok (.putfield 114, 3) := by decide +kernel
theorem dX5_advance_8 : decode cX5_advance 8 = .ok (.aload_n 0, 1) := by decide +kernel
theorem dX5_advance_9 : decode cX5_advance 9 = .ok (.getfield 114, 3) := by decide +kernel
theorem dX5_advance_12 : decode cX5_advance 12 = .ok (.aload_n 0, 1) := by decide +kernel
theorem dX5_advance_13 : decode cX5_advance 13 = .ok (.getfield 15, 3) := by decide +kernel
theorem dX5_advance_16 : decode cX5_advance 16 = .ok (.getfield 162, 3) := by decide +kernel
theorem dX5_advance_19 : decode cX5_advance 19 = .ok (.if_icmp .ge 48, 3) := by decide +kernel
theorem dX5_advance_22 : decode cX5_advance 22 = .ok (.aload_n 0, 1) := by decide +kernel
theorem dX5_advance_23 : decode cX5_advance 23 = .ok (.getfield 15, 3) := by decide +kernel
theorem dX5_advance_26 : decode cX5_advance 26 = .ok (.aload_n 0, 1) := by decide +kernel
theorem dX5_advance_27 : decode cX5_advance 27 = .ok (.getfield 114, 3) := by decide +kernel
theorem dX5_advance_30 : decode cX5_advance 30 = .ok (.invokevirtual 131, 3) := by decide +kernel
theorem dX5_advance_33 : decode cX5_advance 33 = .ok (.bipush 32, 2) := by decide +kernel
theorem dX5_advance_35 : decode cX5_advance 35 = .ok (.if_icmp .eq 19, 3) := by decide +kernel
theorem dX5_advance_38 : decode cX5_advance 38 = .ok (.aload_n 0, 1) := by decide +kernel
theorem dX5_advance_39 : decode cX5_advance 39 = .ok (.getfield 15, 3) := by decide +kernel
theorem dX5_advance_42 : decode cX5_advance 42 = .ok (.aload_n 0, 1) := by decide +kernel
theorem dX5_advance_43 : decode cX5_advance 43 = .ok (.getfield 114, 3) := by decide +kernel
theorem dX5_advance_46 : decode cX5_advance 46 = .ok (.invokevirtual 131, 3) := by decide +kernel
theorem dX5_advance_49 : decode cX5_advance 49 = .ok (.bipush 10, 2) := by decide +kernel
theorem dX5_advance_51 : decode cX5_advance 51 = .ok (.if_icmp .ne 16, 3) := by decide +kernel
theorem dX5_advance_54 : decode cX5_advance 54 = .ok (.aload_n 0, 1) := by decide +kernel
theorem dX5_advance_55 : decode cX5_advance 55 = .ok (.dup, 1) := by decide +kernel
theorem dX5_advance_56 : decode cX5_advance 56 = .ok (.getfield 114, 3) := by decide +kernel
theorem dX5_advance_59 : decode cX5_advance 59 = .ok (.iconst 1, 1) := by decide +kernel
theorem dX5_advance_60 : decode cX5_advance 60 = .ok (.iadd, 1) := by decide +kernel
theorem dX5_advance_61 : decode cX5_advance 61 = .ok (.putfield 114, 3) := by decide +kernel
theorem dX5_advance_64 : decode cX5_advance 64 = .ok (.goto (-56), 3) := by decide +kernel
theorem dX5_advance_67 : decode cX5_advance 67 = .ok (.aload_n 0, 1) := by decide +kernel
theorem dX5_advance_68 : decode cX5_advance 68 = .ok (.aload_n 0, 1) := by decide +kernel
theorem dX5_advance_69 : decode cX5_advance 69 = .ok (.aload_n 0, 1) := by decide +kernel
theorem dX5_advance_70 : decode cX5_advance 70 = .ok (.getfield 114, 3) := by decide +kernel
theorem dX5_advance_73 : decode cX5_advance 73 = .ok (.invokevirtual 164, 3) := by decide +kernel
theorem dX5_advance_76 : decode cX5_advance 76 = .ok (.putfield 37, 3) := by decide +kernel
theorem dX5_advance_79 : decode cX5_advance 79 = .ok (.aload_n 0, 1) := by decide +kernel
theorem dX5_advance_80 : decode cX5_advance 80 = .ok (.aload_n 0, 1) := by decide +kernel
theorem dX5_advance_81 : decode cX5_advance 81 = .ok (.getfield 114, 3) := by decide +kernel
theorem dX5_advance_84 : decode cX5_advance 84 = .ok (.putfield 31, 3) := by decide +kernel
theorem dX5_advance_87 : decode cX5_advance 87 = .ok (.aload_n 0, 1) := by decide +kernel
theorem dX5_advance_88 : decode cX5_advance 88 = .ok (.getfield 37, 3) := by decide +kernel
theorem dX5_advance_91 : decode cX5_advance 91 = .ok (.ifCond .ne 4, 3) := by decide +kernel
theorem dX5_advance_94 : decode cX5_advance 94 = .ok (.return_, 1) := by decide +kernel
theorem dX5_advance_95 : decode cX5_advance 95 = .ok (.aload_n 0, 1) := by decide +kernel
theorem dX5_advance_96 : decode cX5_advance 96 = .ok (.dup, 1) := by decide +kernel
theorem dX5_advance_97 : decode cX5_advance 97 = .ok (.getfield 31, 3) := by decide +kernel
theorem dX5_advance_100 : decode cX5_advance 100 = .ok (.iconst 1, 1) := by decide +kernel
theorem dX5_advance_101 : decode cX5_advance 101 = .ok (.iadd, 1) := by decide +kernel
theorem dX5_advance_102 : decode cX5_advance 102 = .ok (.putfield 31, 3) := by decide +kernel
theorem dX5_advance_105 : decode cX5_advance 105 = .ok (.aload_n 0, 1) := by decide +kernel
theorem dX5_advance_106 : decode cX5_advance 106 = .ok (.getfield 37, 3) := by decide +kernel
theorem dX5_advance_109 : decode cX5_advance 109 = .ok (.iconst 1, 1) := by decide +kernel
theorem dX5_advance_110 : decode cX5_advance 110 = .ok (.if_icmp .eq 11, 3) := by decide +kernel
theorem dX5_advance_113 : decode cX5_advance 113 = .ok (.aload_n 0, 1) := by decide +kernel
theorem dX5_advance_114 : decode cX5_advance 114 = .ok (.getfield 37, 3) := by decide +kernel
theorem dX5_advance_117 : decode cX5_advance 117 = .ok (.iconst 2, 1) := by decide +kernel
theorem dX5_advance_118 : decode cX5_advance 118 = .ok (.if_icmp .ne 45, 3) := by decide +kernel
theorem dX5_advance_121 : decode cX5_advance 121 = .ok (.aload_n 0, 1) := by decide +kernel
theorem dX5_advance_122 : decode cX5_advance 122 = .ok (.getfield 31, 3) := by decide +kernel
theorem dX5_advance_125 : decode cX5_advance 125 = .ok (.aload_n 0, 1) := by decide +kernel
theorem dX5_advance_126 : decode cX5_advance 126 = .ok (.getfield 15, 3) := by decide +kernel
theorem dX5_advance_129 : decode cX5_advance 129 = .ok (.getfield 162, 3) := by decide +kernel
theorem dX5_advance_132 : decode cX5_advance 132 = .ok (.if_icmp .ge 31, 3) := by decide +kernel
theorem dX5_advance_135 : decode cX5_advance 135 = .ok (.aload_n 0, 1) := by decide +kernel
theorem dX5_advance_136 : decode cX5_advance 136 = .ok (.aload_n 0, 1) := by decide +kernel
theorem dX5_advance_137 : decode cX5_advance 137 = .ok (.getfield 31, 3) := by decide +kernel
theorem dX5_advance_140 : decode cX5_advance 140 = .ok (.invokevirtual 164, 3) := by decide +kernel
theorem dX5_advance_143 : decode cX5_advance 143 = .ok (.aload_n 0, 1) := by decide +kernel
theorem dX5_advance_144 : decode cX5_advance 144 = .ok (.getfield 37, 3) := by decide +kernel
theorem dX5_advance_147 : decode cX5_advance 147 = .ok (.if_icmp .ne 16, 3) := by decide +kernel
theorem dX5_advance_150 : decode cX5_advance 150 = .ok (.aload_n 0, 1) := by decide +kernel
theorem dX5_advance_151 : decode cX5_advance 151 = .ok (.dup, 1) := by decide +kernel
theorem dX5_advance_152 : decode cX5_advance 152 = .ok (.getfield 31, 3) := by decide +kernel
theorem dX5_advance_155 : decode cX5_advance 155 = .ok (.iconst 1, 1) := by decide +kernel
theorem dX5_advance_156 : decode cX5_advance 156 = .ok (.iadd, 1) := by decide +kernel
theorem dX5_advance_157 : decode cX5_advance 157 = .ok (.putfield 31, 3) := by decide +kernel
theorem dX5_advance_160 : decode cX5_advance 160 = .ok (.goto (-55), 3) := by decide +kernel
theorem dX5_advance_163 : decode cX5_advance 163 = .ok (.return_, 1) := by decide +kernel
theorem hyX5_advance : yX5_advance.cls ≠ "java/lang/invoke/MethodHandle" ∧ yX5_advance.cls ≠ "java/lang/invoke/VarHandle" ∧ (parseMethodDescriptor yX5_advance.desc).map (fun d => d.parameters.length) = some 0 := ⟨by decide +kernel, by decide +kernel, by decide +kernel⟩
set_option maxRecDepth 100000 in
set_option maxHeartbeats 4000000 in
theorem wjX5_advance_54_L8 (C : zC p s m args meth c cX5_advance RX5 1 D Ca B En) (hRm : zRm R 2 43 cells slots) (σ : zS) (x0 : Nat)  (y : zS ⊕ zS) (hf : jX5_advance_54_L8 σ x0  = some y) (hk : (∀ z : zS, y = .inl z → zW p l e R s m args below meth c cells slots Q D Ca B 1 z N 8 [(0, .ref x0)] []) ∧ (∀ z : zS, y = .inr z → zW p l e R s m args below meth c cells slots Q D Ca B 1 z N 67 [(0, .ref x0)] [])) : zW p l e R s m args below meth c cells slots Q D Ca B 1 σ N 54 [(0, .ref x0)] [] := by
  unfold jX5_advance_54_L8 at hf
  refine z_aload_n C dX5_advance_54 rfl 0 rfl ?_
  refine z_dup C dX5_advance_55 rfl ?_
  obtain ⟨v9, hv9, hf⟩ := zbind hf
  refine gf_RX5_114 C hv9 dX5_advance_56 ?_
  refine z_iconst C (zi 1) dX5_advance_59 (by decide) ?_
  refine z_iadd C dX5_advance_60 ?_
  obtain ⟨σ10, hσ10, hf⟩ := zbind hf
  refine gp_RX5_114 C hσ10 dX5_advance_61 ?_
  refine z_goto C 8 dX5_advance_64 (by decide) ?_
  cases hf
  refine z_sub [0] rfl ?_
  exact hk.1 _ rfl

set_option maxRecDepth 100000 in
set_option maxHeartbeats 4000000 in
theorem wsX5_advance_8b (C : zC p s m args meth c cX5_advance RX5 1 D Ca B En) (hRm : zRm R 2 43 cells slots) (x0 : Nat) (σ : zS)  (y : zS ⊕ zS) (hf : sX5_advance_8b x0 σ  = some y) (hk : (∀ z : zS, y = .inl z → zW p l e R s m args below meth c cells slots Q D Ca B 1 z N 8 [(0, .ref x0)] []) ∧ (∀ z : zS, y = .inr z → zW p l e R s m args below meth c cells slots Q D Ca B 1 z N 67 [(0, .ref x0)] [])) : zW p l e R s m args below meth c cells slots Q D Ca B 1 σ N 8 [(0, .ref x0)] [] := by
  unfold sX5_advance_8b at hf
  refine z_aload_n C dX5_advance_8 rfl 0 rfl ?_
  obtain ⟨v3, hv3, hf⟩ := zbind hf
  refine gf_RX5_114 C hv3 dX5_advance_9 ?_
  refine z_aload_n C dX5_advance_12 rfl 0 rfl ?_
  obtain ⟨v4, hv4, hf⟩ := zbind hf
  refine gf_RX5_15 C hv4 dX5_advance_13 ?_
  obtain ⟨v5, hv5, hf⟩ := zbind hf
  refine gf_RX5_162 C hv5 dX5_advance_16 ?_
  refine z_icmp_ge C 67 dX5_advance_19 (by decide) (fun q16 => ?_) (fun q16 => ?_)
  · rw [if_pos q16] at hf
    cases hf
    refine z_sub [0] rfl ?_
    exact hk.2 _ rfl
  · rw [if_neg q16] at hf
    refine z_aload_n C dX5_advance_22 rfl 0 rfl ?_
    obtain ⟨v6, hv6, hf⟩ := zbind hf
    refine gf_RX5_15 C hv6 dX5_advance_23 ?_
    refine z_aload_n C dX5_advance_26 rfl 0 rfl ?_
    obtain ⟨v7, hv7, hf⟩ := zbind hf
    refine gf_RX5_114 C hv7 dX5_advance_27 ?_
    obtain ⟨c8, hc8, hf⟩ := zbind hf
    obtain ⟨kc8, hc8⟩ := zck_ok hc8
    refine z_callVi (As := [.int v7]) (F0 := 2) (L0 := 43) C (mX2_byteAt l D Ca B En C.2.2.2.2.2.2.2.1 σ N v6 v7 _ hc8) hRm kc8 rfl kw_868 kw_2 kw_865 kw_866 kw_867 hyX2_byteAt (Nat.le_of_ble_eq_true rfl) (Nat.le_of_ble_eq_true rfl) rfl rfl (Nat.le_of_ble_eq_true rfl) dX5_advance_30 ?_
    refine z_bipush C (zi 32) dX5_advance_33 (by decide) ?_
    refine z_icmp_eq C 54 dX5_advance_35 (by decide) (fun q15 => ?_) (fun q15 => ?_)
    · rw [if_pos q15] at hf
      refine z_sub [0] rfl ?_
      exact wjX5_advance_54_L8 C hRm _ _  _ hf hk
    · rw [if_neg q15] at hf
      refine z_aload_n C dX5_advance_38 rfl 0 rfl ?_
      obtain ⟨v11, hv11, hf⟩ := zbind hf
      refine gf_RX5_15 C hv11 dX5_advance_39 ?_
      refine z_aload_n C dX5_advance_42 rfl 0 rfl ?_
      obtain ⟨v12, hv12, hf⟩ := zbind hf
      refine gf_RX5_114 C hv12 dX5_advance_43 ?_
      obtain ⟨c13, hc13, hf⟩ := zbind hf
      obtain ⟨kc13, hc13⟩ := zck_ok hc13
      refine z_callVi (As := [.int v12]) (F0 := 2) (L0 := 43) C (mX2_byteAt l D Ca B En C.2.2.2.2.2.2.2.1 c8.1 N v11 v12 _ hc13) hRm kc13 rfl kw_868 kw_2 kw_865 kw_866 kw_867 hyX2_byteAt (Nat.le_of_ble_eq_true rfl) (Nat.le_of_ble_eq_true rfl) rfl rfl (Nat.le_of_ble_eq_true rfl) dX5_advance_46 ?_
      refine z_bipush C (zi 10) dX5_advance_49 (by decide) ?_
      refine z_icmp_ne C 67 dX5_advance_51 (by decide) (fun q14 => ?_) (fun q14 => ?_)
      · rw [if_neg q14] at hf
        cases hf
        refine z_sub [0] rfl ?_
        exact hk.2 _ rfl
      · rw [if_pos q14] at hf
        refine z_sub [0] rfl ?_
        exact wjX5_advance_54_L8 C hRm _ _  _ hf hk

theorem wsX5_advance_8 (C : zC p s m args meth c cX5_advance RX5 1 D Ca B En) (hRm : zRm R 2 43 cells slots) (x0 : Nat) (n : Nat) (z : zS) (x : zS) (hf : zloop (sX5_advance_8 x0) n z = some x) (hk : (∀ o : zS, x = o → zW p l e R s m args below meth c cells slots Q D Ca B 1 o N 67 [(0, .ref x0)] [])) : zW p l e R s m args below meth c cells slots Q D Ca B 1 z N 8 [(0, .ref x0)] [] := by
  refine zloop_W (P := fun z : zS => zW p l e R s m args below meth c cells slots Q D Ca B 1 z N 8 [(0, .ref x0)] []) (K := fun x : zS => (∀ o : zS, x = o → zW p l e R s m args below meth c cells slots Q D Ca B 1 o N 67 [(0, .ref x0)] [])) ?_ n z x hf hk
  intro z y hy h1 h2
  refine wsX5_advance_8b C hRm x0 z y hy ⟨fun z2 e => h1 z2 e, fun o e => (h2 _ e) o rfl⟩
set_option maxRecDepth 100000 in
set_option maxHeartbeats 4000000 in
theorem wjX5_advance_121_L105 (C : zC p s m args meth c cX5_advance RX5 1 D Ca B En) (hRm : zRm R 2 43 cells slots) (σ : zS) (x0 : Nat)  (y : zS ⊕ zS) (hf : jX5_advance_121_L105 σ x0  = some y) (hk : (∀ z : zS, y = .inl z → zW p l e R s m args below meth c cells slots Q D Ca B 1 z N 105 [(0, .ref x0)] []) ∧ (∀ z : zS, y = .inr z → zW p l e R s m args below meth c cells slots Q D Ca B 1 z N 163 [] [])) : zW p l e R s m args below meth c cells slots Q D Ca B 1 σ N 121 [(0, .ref x0)] [] := by
  unfold jX5_advance_121_L105 at hf
  refine z_aload_n C dX5_advance_121 rfl 0 rfl ?_
  obtain ⟨v27, hv27, hf⟩ := zbind hf
  refine gf_RX5_31 C hv27 dX5_advance_122 ?_
  refine z_aload_n C dX5_advance_125 rfl 0 rfl ?_
  obtain ⟨v28, hv28, hf⟩ := zbind hf
  refine gf_RX5_15 C hv28 dX5_advance_126 ?_
  obtain ⟨v29, hv29, hf⟩ := zbind hf
  refine gf_RX5_162 C hv29 dX5_advance_129 ?_
  refine z_icmp_ge C 163 dX5_advance_132 (by decide) (fun q36 => ?_) (fun q36 => ?_)
  · rw [if_pos q36] at hf
    cases hf
    refine z_sub [] rfl ?_
    exact hk.2 _ rfl
  · rw [if_neg q36] at hf
    refine z_aload_n C dX5_advance_135 rfl 0 rfl ?_
    refine z_aload_n C dX5_advance_136 rfl 0 rfl ?_
    obtain ⟨v30, hv30, hf⟩ := zbind hf
    refine gf_RX5_31 C hv30 dX5_advance_137 ?_
    obtain ⟨c31, hc31, hf⟩ := zbind hf
    obtain ⟨kc31, hc31⟩ := zck_ok hc31
    refine z_callVi (As := [.int v30]) (F0 := 2) (L0 := 43) C (mX5_kindAt l D Ca B En C.2.2.2.2.2.2.2.1 σ N x0 v30 _ hc31) hRm kc31 rfl kw_872 kw_3 kw_869 kw_871 kp_20 hyX5_kindAt (Nat.le_of_ble_eq_true rfl) (Nat.le_of_ble_eq_true rfl) rfl rfl (Nat.le_of_ble_eq_true rfl) dX5_advance_140 ?_
    refine z_aload_n C dX5_advance_143 rfl 0 rfl ?_
    obtain ⟨v32, hv32, hf⟩ := zbind hf
    refine gf_RX5_37 C hv32 dX5_advance_144 ?_
    refine z_icmp_ne C 163 dX5_advance_147 (by decide) (fun q35 => ?_) (fun q35 => ?_)
    · rw [if_neg q35] at hf
      cases hf
      refine z_sub [] rfl ?_
      exact hk.2 _ rfl
    · rw [if_pos q35] at hf
      refine z_aload_n C dX5_advance_150 rfl 0 rfl ?_
      refine z_dup C dX5_advance_151 rfl ?_
      obtain ⟨v33, hv33, hf⟩ := zbind hf
      refine gf_RX5_31 C hv33 dX5_advance_152 ?_
      refine z_iconst C (zi 1) dX5_advance_155 (by decide) ?_
      refine z_iadd C dX5_advance_156 ?_
      obtain ⟨σ34, hσ34, hf⟩ := zbind hf
      refine gp_RX5_31 C hσ34 dX5_advance_157 ?_
      refine z_goto C 105 dX5_advance_160 (by decide) ?_
      cases hf
      refine z_sub [0] rfl ?_
      exact hk.1 _ rfl

set_option maxRecDepth 100000 in
set_option maxHeartbeats 4000000 in
theorem wsX5_advance_105b (C : zC p s m args meth c cX5_advance RX5 1 D Ca B En) (hRm : zRm R 2 43 cells slots) (x0 : Nat) (σ : zS)  (y : zS ⊕ zS) (hf : sX5_advance_105b x0 σ  = some y) (hk : (∀ z : zS, y = .inl z → zW p l e R s m args below meth c cells slots Q D Ca B 1 z N 105 [(0, .ref x0)] []) ∧ (∀ z : zS, y = .inr z → zW p l e R s m args below meth c cells slots Q D Ca B 1 z N 163 [] [])) : zW p l e R s m args below meth c cells slots Q D Ca B 1 σ N 105 [(0, .ref x0)] [] := by
  unfold sX5_advance_105b at hf
  refine z_aload_n C dX5_advance_105 rfl 0 rfl ?_
  obtain ⟨v26, hv26, hf⟩ := zbind hf
  refine gf_RX5_37 C hv26 dX5_advance_106 ?_
  refine z_iconst C (zi 1) dX5_advance_109 (by decide) ?_
  refine z_icmp_eq C 121 dX5_advance_110 (by decide) (fun q39 => ?_) (fun q39 => ?_)
  · rw [if_pos q39] at hf
    refine z_sub [0] rfl ?_
    exact wjX5_advance_121_L105 C hRm _ _  _ hf hk
  · rw [if_neg q39] at hf
    refine z_aload_n C dX5_advance_113 rfl 0 rfl ?_
    obtain ⟨v37, hv37, hf⟩ := zbind hf
    refine gf_RX5_37 C hv37 dX5_advance_114 ?_
    refine z_iconst C (zi 2) dX5_advance_117 (by decide) ?_
    refine z_icmp_ne C 163 dX5_advance_118 (by decide) (fun q38 => ?_) (fun q38 => ?_)
    · rw [if_neg q38] at hf
      cases hf
      refine z_sub [] rfl ?_
      exact hk.2 _ rfl
    · rw [if_pos q38] at hf
      refine z_sub [0] rfl ?_
      exact wjX5_advance_121_L105 C hRm _ _  _ hf hk

theorem wsX5_advance_105 (C : zC p s m args meth c cX5_advance RX5 1 D Ca B En) (hRm : zRm R 2 43 cells slots) (x0 : Nat) (n : Nat) (z : zS) (x : zS) (hf : zloop (sX5_advance_105 x0) n z = some x) (hk : (∀ o : zS, x = o → zW p l e R s m args below meth c cells slots Q D Ca B 1 o N 163 [] [])) : zW p l e R s m args below meth c cells slots Q D Ca B 1 z N 105 [(0, .ref x0)] [] := by
  refine zloop_W (P := fun z : zS => zW p l e R s m args below meth c cells slots Q D Ca B 1 z N 105 [(0, .ref x0)] []) (K := fun x : zS => (∀ o : zS, x = o → zW p l e R s m args below meth c cells slots Q D Ca B 1 o N 163 [] [])) ?_ n z x hf hk
  intro z y hy h1 h2
  refine wsX5_advance_105b C hRm x0 z y hy ⟨fun z2 e => h1 z2 e, fun o e => (h2 _ e) o rfl⟩
set_option maxRecDepth 100000 in
set_option maxHeartbeats 4000000 in
theorem wjX5_advance_67 (C : zC p s m args meth c cX5_advance RX5 1 D Ca B En) (hRm : zRm R 2 43 cells slots) (σ : zS) (x0 : Nat)  (τ : zS) (hf : jX5_advance_67 σ x0  = some τ) (hq : ∀ (pc : Nat) (lv : List (Nat × Value)), decode cX5_advance pc = .ok (.return_, 1) → zW p l e R s m args below meth c cells slots Q D Ca B 1 τ N pc lv []) : zW p l e R s m args below meth c cells slots Q D Ca B 1 σ N 67 [(0, .ref x0)] [] := by
  unfold jX5_advance_67 at hf
  refine z_aload_n C dX5_advance_67 rfl 0 rfl ?_
  refine z_aload_n C dX5_advance_68 rfl 0 rfl ?_
  refine z_aload_n C dX5_advance_69 rfl 0 rfl ?_
  obtain ⟨v18, hv18, hf⟩ := zbind hf
  refine gf_RX5_114 C hv18 dX5_advance_70 ?_
  obtain ⟨c19, hc19, hf⟩ := zbind hf
  obtain ⟨kc19, hc19⟩ := zck_ok hc19
  refine z_callVi (As := [.int v18]) (F0 := 2) (L0 := 43) C (mX5_kindAt l D Ca B En C.2.2.2.2.2.2.2.1 σ N x0 v18 _ hc19) hRm kc19 rfl kw_872 kw_3 kw_869 kw_871 kp_20 hyX5_kindAt (Nat.le_of_ble_eq_true rfl) (Nat.le_of_ble_eq_true rfl) rfl rfl (Nat.le_of_ble_eq_true rfl) dX5_advance_73 ?_
  obtain ⟨σ20, hσ20, hf⟩ := zbind hf
  refine gp_RX5_37 C hσ20 dX5_advance_76 ?_
  refine z_aload_n C dX5_advance_79 rfl 0 rfl ?_
  refine z_aload_n C dX5_advance_80 rfl 0 rfl ?_
  obtain ⟨v21, hv21, hf⟩ := zbind hf
  refine gf_RX5_114 C hv21 dX5_advance_81 ?_
  obtain ⟨σ22, hσ22, hf⟩ := zbind hf
  refine gp_RX5_31 C hσ22 dX5_advance_84 ?_
  refine z_aload_n C dX5_advance_87 rfl 0 rfl ?_
  obtain ⟨v23, hv23, hf⟩ := zbind hf
  refine gf_RX5_37 C hv23 dX5_advance_88 ?_
  refine z_if_ne C 95 dX5_advance_91 (by decide) (fun q41 => ?_) (fun q41 => ?_)
  · rw [if_neg q41] at hf
    refine z_aload_n C dX5_advance_95 rfl 0 rfl ?_
    refine z_dup C dX5_advance_96 rfl ?_
    obtain ⟨v24, hv24, hf⟩ := zbind hf
    refine gf_RX5_31 C hv24 dX5_advance_97 ?_
    refine z_iconst C (zi 1) dX5_advance_100 (by decide) ?_
    refine z_iadd C dX5_advance_101 ?_
    obtain ⟨σ25, hσ25, hf⟩ := zbind hf
    refine gp_RX5_31 C hσ25 dX5_advance_102 ?_
    obtain ⟨o40, ho40, hf⟩ := zbind hf
    refine z_sub [0] rfl ?_
    refine wsX5_advance_105 C hRm _ zfuel σ25 o40 ho40 ?_
    intro z9 e9
    subst e9
    cases hf
    exact hq _ _ dX5_advance_163
  · rw [if_pos q41] at hf
    cases hf
    exact hq _ _ dX5_advance_94

set_option maxRecDepth 100000 in
set_option maxHeartbeats 4000000 in
theorem wfX5_advance (C : zC p s m args meth c cX5_advance RX5 1 D Ca B En) (hRm : zRm R 2 43 cells slots) (σ : zS) (x0 : Nat) (τ : zS) (hf : fX5_advance σ x0 = some τ) (hq : ∀ (pc : Nat) (lv : List (Nat × Value)), decode cX5_advance pc = .ok (.return_, 1) → zW p l e R s m args below meth c cells slots Q D Ca B 1 τ N pc lv []) : zW p l e R s m args below meth c cells slots Q D Ca B 1 σ N 0 [(0, .ref x0)] [] := by
  unfold fX5_advance at hf
  refine z_aload_n C dX5_advance_0 rfl 0 rfl ?_
  refine z_aload_n C dX5_advance_1 rfl 0 rfl ?_
  obtain ⟨v1, hv1, hf⟩ := zbind hf
  refine gf_RX5_31 C hv1 dX5_advance_2 ?_
  obtain ⟨σ2, hσ2, hf⟩ := zbind hf
  refine gp_RX5_114 C hσ2 dX5_advance_5 ?_
  obtain ⟨o17, ho17, hf⟩ := zbind hf
  refine z_sub [0] rfl ?_
  refine wsX5_advance_8 C hRm _ zfuel σ2 o17 ho17 ?_
  intro z9 e9
  subst e9
  refine z_sub [0] rfl ?_
  exact wjX5_advance_67 C hRm _ _  _ hf hq

theorem mX5_advance (l : Launch) (D : va_G) (Ca : Nat → ClassId) (B : Nat) (En : State → Prop) (hE : zEk B En) (σ : zS) (N : Nat) (x0 : Nat) (X : zS) (hf : fX5_advance σ x0 = some X) : zMv l D Ca B En yX5_advance cX5_advance 1 (Option.none : Option Jvm.ClassFile.FieldType) 2 43 [.ref x0] σ N X () :=
  zMet_v (own := RX5) hE (by decide +kernel) rfl (Nat.le_of_ble_eq_true rfl) (fun p e s m args below meth c C hr hRm => wfX5_advance C hRm σ x0 X hf (fun pc lv hd => zfin_v (r := ()) C hr hd))
theorem dJ0_coder_7d493_0 : decode cJ0_coder_7d493 0 = .ok (.getstatic 38, 3) := by decide +kernel
theorem dJ0_coder_7d493_3 : decode cJ0_coder_7d493 3 = .ok (.ifCond .eq 10, 3) := by decide +kernel
theorem dJ0_coder_7d493_6 : decode cJ0_coder_7d493 6 = .ok (.aload_n 0, 1) := by decide +kernel
theorem dJ0_coder_7d493_7 : decode cJ0_coder_7d493 7 = .ok (.getfield 15, 3) := by decide +kernel
theorem dJ0_coder_7d493_10 : decode cJ0_coder_7d493 10 = .ok (.goto 4, 3) := by decide +kernel
theorem dJ0_coder_7d493_13 : decode cJ0_coder_7d493 13 = .ok (.iconst 1, 1) := by decide +kernel
theorem dJ0_coder_7d493_14 : decode cJ0_coder_7d493 14 = .ok (.ireturn, 1) := by decide +kernel
theorem hyJ0_coder_7d493 : yJ0_coder_7d493.cls ≠ "java/lang/invoke/MethodHandle" ∧ yJ0_coder_7d493.cls ≠ "java/lang/invoke/VarHandle" ∧ (parseMethodDescriptor yJ0_coder_7d493.desc).map (fun d => d.parameters.length) = some 0 := ⟨by decide +kernel, by decide +kernel, by decide +kernel⟩
set_option maxRecDepth 100000 in
set_option maxHeartbeats 4000000 in
theorem wfJ0_coder_7d493 (C : zC p s m args meth c cJ0_coder_7d493 RJ0 1 D Ca B En) (hRm : zRm R 0 0 cells slots) (ev : zEv) (hZ : ∀ U : State, En U → zEnv ev B U) (σ : zS) (x0 : Nat) (τ : zS) (r : Int32) (hf : fJ0_coder_7d493 σ x0 = some (τ, r)) (hq : ∀ (pc : Nat) (lv : List (Nat × Value)), (r.toInt8.toInt32 = r) → decode cJ0_coder_7d493 pc = .ok (.ireturn, 1) → zW p l e R s m args below meth c cells slots Q D Ca B 1 τ N pc lv [.int r]) : zW p l e R s m args below meth c cells slots Q D Ca B 1 σ N 0 [(0, .ref (ev.2.1 x0))] [] := by
  unfold fJ0_coder_7d493 at hf
  refine z_gsC C ev hZ kw_796 dJ0_coder_7d493_0 ?_
  refine z_if_eq C 13 dJ0_coder_7d493_3 (by decide) (fun q2 => ?_) (fun q2 => ?_)
  · rw [if_pos q2] at hf
    refine z_iconst C (zi 1) dJ0_coder_7d493_13 (by decide) ?_
    obtain ⟨e9, b9⟩ := zrB_ok hf
    cases e9
    exact hq _ _ b9 dJ0_coder_7d493_14
  · rw [if_neg q2] at hf
    refine z_aload_n C dJ0_coder_7d493_6 rfl 0 rfl ?_
    obtain ⟨v1, hv1, hf⟩ := zbind hf
    refine z_gSc C ev hZ hv1 kw_1174 dJ0_coder_7d493_7 ?_
    refine z_goto C 14 dJ0_coder_7d493_10 (by decide) ?_
    obtain ⟨e9, b9⟩ := zrB_ok hf
    cases e9
    exact hq _ _ b9 dJ0_coder_7d493_14

theorem mJ0_coder_7d493 (l : Launch) (D : va_G) (Ca : Nat → ClassId) (B : Nat) (En : State → Prop) (hE : zEk B En) (ev : zEv) (hZ : ∀ U : State, En U → zEnv ev B U) (σ : zS) (N : Nat) (x0 : Nat) (X : zS × Int32) (hf : fJ0_coder_7d493 σ x0 = some X) : zMi l D Ca B En yJ0_coder_7d493 cJ0_coder_7d493 1 (Option.some Jvm.ClassFile.FieldType.byte) 0 0 [.ref (ev.2.1 x0)] σ N X.1 X.2 :=
  zMet_i (own := RJ0) hE (by decide +kernel) rfl (Nat.le_of_ble_eq_true rfl) (fun p e s m args below meth c C hr hRm => wfJ0_coder_7d493 C hRm ev hZ σ x0 X.1 X.2 hf (fun pc lv hb hd => zfin_b C hb hr hd))
theorem dJ0_length_8abf5_0 : decode cJ0_length_8abf5 0 = .ok (.aload_n 0, 1) := by decide +kernel
theorem dJ0_length_8abf5_1 : decode cJ0_length_8abf5 1 = .ok (.getfield 9, 3) := by decide +kernel
theorem dJ0_length_8abf5_4 : decode cJ0_length_8abf5 4 = .ok (.arraylength, 1) := by decide +kernel
theorem dJ0_length_8abf5_5 : decode cJ0_length_8abf5 5 = .ok (.aload_n 0, 1) := by decide +kernel
theorem dJ0_length_8abf5_6 : decode cJ0_length_8abf5 6 = .ok (.invokevirtual 335, 3) := by decide +kernel
theorem dJ0_length_8abf5_9 : decode cJ0_length_8abf5 9 = .ok (.ishr, 1) := by decide +kernel
theorem dJ0_length_8abf5_10 : decode cJ0_length_8abf5 10 = .ok (.ireturn, 1) := by decide +kernel
theorem hyJ0_length_8abf5 : yJ0_length_8abf5.cls ≠ "java/lang/invoke/MethodHandle" ∧ yJ0_length_8abf5.cls ≠ "java/lang/invoke/VarHandle" ∧ (parseMethodDescriptor yJ0_length_8abf5.desc).map (fun d => d.parameters.length) = some 0 := ⟨by decide +kernel, by decide +kernel, by decide +kernel⟩
set_option maxRecDepth 100000 in
set_option maxHeartbeats 4000000 in
theorem wfJ0_length_8abf5 (C : zC p s m args meth c cJ0_length_8abf5 RJ0 1 D Ca B En) (hRm : zRm R 1 20 cells slots) (ev : zEv) (hZ : ∀ U : State, En U → zEnv ev B U) (σ : zS) (x0 : Nat) (τ : zS) (r : Int32) (hf : fJ0_length_8abf5 σ x0 = some (τ, r)) (hq : ∀ (pc : Nat) (lv : List (Nat × Value)), decode cJ0_length_8abf5 pc = .ok (.ireturn, 1) → zW p l e R s m args below meth c cells slots Q D Ca B 1 τ N pc lv [.int r]) : zW p l e R s m args below meth c cells slots Q D Ca B 1 σ N 0 [(0, .ref (ev.2.1 x0))] [] := by
  unfold fJ0_length_8abf5 at hf
  refine z_aload_n C dJ0_length_8abf5_0 rfl 0 rfl ?_
  obtain ⟨v1, hv1, hf⟩ := zbind hf
  refine z_gSv C ev hZ hv1 kw_1173 dJ0_length_8abf5_1 ?_
  obtain ⟨v2, hv2, hf⟩ := zbind hf
  refine z_alenV C ev hZ hv2 dJ0_length_8abf5_4 ?_
  refine z_aload_n C dJ0_length_8abf5_5 rfl 0 rfl ?_
  obtain ⟨c3, hc3, hf⟩ := zbind hf
  obtain ⟨kc3, hc3⟩ := zsck_ok hc3
  refine z_callTi (As := []) (F0 := 1) (L0 := 20) C ev hZ (mJ0_coder_7d493 l D Ca B En C.2.2.2.2.2.2.2.1 ev hZ σ N x0  _ hc3) hRm kc3 rfl kw_795 kw_16 kw_792 kw_793 kw_794 hyJ0_coder_7d493 (Nat.le_of_ble_eq_true rfl) (Nat.le_of_ble_eq_true rfl) rfl rfl (Nat.le_of_ble_eq_true rfl) dJ0_length_8abf5_6 ?_
  refine z_ishr C dJ0_length_8abf5_9 ?_
  cases hf
  exact hq _ _ dJ0_length_8abf5_10

theorem mJ0_length_8abf5 (l : Launch) (D : va_G) (Ca : Nat → ClassId) (B : Nat) (En : State → Prop) (hE : zEk B En) (ev : zEv) (hZ : ∀ U : State, En U → zEnv ev B U) (σ : zS) (N : Nat) (x0 : Nat) (X : zS × Int32) (hf : fJ0_length_8abf5 σ x0 = some X) : zMi l D Ca B En yJ0_length_8abf5 cJ0_length_8abf5 1 (Option.some Jvm.ClassFile.FieldType.int) 1 20 [.ref (ev.2.1 x0)] σ N X.1 X.2 :=
  zMet_i (own := RJ0) hE (by decide +kernel) rfl (Nat.le_of_ble_eq_true rfl) (fun p e s m args below meth c C hr hRm => wfJ0_length_8abf5 C hRm ev hZ σ x0 X.1 X.2 hf (fun pc lv hd => zfin_i C hr hd))
theorem dJ0_isLatin1_aae02_0 : decode cJ0_isLatin1_aae02 0 = .ok (.getstatic 38, 3) := by decide +kernel
theorem dJ0_isLatin1_aae02_3 : decode cJ0_isLatin1_aae02 3 = .ok (.ifCond .eq 14, 3) := by decide +kernel
theorem dJ0_isLatin1_aae02_6 : decode cJ0_isLatin1_aae02 6 = .ok (.aload_n 0, 1) := by decide +kernel
theorem dJ0_isLatin1_aae02_7 : decode cJ0_isLatin1_aae02 7 = .ok (.getfield 15, 3) := by decide +kernel
theorem dJ0_isLatin1_aae02_10 : decode cJ0_isLatin1_aae02 10 = .ok (.ifCond .ne 7, 3) := by decide +kernel
theorem dJ0_isLatin1_aae02_13 : decode cJ0_isLatin1_aae02 13 = .ok (.iconst 1, 1) := by decide +kernel
theorem dJ0_isLatin1_aae02_14 : decode cJ0_isLatin1_aae02 14 = .ok (.goto 4, 3) := by decide +kernel
theorem dJ0_isLatin1_aae02_17 : decode cJ0_isLatin1_aae02 17 = .ok (.iconst 0, 1) := by decide +kernel
theorem dJ0_isLatin1_aae02_18 : decode cJ0_isLatin1_aae02 18 = .ok (.ireturn, 1) := by decide +kernel
theorem hyJ0_isLatin1_aae02 : yJ0_isLatin1_aae02.cls ≠ "java/lang/invoke/MethodHandle" ∧ yJ0_isLatin1_aae02.cls ≠ "java/lang/invoke/VarHandle" ∧ (parseMethodDescriptor yJ0_isLatin1_aae02.desc).map (fun d => d.parameters.length) = some 0 := ⟨by decide +kernel, by decide +kernel, by decide +kernel⟩
set_option maxRecDepth 100000 in
set_option maxHeartbeats 4000000 in
theorem wfJ0_isLatin1_aae02 (C : zC p s m args meth c cJ0_isLatin1_aae02 RJ0 1 D Ca B En) (hRm : zRm R 0 0 cells slots) (ev : zEv) (hZ : ∀ U : State, En U → zEnv ev B U) (σ : zS) (x0 : Nat) (τ : zS) (r : Int32) (hf : fJ0_isLatin1_aae02 σ x0 = some (τ, r)) (hq : ∀ (pc : Nat) (lv : List (Nat × Value)), (r = 0 ∨ r = 1) → decode cJ0_isLatin1_aae02 pc = .ok (.ireturn, 1) → zW p l e R s m args below meth c cells slots Q D Ca B 1 τ N pc lv [.int r]) : zW p l e R s m args below meth c cells slots Q D Ca B 1 σ N 0 [(0, .ref (ev.2.1 x0))] [] := by
  unfold fJ0_isLatin1_aae02 at hf
  refine z_gsC C ev hZ kw_796 dJ0_isLatin1_aae02_0 ?_
  refine z_if_eq C 17 dJ0_isLatin1_aae02_3 (by decide) (fun q3 => ?_) (fun q3 => ?_)
  · rw [if_pos q3] at hf
    refine z_iconst C (zi 0) dJ0_isLatin1_aae02_17 (by decide) ?_
    obtain ⟨e9, b9⟩ := zrZ_ok hf
    cases e9
    exact hq _ _ b9 dJ0_isLatin1_aae02_18
  · rw [if_neg q3] at hf
    refine z_aload_n C dJ0_isLatin1_aae02_6 rfl 0 rfl ?_
    obtain ⟨v1, hv1, hf⟩ := zbind hf
    refine z_gSc C ev hZ hv1 kw_1174 dJ0_isLatin1_aae02_7 ?_
    refine z_if_ne C 17 dJ0_isLatin1_aae02_10 (by decide) (fun q2 => ?_) (fun q2 => ?_)
    · rw [if_neg q2] at hf
      refine z_iconst C (zi 0) dJ0_isLatin1_aae02_17 (by decide) ?_
      obtain ⟨e9, b9⟩ := zrZ_ok hf
      cases e9
      exact hq _ _ b9 dJ0_isLatin1_aae02_18
    · rw [if_pos q2] at hf
      refine z_iconst C (zi 1) dJ0_isLatin1_aae02_13 (by decide) ?_
      refine z_goto C 18 dJ0_isLatin1_aae02_14 (by decide) ?_
      obtain ⟨e9, b9⟩ := zrZ_ok hf
      cases e9
      exact hq _ _ b9 dJ0_isLatin1_aae02_18

theorem mJ0_isLatin1_aae02 (l : Launch) (D : va_G) (Ca : Nat → ClassId) (B : Nat) (En : State → Prop) (hE : zEk B En) (ev : zEv) (hZ : ∀ U : State, En U → zEnv ev B U) (σ : zS) (N : Nat) (x0 : Nat) (X : zS × Int32) (hf : fJ0_isLatin1_aae02 σ x0 = some X) : zMi l D Ca B En yJ0_isLatin1_aae02 cJ0_isLatin1_aae02 1 (Option.some Jvm.ClassFile.FieldType.boolean) 0 0 [.ref (ev.2.1 x0)] σ N X.1 X.2 :=
  zMet_i (own := RJ0) hE (by decide +kernel) rfl (Nat.le_of_ble_eq_true rfl) (fun p e s m args below meth c C hr hRm => wfJ0_isLatin1_aae02 C hRm ev hZ σ x0 X.1 X.2 hf (fun pc lv hb hd => zfin_z C hb hr hd))
theorem dJ3_checkIndex_8e157_0 : decode cJ3_checkIndex_8e157 0 = .ok (.iload_n 0, 1) := by decide +kernel
theorem dJ3_checkIndex_8e157_1 : decode cJ3_checkIndex_8e157 1 = .ok (.ifCond .lt 8, 3) := by decide +kernel
theorem dJ3_checkIndex_8e157_4 : decode cJ3_checkIndex_8e157 4 = .ok (.iload_n 0, 1) := by decide +kernel
theorem dJ3_checkIndex_8e157_5 : decode cJ3_checkIndex_8e157 5 = .ok (.iload_n 1, 1) := by decide +kernel
theorem dJ3_checkIndex_8e157_6 : decode cJ3_checkIndex_8e157 6 = .ok (.if_icmp .lt 10, 3) := by decide +kernel
theorem dJ3_checkIndex_8e157_9 : decode cJ3_checkIndex_8e157 9 = .ok (.aload_n 2, 1) := by decide +kernel
theorem dJ3_checkIndex_8e157_10 : decode cJ3_checkIndex_8e157 10 = .ok (.iload_n 0, 1) := by decide +kernel
theorem dJ3_checkIndex_8e157_11 : decode cJ3_checkIndex_8e157 11 = .ok (.iload_n 1, 1) := by decide +kernel
theorem dJ3_checkIndex_8e157_12 : decode cJ3_checkIndex_8e157 12 = .ok (.invokestatic 95, 3) := by decide +kernel
theorem dJ3_checkIndex_8e157_15 : decode cJ3_checkIndex_8e157 15 = .ok (.athrow, 1) := by decide +kernel
theorem dJ3_checkIndex_8e157_16 : decode cJ3_checkIndex_8e157 16 = .ok (.iload_n 0, 1) := by decide +kernel
theorem dJ3_checkIndex_8e157_17 : decode cJ3_checkIndex_8e157 17 = .ok (.ireturn, 1) := by decide +kernel
theorem hyJ3_checkIndex_8e157 : yJ3_checkIndex_8e157.cls ≠ "java/lang/invoke/MethodHandle" ∧ yJ3_checkIndex_8e157.cls ≠ "java/lang/invoke/VarHandle" ∧ (parseMethodDescriptor yJ3_checkIndex_8e157.desc).map (fun d => d.parameters.length) = some 3 := ⟨by decide +kernel, by decide +kernel, by decide +kernel⟩
set_option maxRecDepth 100000 in
set_option maxHeartbeats 4000000 in
theorem wjJ3_checkIndex_8e157_9 (C : zC p s m args meth c cJ3_checkIndex_8e157 RJ3 3 D Ca B En) (hRm : zRm R 0 0 cells slots) (ev : zEv) (hZ : ∀ U : State, En U → zEnv ev B U) (σ : zS) (x0 : Int32) (x1 : Int32)  (τ : zS) (r : Int32) (hf : jJ3_checkIndex_8e157_9 σ x0 x1  = some (τ, r)) (hq : ∀ (pc : Nat) (lv : List (Nat × Value)), decode cJ3_checkIndex_8e157 pc = .ok (.ireturn, 1) → zW p l e R s m args below meth c cells slots Q D Ca B 3 τ N pc lv [.int r]) : zW p l e R s m args below meth c cells slots Q D Ca B 3 σ N 9 [(0, .int x0), (1, .int x1), (2, va_rf ev.2.2.2.2)] [] := by
  unfold jJ3_checkIndex_8e157_9 at hf
  cases hf

set_option maxRecDepth 100000 in
set_option maxHeartbeats 4000000 in
theorem wfJ3_checkIndex_8e157 (C : zC p s m args meth c cJ3_checkIndex_8e157 RJ3 3 D Ca B En) (hRm : zRm R 0 0 cells slots) (ev : zEv) (hZ : ∀ U : State, En U → zEnv ev B U) (σ : zS) (x0 : Int32) (x1 : Int32) (τ : zS) (r : Int32) (hf : fJ3_checkIndex_8e157 σ x0 x1 = some (τ, r)) (hq : ∀ (pc : Nat) (lv : List (Nat × Value)), decode cJ3_checkIndex_8e157 pc = .ok (.ireturn, 1) → zW p l e R s m args below meth c cells slots Q D Ca B 3 τ N pc lv [.int r]) : zW p l e R s m args below meth c cells slots Q D Ca B 3 σ N 0 [(0, .int x0), (1, .int x1), (2, va_rf ev.2.2.2.2)] [] := by
  unfold fJ3_checkIndex_8e157 at hf
  refine z_iload_n C dJ3_checkIndex_8e157_0 rfl 0 rfl ?_
  refine z_if_lt C 9 dJ3_checkIndex_8e157_1 (by decide) (fun q2 => ?_) (fun q2 => ?_)
  · rw [if_pos q2] at hf
    refine z_sub [0, 1, 2] rfl ?_
    exact wjJ3_checkIndex_8e157_9 C hRm ev hZ _ _ _  _ _ hf hq
  · rw [if_neg q2] at hf
    refine z_iload_n C dJ3_checkIndex_8e157_4 rfl 0 rfl ?_
    refine z_iload_n C dJ3_checkIndex_8e157_5 rfl 1 rfl ?_
    refine z_icmp_lt C 16 dJ3_checkIndex_8e157_6 (by decide) (fun q1 => ?_) (fun q1 => ?_)
    · rw [if_pos q1] at hf
      refine z_iload_n C dJ3_checkIndex_8e157_16 rfl 0 rfl ?_
      cases hf
      exact hq _ _ dJ3_checkIndex_8e157_17
    · rw [if_neg q1] at hf
      refine z_sub [0, 1, 2] rfl ?_
      exact wjJ3_checkIndex_8e157_9 C hRm ev hZ _ _ _  _ _ hf hq

theorem mJ3_checkIndex_8e157 (l : Launch) (D : va_G) (Ca : Nat → ClassId) (B : Nat) (En : State → Prop) (hE : zEk B En) (ev : zEv) (hZ : ∀ U : State, En U → zEnv ev B U) (σ : zS) (N : Nat) (x0 : Int32) (x1 : Int32) (X : zS × Int32) (hf : fJ3_checkIndex_8e157 σ x0 x1 = some X) : zMi l D Ca B En yJ3_checkIndex_8e157 cJ3_checkIndex_8e157 3 (Option.some Jvm.ClassFile.FieldType.int) 0 0 [.int x0, .int x1, va_rf ev.2.2.2.2] σ N X.1 X.2 :=
  zMet_i (own := RJ3) hE (by decide +kernel) rfl (by generalize ev.2.2.2.2 = z9; cases z9 <;> exact Nat.le_of_ble_eq_true rfl) (fun p e s m args below meth c C hr hRm => wfJ3_checkIndex_8e157 C hRm ev hZ σ x0 x1 X.1 X.2 hf (fun pc lv hd => zfin_i C hr hd))
theorem dJ0_checkIndex_df160_0 : decode cJ0_checkIndex_df160 0 = .ok (.iload_n 0, 1) := by decide +kernel
theorem dJ0_checkIndex_df160_1 : decode cJ0_checkIndex_df160 1 = .ok (.iload_n 1, 1) := by decide +kernel
theorem dJ0_checkIndex_df160_2 : decode cJ0_checkIndex_df160 2 = .ok (.getstatic 1053, 3) := by decide +kernel
theorem dJ0_checkIndex_df160_5 : decode cJ0_checkIndex_df160 5 = .ok (.invokestatic 1059, 3) := by decide +kernel
theorem dJ0_checkIndex_df160_8 : decode cJ0_checkIndex_df160 8 = .ok (.pop, 1) := by decide +kernel
theorem dJ0_checkIndex_df160_9 : decode cJ0_checkIndex_df160 9 = .ok (.return_, 1) := by decide +kernel
theorem hyJ0_checkIndex_df160 : yJ0_checkIndex_df160.cls ≠ "java/lang/invoke/MethodHandle" ∧ yJ0_checkIndex_df160.cls ≠ "java/lang/invoke/VarHandle" ∧ (parseMethodDescriptor yJ0_checkIndex_df160.desc).map (fun d => d.parameters.length) = some 2 := ⟨by decide +kernel, by decide +kernel, by decide +kernel⟩
set_option maxRecDepth 100000 in
set_option maxHeartbeats 4000000 in
theorem wfJ0_checkIndex_df160 (C : zC p s m args meth c cJ0_checkIndex_df160 RJ0 2 D Ca B En) (hRm : zRm R 1 22 cells slots) (ev : zEv) (hZ : ∀ U : State, En U → zEnv ev B U) (σ : zS) (x0 : Int32) (x1 : Int32) (τ : zS) (hf : fJ0_checkIndex_df160 σ x0 x1 = some τ) (hq : ∀ (pc : Nat) (lv : List (Nat × Value)), decode cJ0_checkIndex_df160 pc = .ok (.return_, 1) → zW p l e R s m args below meth c cells slots Q D Ca B 2 τ N pc lv []) : zW p l e R s m args below meth c cells slots Q D Ca B 2 σ N 0 [(0, .int x0), (1, .int x1)] [] := by
  unfold fJ0_checkIndex_df160 at hf
  refine z_iload_n C dJ0_checkIndex_df160_0 rfl 0 rfl ?_
  refine z_iload_n C dJ0_checkIndex_df160_1 rfl 1 rfl ?_
  refine z_gsF C ev hZ kw_812 dJ0_checkIndex_df160_2 ?_
  obtain ⟨c1, hc1, hf⟩ := zbind hf
  refine z_callSi (As := [.int x0, .int x1, va_rf ev.2.2.2.2]) (F0 := 1) (L0 := 22) C (mJ3_checkIndex_8e157 l D Ca B En C.2.2.2.2.2.2.2.1 ev hZ σ N x0 x1 _ hc1) hRm kw_816 kw_20 kw_814 kw_815 hyJ3_checkIndex_8e157 (Nat.le_of_ble_eq_true rfl) (Nat.le_of_ble_eq_true rfl) rfl rfl (Nat.le_of_ble_eq_true rfl) dJ0_checkIndex_df160_5 ?_
  refine z_pop C dJ0_checkIndex_df160_8 rfl ?_
  cases hf
  exact hq _ _ dJ0_checkIndex_df160_9

theorem mJ0_checkIndex_df160 (l : Launch) (D : va_G) (Ca : Nat → ClassId) (B : Nat) (En : State → Prop) (hE : zEk B En) (ev : zEv) (hZ : ∀ U : State, En U → zEnv ev B U) (σ : zS) (N : Nat) (x0 : Int32) (x1 : Int32) (X : zS) (hf : fJ0_checkIndex_df160 σ x0 x1 = some X) : zMv l D Ca B En yJ0_checkIndex_df160 cJ0_checkIndex_df160 2 (Option.none : Option Jvm.ClassFile.FieldType) 1 22 [.int x0, .int x1] σ N X () :=
  zMet_v (own := RJ0) hE (by decide +kernel) rfl (Nat.le_of_ble_eq_true rfl) (fun p e s m args below meth c C hr hRm => wfJ0_checkIndex_df160 C hRm ev hZ σ x0 x1 X hf (fun pc lv hd => zfin_v (r := ()) C hr hd))
theorem dJ1_charAt_3b067_0 : decode cJ1_charAt_3b067 0 = .ok (.iload_n 1, 1) := by decide +kernel
theorem dJ1_charAt_3b067_1 : decode cJ1_charAt_3b067 1 = .ok (.aload_n 0, 1) := by decide +kernel
theorem dJ1_charAt_3b067_2 : decode cJ1_charAt_3b067 2 = .ok (.arraylength, 1) := by decide +kernel
theorem dJ1_charAt_3b067_3 : decode cJ1_charAt_3b067 3 = .ok (.invokestatic 9, 3) := by decide +kernel
theorem dJ1_charAt_3b067_6 : decode cJ1_charAt_3b067 6 = .ok (.aload_n 0, 1) := by decide +kernel
theorem dJ1_charAt_3b067_7 : decode cJ1_charAt_3b067 7 = .ok (.iload_n 1, 1) := by decide +kernel
theorem dJ1_charAt_3b067_8 : decode cJ1_charAt_3b067 8 = .ok (.baload, 1) := by decide +kernel
theorem dJ1_charAt_3b067_9 : decode cJ1_charAt_3b067 9 = .ok (.sipush 255, 3) := by decide +kernel
theorem dJ1_charAt_3b067_12 : decode cJ1_charAt_3b067 12 = .ok (.iand, 1) := by decide +kernel
theorem dJ1_charAt_3b067_13 : decode cJ1_charAt_3b067 13 = .ok (.i2c, 1) := by decide +kernel
theorem dJ1_charAt_3b067_14 : decode cJ1_charAt_3b067 14 = .ok (.ireturn, 1) := by decide +kernel
theorem hyJ1_charAt_3b067 : yJ1_charAt_3b067.cls ≠ "java/lang/invoke/MethodHandle" ∧ yJ1_charAt_3b067.cls ≠ "java/lang/invoke/VarHandle" ∧ (parseMethodDescriptor yJ1_charAt_3b067.desc).map (fun d => d.parameters.length) = some 2 := ⟨by decide +kernel, by decide +kernel, by decide +kernel⟩
set_option maxRecDepth 100000 in
set_option maxHeartbeats 4000000 in
theorem wfJ1_charAt_3b067 (C : zC p s m args meth c cJ1_charAt_3b067 RJ1 2 D Ca B En) (hRm : zRm R 2 43 cells slots) (ev : zEv) (hZ : ∀ U : State, En U → zEnv ev B U) (σ : zS) (x0 : Nat) (x1 : Int32) (τ : zS) (r : Int32) (hf : fJ1_charAt_3b067 σ x0 x1 = some (τ, r)) (hq : ∀ (pc : Nat) (lv : List (Nat × Value)), ((r.toUInt32 % 65536).toInt32 = r) → decode cJ1_charAt_3b067 pc = .ok (.ireturn, 1) → zW p l e R s m args below meth c cells slots Q D Ca B 2 τ N pc lv [.int r]) : zW p l e R s m args below meth c cells slots Q D Ca B 2 σ N 0 [(0, .ref (ev.2.2.1 x0)), (1, .int x1)] [] := by
  unfold fJ1_charAt_3b067 at hf
  refine z_iload_n C dJ1_charAt_3b067_0 rfl 1 rfl ?_
  refine z_aload_n C dJ1_charAt_3b067_1 rfl 0 rfl ?_
  obtain ⟨v1, hv1, hf⟩ := zbind hf
  refine z_alenV C ev hZ hv1 dJ1_charAt_3b067_2 ?_
  obtain ⟨c2, hc2, hf⟩ := zbind hf
  refine z_callSv (As := [.int x1, .int v1]) (F0 := 2) (L0 := 43) C (mJ0_checkIndex_df160 l D Ca B En C.2.2.2.2.2.2.2.1 ev hZ σ N x1 v1 _ hc2) hRm kw_811 kw_16 kw_809 kw_810 hyJ0_checkIndex_df160 (Nat.le_of_ble_eq_true rfl) (Nat.le_of_ble_eq_true rfl) rfl rfl (Nat.le_of_ble_eq_true rfl) dJ1_charAt_3b067_3 ?_
  refine z_aload_n C dJ1_charAt_3b067_6 rfl 0 rfl ?_
  refine z_iload_n C dJ1_charAt_3b067_7 rfl 1 rfl ?_
  obtain ⟨v3, hv3, hf⟩ := zbind hf
  refine z_bV C ev hZ hv3 dJ1_charAt_3b067_8 ?_
  refine z_sipush C (zi 255) dJ1_charAt_3b067_9 (by decide) ?_
  refine z_iand C dJ1_charAt_3b067_12 ?_
  refine z_i2c C dJ1_charAt_3b067_13 ?_
  obtain ⟨e9, b9⟩ := zrC_ok hf
  cases e9
  exact hq _ _ b9 dJ1_charAt_3b067_14

theorem mJ1_charAt_3b067 (l : Launch) (D : va_G) (Ca : Nat → ClassId) (B : Nat) (En : State → Prop) (hE : zEk B En) (ev : zEv) (hZ : ∀ U : State, En U → zEnv ev B U) (σ : zS) (N : Nat) (x0 : Nat) (x1 : Int32) (X : zS × Int32) (hf : fJ1_charAt_3b067 σ x0 x1 = some X) : zMi l D Ca B En yJ1_charAt_3b067 cJ1_charAt_3b067 2 (Option.some Jvm.ClassFile.FieldType.char) 2 43 [.ref (ev.2.2.1 x0), .int x1] σ N X.1 X.2 :=
  zMet_i (own := RJ1) hE (by decide +kernel) rfl (Nat.le_of_ble_eq_true rfl) (fun p e s m args below meth c C hr hRm => wfJ1_charAt_3b067 C hRm ev hZ σ x0 x1 X.1 X.2 hf (fun pc lv hb hd => zfin_c C hb hr hd))
theorem dJ2_length_9d52b_0 : decode cJ2_length_9d52b 0 = .ok (.aload_n 0, 1) := by decide +kernel
theorem dJ2_length_9d52b_1 : decode cJ2_length_9d52b 1 = .ok (.arraylength, 1) := by decide +kernel
theorem dJ2_length_9d52b_2 : decode cJ2_length_9d52b 2 = .ok (.iconst 1, 1) := by decide +kernel
theorem dJ2_length_9d52b_3 : decode cJ2_length_9d52b 3 = .ok (.ishr, 1) := by decide +kernel
theorem dJ2_length_9d52b_4 : decode cJ2_length_9d52b 4 = .ok (.ireturn, 1) := by decide +kernel
theorem hyJ2_length_9d52b : yJ2_length_9d52b.cls ≠ "java/lang/invoke/MethodHandle" ∧ yJ2_length_9d52b.cls ≠ "java/lang/invoke/VarHandle" ∧ (parseMethodDescriptor yJ2_length_9d52b.desc).map (fun d => d.parameters.length) = some 1 := ⟨by decide +kernel, by decide +kernel, by decide +kernel⟩
set_option maxRecDepth 100000 in
set_option maxHeartbeats 4000000 in
theorem wfJ2_length_9d52b (C : zC p s m args meth c cJ2_length_9d52b RJ2 1 D Ca B En) (hRm : zRm R 0 0 cells slots) (ev : zEv) (hZ : ∀ U : State, En U → zEnv ev B U) (σ : zS) (x0 : Nat) (τ : zS) (r : Int32) (hf : fJ2_length_9d52b σ x0 = some (τ, r)) (hq : ∀ (pc : Nat) (lv : List (Nat × Value)), decode cJ2_length_9d52b pc = .ok (.ireturn, 1) → zW p l e R s m args below meth c cells slots Q D Ca B 1 τ N pc lv [.int r]) : zW p l e R s m args below meth c cells slots Q D Ca B 1 σ N 0 [(0, .ref (ev.2.2.1 x0))] [] := by
  unfold fJ2_length_9d52b at hf
  refine z_aload_n C dJ2_length_9d52b_0 rfl 0 rfl ?_
  obtain ⟨v1, hv1, hf⟩ := zbind hf
  refine z_alenV C ev hZ hv1 dJ2_length_9d52b_1 ?_
  refine z_iconst C (zi 1) dJ2_length_9d52b_2 (by decide) ?_
  refine z_ishr C dJ2_length_9d52b_3 ?_
  cases hf
  exact hq _ _ dJ2_length_9d52b_4

theorem mJ2_length_9d52b (l : Launch) (D : va_G) (Ca : Nat → ClassId) (B : Nat) (En : State → Prop) (hE : zEk B En) (ev : zEv) (hZ : ∀ U : State, En U → zEnv ev B U) (σ : zS) (N : Nat) (x0 : Nat) (X : zS × Int32) (hf : fJ2_length_9d52b σ x0 = some X) : zMi l D Ca B En yJ2_length_9d52b cJ2_length_9d52b 1 (Option.some Jvm.ClassFile.FieldType.int) 0 0 [.ref (ev.2.2.1 x0)] σ N X.1 X.2 :=
  zMet_i (own := RJ2) hE (by decide +kernel) rfl (Nat.le_of_ble_eq_true rfl) (fun p e s m args below meth c C hr hRm => wfJ2_length_9d52b C hRm ev hZ σ x0 X.1 X.2 hf (fun pc lv hd => zfin_i C hr hd))
theorem dJ2_checkIndex_2214a_0 : decode cJ2_checkIndex_2214a 0 = .ok (.iload_n 0, 1) := by decide +kernel
theorem dJ2_checkIndex_2214a_1 : decode cJ2_checkIndex_2214a 1 = .ok (.aload_n 1, 1) := by decide +kernel
theorem dJ2_checkIndex_2214a_2 : decode cJ2_checkIndex_2214a 2 = .ok (.invokestatic 48, 3) := by decide +kernel
theorem dJ2_checkIndex_2214a_5 : decode cJ2_checkIndex_2214a 5 = .ok (.invokestatic 414, 3) := by decide +kernel
theorem dJ2_checkIndex_2214a_8 : decode cJ2_checkIndex_2214a 8 = .ok (.return_, 1) := by decide +kernel
theorem hyJ2_checkIndex_2214a : yJ2_checkIndex_2214a.cls ≠ "java/lang/invoke/MethodHandle" ∧ yJ2_checkIndex_2214a.cls ≠ "java/lang/invoke/VarHandle" ∧ (parseMethodDescriptor yJ2_checkIndex_2214a.desc).map (fun d => d.parameters.length) = some 2 := ⟨by decide +kernel, by decide +kernel, by decide +kernel⟩
set_option maxRecDepth 100000 in
set_option maxHeartbeats 4000000 in
theorem wfJ2_checkIndex_2214a (C : zC p s m args meth c cJ2_checkIndex_2214a RJ2 2 D Ca B En) (hRm : zRm R 0 0 cells slots) (ev : zEv) (hZ : ∀ U : State, En U → zEnv ev B U) (σ : zS) (x0 : Int32) (x1 : Nat) (τ : zS) (hf : fJ2_checkIndex_2214a σ x0 x1 = some τ) (hq : ∀ (pc : Nat) (lv : List (Nat × Value)), decode cJ2_checkIndex_2214a pc = .ok (.return_, 1) → zW p l e R s m args below meth c cells slots Q D Ca B 2 τ N pc lv []) : zW p l e R s m args below meth c cells slots Q D Ca B 2 σ N 0 [(0, .int x0), (1, .ref (ev.2.2.1 x1))] [] := by
  unfold fJ2_checkIndex_2214a at hf
  refine z_iload_n C dJ2_checkIndex_2214a_0 rfl 0 rfl ?_
  refine z_aload_n C dJ2_checkIndex_2214a_1 rfl 1 rfl ?_
  cases hf

theorem mJ2_checkIndex_2214a (l : Launch) (D : va_G) (Ca : Nat → ClassId) (B : Nat) (En : State → Prop) (hE : zEk B En) (ev : zEv) (hZ : ∀ U : State, En U → zEnv ev B U) (σ : zS) (N : Nat) (x0 : Int32) (x1 : Nat) (X : zS) (hf : fJ2_checkIndex_2214a σ x0 x1 = some X) : zMv l D Ca B En yJ2_checkIndex_2214a cJ2_checkIndex_2214a 2 (Option.none : Option Jvm.ClassFile.FieldType) 0 0 [.int x0, .ref (ev.2.2.1 x1)] σ N X () :=
  zMet_v (own := RJ2) hE (by decide +kernel) rfl (Nat.le_of_ble_eq_true rfl) (fun p e s m args below meth c C hr hRm => wfJ2_checkIndex_2214a C hRm ev hZ σ x0 x1 X hf (fun pc lv hd => zfin_v (r := ()) C hr hd))
theorem dJ2_charAt_3b067_0 : decode cJ2_charAt_3b067 0 = .ok (.iload_n 1, 1) := by decide +kernel
theorem dJ2_charAt_3b067_1 : decode cJ2_charAt_3b067 1 = .ok (.aload_n 0, 1) := by decide +kernel
theorem dJ2_charAt_3b067_2 : decode cJ2_charAt_3b067 2 = .ok (.invokestatic 67, 3) := by decide +kernel
theorem dJ2_charAt_3b067_5 : decode cJ2_charAt_3b067 5 = .ok (.aload_n 0, 1) := by decide +kernel
theorem dJ2_charAt_3b067_6 : decode cJ2_charAt_3b067 6 = .ok (.iload_n 1, 1) := by decide +kernel
theorem dJ2_charAt_3b067_7 : decode cJ2_charAt_3b067 7 = .ok (.invokestatic 71, 3) := by decide +kernel
theorem dJ2_charAt_3b067_10 : decode cJ2_charAt_3b067 10 = .ok (.ireturn, 1) := by decide +kernel
theorem hyJ2_charAt_3b067 : yJ2_charAt_3b067.cls ≠ "java/lang/invoke/MethodHandle" ∧ yJ2_charAt_3b067.cls ≠ "java/lang/invoke/VarHandle" ∧ (parseMethodDescriptor yJ2_charAt_3b067.desc).map (fun d => d.parameters.length) = some 2 := ⟨by decide +kernel, by decide +kernel, by decide +kernel⟩
set_option maxRecDepth 100000 in
set_option maxHeartbeats 4000000 in
theorem wfJ2_charAt_3b067 (C : zC p s m args meth c cJ2_charAt_3b067 RJ2 2 D Ca B En) (hRm : zRm R 0 0 cells slots) (ev : zEv) (hZ : ∀ U : State, En U → zEnv ev B U) (σ : zS) (x0 : Nat) (x1 : Int32) (τ : zS) (r : Int32) (hf : fJ2_charAt_3b067 σ x0 x1 = some (τ, r)) (hq : ∀ (pc : Nat) (lv : List (Nat × Value)), ((r.toUInt32 % 65536).toInt32 = r) → decode cJ2_charAt_3b067 pc = .ok (.ireturn, 1) → zW p l e R s m args below meth c cells slots Q D Ca B 2 τ N pc lv [.int r]) : zW p l e R s m args below meth c cells slots Q D Ca B 2 σ N 0 [(0, .ref (ev.2.2.1 x0)), (1, .int x1)] [] := by
  unfold fJ2_charAt_3b067 at hf
  refine z_iload_n C dJ2_charAt_3b067_0 rfl 1 rfl ?_
  refine z_aload_n C dJ2_charAt_3b067_1 rfl 0 rfl ?_
  cases hf

theorem mJ2_charAt_3b067 (l : Launch) (D : va_G) (Ca : Nat → ClassId) (B : Nat) (En : State → Prop) (hE : zEk B En) (ev : zEv) (hZ : ∀ U : State, En U → zEnv ev B U) (σ : zS) (N : Nat) (x0 : Nat) (x1 : Int32) (X : zS × Int32) (hf : fJ2_charAt_3b067 σ x0 x1 = some X) : zMi l D Ca B En yJ2_charAt_3b067 cJ2_charAt_3b067 2 (Option.some Jvm.ClassFile.FieldType.char) 0 0 [.ref (ev.2.2.1 x0), .int x1] σ N X.1 X.2 :=
  zMet_i (own := RJ2) hE (by decide +kernel) rfl (Nat.le_of_ble_eq_true rfl) (fun p e s m args below meth c C hr hRm => wfJ2_charAt_3b067 C hRm ev hZ σ x0 x1 X.1 X.2 hf (fun pc lv hb hd => zfin_c C hb hr hd))
theorem dJ0_charAt_5068e_0 : decode cJ0_charAt_5068e 0 = .ok (.aload_n 0, 1) := by decide +kernel
theorem dJ0_charAt_5068e_1 : decode cJ0_charAt_5068e 1 = .ok (.invokevirtual 492, 3) := by decide +kernel
theorem dJ0_charAt_5068e_4 : decode cJ0_charAt_5068e 4 = .ok (.ifCond .eq 12, 3) := by decide +kernel
theorem dJ0_charAt_5068e_7 : decode cJ0_charAt_5068e 7 = .ok (.aload_n 0, 1) := by decide +kernel
theorem dJ0_charAt_5068e_8 : decode cJ0_charAt_5068e 8 = .ok (.getfield 9, 3) := by decide +kernel
theorem dJ0_charAt_5068e_11 : decode cJ0_charAt_5068e 11 = .ok (.iload_n 1, 1) := by decide +kernel
theorem dJ0_charAt_5068e_12 : decode cJ0_charAt_5068e 12 = .ok (.invokestatic 495, 3) := by decide +kernel
theorem dJ0_charAt_5068e_15 : decode cJ0_charAt_5068e 15 = .ok (.ireturn, 1) := by decide +kernel
theorem dJ0_charAt_5068e_16 : decode cJ0_charAt_5068e 16 = .ok (.aload_n 0, 1) := by decide +kernel
theorem dJ0_charAt_5068e_17 : decode cJ0_charAt_5068e 17 = .ok (.getfield 9, 3) := by decide +kernel
theorem dJ0_charAt_5068e_20 : decode cJ0_charAt_5068e 20 = .ok (.iload_n 1, 1) := by decide +kernel
theorem dJ0_charAt_5068e_21 : decode cJ0_charAt_5068e 21 = .ok (.invokestatic 498, 3) := by decide +kernel
theorem dJ0_charAt_5068e_24 : decode cJ0_charAt_5068e 24 = .ok (.ireturn, 1) := by decide +kernel
theorem hyJ0_charAt_5068e : yJ0_charAt_5068e.cls ≠ "java/lang/invoke/MethodHandle" ∧ yJ0_charAt_5068e.cls ≠ "java/lang/invoke/VarHandle" ∧ (parseMethodDescriptor yJ0_charAt_5068e.desc).map (fun d => d.parameters.length) = some 1 := ⟨by decide +kernel, by decide +kernel, by decide +kernel⟩
set_option maxRecDepth 100000 in
set_option maxHeartbeats 4000000 in
theorem wfJ0_charAt_5068e (C : zC p s m args meth c cJ0_charAt_5068e RJ0 2 D Ca B En) (hRm : zRm R 3 64 cells slots) (ev : zEv) (hZ : ∀ U : State, En U → zEnv ev B U) (σ : zS) (x0 : Nat) (x1 : Int32) (τ : zS) (r : Int32) (hf : fJ0_charAt_5068e σ x0 x1 = some (τ, r)) (hq : ∀ (pc : Nat) (lv : List (Nat × Value)), ((r.toUInt32 % 65536).toInt32 = r) → decode cJ0_charAt_5068e pc = .ok (.ireturn, 1) → zW p l e R s m args below meth c cells slots Q D Ca B 2 τ N pc lv [.int r]) : zW p l e R s m args below meth c cells slots Q D Ca B 2 σ N 0 [(0, .ref (ev.2.1 x0)), (1, .int x1)] [] := by
  unfold fJ0_charAt_5068e at hf
  refine z_aload_n C dJ0_charAt_5068e_0 rfl 0 rfl ?_
  obtain ⟨c1, hc1, hf⟩ := zbind hf
  obtain ⟨kc1, hc1⟩ := zsck_ok hc1
  refine z_callTi (As := []) (F0 := 3) (L0 := 64) C ev hZ (mJ0_isLatin1_aae02 l D Ca B En C.2.2.2.2.2.2.2.1 ev hZ σ N x0  _ hc1) hRm kc1 rfl kw_805 kw_16 kw_802 kw_803 kw_804 hyJ0_isLatin1_aae02 (Nat.le_of_ble_eq_true rfl) (Nat.le_of_ble_eq_true rfl) rfl rfl (Nat.le_of_ble_eq_true rfl) dJ0_charAt_5068e_1 ?_
  refine z_if_eq C 16 dJ0_charAt_5068e_4 (by decide) (fun q5 => ?_) (fun q5 => ?_)
  · rw [if_pos q5] at hf
    refine z_aload_n C dJ0_charAt_5068e_16 rfl 0 rfl ?_
    obtain ⟨v2, hv2, hf⟩ := zbind hf
    refine z_gSv C ev hZ hv2 kw_1173 dJ0_charAt_5068e_17 ?_
    refine z_iload_n C dJ0_charAt_5068e_20 rfl 1 rfl ?_
    cases hf
  · rw [if_neg q5] at hf
    refine z_aload_n C dJ0_charAt_5068e_7 rfl 0 rfl ?_
    obtain ⟨v3, hv3, hf⟩ := zbind hf
    refine z_gSv C ev hZ hv3 kw_1173 dJ0_charAt_5068e_8 ?_
    refine z_iload_n C dJ0_charAt_5068e_11 rfl 1 rfl ?_
    obtain ⟨c4, hc4, hf⟩ := zbind hf
    refine z_callSi (As := [.ref (ev.2.2.1 v3), .int x1]) (F0 := 3) (L0 := 64) C (mJ1_charAt_3b067 l D Ca B En C.2.2.2.2.2.2.2.1 ev hZ c1.1 N v3 x1 _ hc4) hRm kw_808 kw_21 kw_806 kw_807 hyJ1_charAt_3b067 (Nat.le_of_ble_eq_true rfl) (Nat.le_of_ble_eq_true rfl) rfl rfl (Nat.le_of_ble_eq_true rfl) dJ0_charAt_5068e_12 ?_
    obtain ⟨e9, b9⟩ := zrC_ok hf
    cases e9
    exact hq _ _ b9 dJ0_charAt_5068e_15

theorem mJ0_charAt_5068e (l : Launch) (D : va_G) (Ca : Nat → ClassId) (B : Nat) (En : State → Prop) (hE : zEk B En) (ev : zEv) (hZ : ∀ U : State, En U → zEnv ev B U) (σ : zS) (N : Nat) (x0 : Nat) (x1 : Int32) (X : zS × Int32) (hf : fJ0_charAt_5068e σ x0 x1 = some X) : zMi l D Ca B En yJ0_charAt_5068e cJ0_charAt_5068e 2 (Option.some Jvm.ClassFile.FieldType.char) 3 64 [.ref (ev.2.1 x0), .int x1] σ N X.1 X.2 :=
  zMet_i (own := RJ0) hE (by decide +kernel) rfl (Nat.le_of_ble_eq_true rfl) (fun p e s m args below meth c C hr hRm => wfJ0_charAt_5068e C hRm ev hZ σ x0 x1 X.1 X.2 hf (fun pc lv hb hd => zfin_c C hb hr hd))
theorem dX5_isToken_0 : decode cX5_isToken 0 = .ok (.aload_n 1, 1) := by decide +kernel
theorem dX5_isToken_1 : decode cX5_isToken 1 = .ok (.invokevirtual 152, 3) := by decide +kernel
theorem dX5_isToken_4 : decode cX5_isToken 4 = .ok (.aload_n 0, 1) := by decide +kernel
theorem dX5_isToken_5 : decode cX5_isToken 5 = .ok (.getfield 31, 3) := by decide +kernel
theorem dX5_isToken_8 : decode cX5_isToken 8 = .ok (.aload_n 0, 1) := by decide +kernel
theorem dX5_isToken_9 : decode cX5_isToken 9 = .ok (.getfield 114, 3) := by decide +kernel
theorem dX5_isToken_12 : decode cX5_isToken 12 = .ok (.isub, 1) := by decide +kernel
theorem dX5_isToken_13 : decode cX5_isToken 13 = .ok (.if_icmp .eq 5, 3) := by decide +kernel
theorem dX5_isToken_16 : decode cX5_isToken 16 = .ok (.iconst 0, 1) := by decide +kernel
theorem dX5_isToken_17 : decode cX5_isToken 17 = .ok (.ireturn, 1) := by decide +kernel
theorem dX5_isToken_18 : decode cX5_isToken 18 = .ok (.iconst 0, 1) := by decide +kernel
theorem dX5_isToken_19 : decode cX5_isToken 19 = .ok (.istore_n 2, 1) := by decide +kernel
theorem dX5_isToken_20 : decode cX5_isToken 20 = .ok (.iload_n 2, 1) := by decide +kernel
theorem dX5_isToken_21 : decode cX5_isToken 21 = .ok (.aload_n 1, 1) := by decide +kernel
theorem dX5_isToken_22 : decode cX5_isToken 22 = .ok (.invokevirtual 152, 3) := by decide +kernel
theorem dX5_isToken_25 : decode cX5_isToken 25 = .ok (.if_icmp .ge 32, 3) := by decide +kernel
theorem dX5_isToken_28 : decode cX5_isToken 28 = .ok (.aload_n 1, 1) := by decide +kernel
theorem dX5_isToken_29 : decode cX5_isToken 29 = .ok (.iload_n 2, 1) := by decide +kernel
theorem dX5_isToken_30 : decode cX5_isToken 30 = .ok (.invokevirtual 158, 3) := by decide +kernel
theorem dX5_isToken_33 : decode cX5_isToken 33 = .ok (.aload_n 0, 1) := by decide +kernel
theorem dX5_isToken_34 : decode cX5_isToken 34 = .ok (.getfield 15, 3) := by decide +kernel
theorem dX5_isToken_37 : decode cX5_isToken 37 = .ok (.aload_n 0, 1) := by decide +kernel
theorem dX5_isToken_38 : decode cX5_isToken 38 = .ok (.getfield 114, 3) := by decide +kernel
theorem dX5_isToken_41 : decode cX5_isToken 41 = .ok (.iload_n 2, 1) := by decide +kernel
theorem dX5_isToken_42 : decode cX5_isToken 42 = .ok (.iadd, 1) := by decide +kernel
theorem dX5_isToken_43 : decode cX5_isToken 43 = .ok (.invokevirtual 131, 3) := by decide +kernel
theorem dX5_isToken_46 : decode cX5_isToken 46 = .ok (.if_icmp .eq 5, 3) := by decide +kernel
theorem dX5_isToken_49 : decode cX5_isToken 49 = .ok (.iconst 0, 1) := by decide +kernel
theorem dX5_isToken_50 : decode cX5_isToken 50 = .ok (.ireturn, 1) := by decide +kernel
theorem dX5_isToken_51 : decode cX5_isToken 51 = .ok (.iinc 2 1, 3) := by decide +kernel
theorem dX5_isToken_54 : decode cX5_isToken 54 = .ok (.goto (-34), 3) := by decide +kernel
theorem dX5_isToken_57 : decode cX5_isToken 57 = .ok (.iconst 1, 1) := by decide +kernel
theorem dX5_isToken_58 : decode cX5_isToken 58 = .ok (.ireturn, 1) := by decide +kernel
theorem hyX5_isToken : yX5_isToken.cls ≠ "java/lang/invoke/MethodHandle" ∧ yX5_isToken.cls ≠ "java/lang/invoke/VarHandle" ∧ (parseMethodDescriptor yX5_isToken.desc).map (fun d => d.parameters.length) = some 1 := ⟨by decide +kernel, by decide +kernel, by decide +kernel⟩
set_option maxRecDepth 100000 in
set_option maxHeartbeats 4000000 in
theorem wsX5_isToken_20b (C : zC p s m args meth c cX5_isToken RX5 3 D Ca B En) (hRm : zRm R 4 85 cells slots) (ev : zEv) (hZ : ∀ U : State, En U → zEnv ev B U) (x0 : Nat) (x1 : Nat) (σ : zS) (u2 : Int32) (y : (zS × Int32) ⊕ (zS ⊕ zS)) (hf : sX5_isToken_20b x0 x1 σ u2 = some y) (hk : (∀ z : (zS × Int32), y = .inl z → zW p l e R s m args below meth c cells slots Q D Ca B 3 z.1 N 20 [(0, .ref x0), (1, .ref (ev.2.1 x1)), (2, .int z.2)] []) ∧ (∀ z : zS, y = .inr (.inl z) → zW p l e R s m args below meth c cells slots Q D Ca B 3 z N 49 [] []) ∧ (∀ z : zS, y = .inr (.inr z) → zW p l e R s m args below meth c cells slots Q D Ca B 3 z N 57 [] [])) : zW p l e R s m args below meth c cells slots Q D Ca B 3 σ N 20 [(0, .ref x0), (1, .ref (ev.2.1 x1)), (2, .int u2)] [] := by
  unfold sX5_isToken_20b at hf
  refine z_iload_n C dX5_isToken_20 rfl 2 rfl ?_
  refine z_aload_n C dX5_isToken_21 rfl 1 rfl ?_
  obtain ⟨c4, hc4, hf⟩ := zbind hf
  obtain ⟨kc4, hc4⟩ := zsck_ok hc4
  refine z_callTi (As := []) (F0 := 4) (L0 := 85) C ev hZ (mJ0_length_8abf5 l D Ca B En C.2.2.2.2.2.2.2.1 ev hZ σ N x1  _ hc4) hRm kc4 rfl kw_791 kw_16 kw_887 kw_789 kw_790 hyJ0_length_8abf5 (Nat.le_of_ble_eq_true rfl) (Nat.le_of_ble_eq_true rfl) rfl rfl (Nat.le_of_ble_eq_true rfl) dX5_isToken_22 ?_
  refine z_icmp_ge C 57 dX5_isToken_25 (by decide) (fun q10 => ?_) (fun q10 => ?_)
  · rw [if_pos q10] at hf
    cases hf
    refine z_sub [] rfl ?_
    exact hk.2.2 _ rfl
  · rw [if_neg q10] at hf
    refine z_aload_n C dX5_isToken_28 rfl 1 rfl ?_
    refine z_iload_n C dX5_isToken_29 rfl 2 rfl ?_
    obtain ⟨c5, hc5, hf⟩ := zbind hf
    obtain ⟨kc5, hc5⟩ := zsck_ok hc5
    refine z_callTi (As := [.int u2]) (F0 := 4) (L0 := 85) C ev hZ (mJ0_charAt_5068e l D Ca B En C.2.2.2.2.2.2.2.1 ev hZ c4.1 N x1 u2 _ hc5) hRm kc5 rfl kw_801 kw_16 kw_888 kw_799 kw_800 hyJ0_charAt_5068e (Nat.le_of_ble_eq_true rfl) (Nat.le_of_ble_eq_true rfl) rfl rfl (Nat.le_of_ble_eq_true rfl) dX5_isToken_30 ?_
    refine z_aload_n C dX5_isToken_33 rfl 0 rfl ?_
    obtain ⟨v6, hv6, hf⟩ := zbind hf
    refine gf_RX5_15 C hv6 dX5_isToken_34 ?_
    refine z_aload_n C dX5_isToken_37 rfl 0 rfl ?_
    obtain ⟨v7, hv7, hf⟩ := zbind hf
    refine gf_RX5_114 C hv7 dX5_isToken_38 ?_
    refine z_iload_n C dX5_isToken_41 rfl 2 rfl ?_
    refine z_iadd C dX5_isToken_42 ?_
    obtain ⟨c8, hc8, hf⟩ := zbind hf
    obtain ⟨kc8, hc8⟩ := zck_ok hc8
    refine z_callVi (As := [.int (v7 + u2)]) (F0 := 4) (L0 := 85) C (mX2_byteAt l D Ca B En C.2.2.2.2.2.2.2.1 c5.1 N v6 (v7 + u2) _ hc8) hRm kc8 rfl kw_868 kw_2 kw_865 kw_866 kw_867 hyX2_byteAt (Nat.le_of_ble_eq_true rfl) (Nat.le_of_ble_eq_true rfl) rfl rfl (Nat.le_of_ble_eq_true rfl) dX5_isToken_43 ?_
    refine z_icmp_eq C 51 dX5_isToken_46 (by decide) (fun q9 => ?_) (fun q9 => ?_)
    · rw [if_pos q9] at hf
      refine z_iinc (lv2 := [(2, .int (u2 + (zi 1))), (0, .ref x0), (1, .ref (ev.2.1 x1))]) C (u2 + (zi 1)) dX5_isToken_51 2 rfl rfl (by decide) rfl ?_
      refine z_goto C 20 dX5_isToken_54 (by decide) ?_
      cases hf
      refine z_sub [1, 2, 0] rfl ?_
      exact hk.1 _ rfl
    · rw [if_neg q9] at hf
      cases hf
      refine z_sub [] rfl ?_
      exact hk.2.1 _ rfl

theorem wsX5_isToken_20 (C : zC p s m args meth c cX5_isToken RX5 3 D Ca B En) (hRm : zRm R 4 85 cells slots) (ev : zEv) (hZ : ∀ U : State, En U → zEnv ev B U) (x0 : Nat) (x1 : Nat) (n : Nat) (z : (zS × Int32)) (x : (zS ⊕ zS)) (hf : zloop (sX5_isToken_20 x0 x1) n z = some x) (hk : (∀ o : zS, x = (.inl o) → zW p l e R s m args below meth c cells slots Q D Ca B 3 o N 49 [] []) ∧ (∀ o : zS, x = (.inr o) → zW p l e R s m args below meth c cells slots Q D Ca B 3 o N 57 [] [])) : zW p l e R s m args below meth c cells slots Q D Ca B 3 z.1 N 20 [(0, .ref x0), (1, .ref (ev.2.1 x1)), (2, .int z.2)] [] := by
  refine zloop_W (P := fun z : (zS × Int32) => zW p l e R s m args below meth c cells slots Q D Ca B 3 z.1 N 20 [(0, .ref x0), (1, .ref (ev.2.1 x1)), (2, .int z.2)] []) (K := fun x : (zS ⊕ zS) => (∀ o : zS, x = (.inl o) → zW p l e R s m args below meth c cells slots Q D Ca B 3 o N 49 [] []) ∧ (∀ o : zS, x = (.inr o) → zW p l e R s m args below meth c cells slots Q D Ca B 3 o N 57 [] [])) ?_ n z x hf hk
  intro z y hy h1 h2
  refine wsX5_isToken_20b C hRm ev hZ x0 x1 z.1 z.2 y hy ⟨fun z2 e => h1 z2 e, fun o e => (h2 _ e).1 o rfl, fun o e => (h2 _ e).2 o rfl⟩
set_option maxRecDepth 100000 in
set_option maxHeartbeats 4000000 in
theorem wfX5_isToken (C : zC p s m args meth c cX5_isToken RX5 3 D Ca B En) (hRm : zRm R 4 85 cells slots) (ev : zEv) (hZ : ∀ U : State, En U → zEnv ev B U) (σ : zS) (x0 : Nat) (x1 : Nat) (τ : zS) (r : Int32) (hf : fX5_isToken σ x0 x1 = some (τ, r)) (hq : ∀ (pc : Nat) (lv : List (Nat × Value)), (r = 0 ∨ r = 1) → decode cX5_isToken pc = .ok (.ireturn, 1) → zW p l e R s m args below meth c cells slots Q D Ca B 3 τ N pc lv [.int r]) : zW p l e R s m args below meth c cells slots Q D Ca B 3 σ N 0 [(0, .ref x0), (1, .ref (ev.2.1 x1))] [] := by
  unfold fX5_isToken at hf
  refine z_aload_n C dX5_isToken_0 rfl 1 rfl ?_
  obtain ⟨c1, hc1, hf⟩ := zbind hf
  obtain ⟨kc1, hc1⟩ := zsck_ok hc1
  refine z_callTi (As := []) (F0 := 4) (L0 := 85) C ev hZ (mJ0_length_8abf5 l D Ca B En C.2.2.2.2.2.2.2.1 ev hZ σ N x1  _ hc1) hRm kc1 rfl kw_791 kw_16 kw_887 kw_789 kw_790 hyJ0_length_8abf5 (Nat.le_of_ble_eq_true rfl) (Nat.le_of_ble_eq_true rfl) rfl rfl (Nat.le_of_ble_eq_true rfl) dX5_isToken_1 ?_
  refine z_aload_n C dX5_isToken_4 rfl 0 rfl ?_
  obtain ⟨v2, hv2, hf⟩ := zbind hf
  refine gf_RX5_31 C hv2 dX5_isToken_5 ?_
  refine z_aload_n C dX5_isToken_8 rfl 0 rfl ?_
  obtain ⟨v3, hv3, hf⟩ := zbind hf
  refine gf_RX5_114 C hv3 dX5_isToken_9 ?_
  refine z_isub C dX5_isToken_12 ?_
  refine z_icmp_eq C 18 dX5_isToken_13 (by decide) (fun q14 => ?_) (fun q14 => ?_)
  · rw [if_pos q14] at hf
    refine z_iconst C (zi 0) dX5_isToken_18 (by decide) ?_
    refine z_istore_n (lv2 := [(2, .int ((zi 0))), (0, .ref x0), (1, .ref (ev.2.1 x1))]) C dX5_isToken_19 rfl (by decide) rfl ?_
    obtain ⟨o11, ho11, hf⟩ := zbind hf
    refine z_sub [1, 2, 0] rfl ?_
    refine wsX5_isToken_20 C hRm ev hZ _ _ zfuel (c1.1, (zi 0)) o11 ho11 ⟨?_, ?_⟩
    · intro z12 e9
      subst e9
      dsimp only at hf
      refine z_iconst C (zi 0) dX5_isToken_49 (by decide) ?_
      obtain ⟨e9, b9⟩ := zrZ_ok hf
      cases e9
      exact hq _ _ b9 dX5_isToken_50
    · intro z13 e9
      subst e9
      dsimp only at hf
      refine z_iconst C (zi 1) dX5_isToken_57 (by decide) ?_
      obtain ⟨e9, b9⟩ := zrZ_ok hf
      cases e9
      exact hq _ _ b9 dX5_isToken_58
  · rw [if_neg q14] at hf
    refine z_iconst C (zi 0) dX5_isToken_16 (by decide) ?_
    obtain ⟨e9, b9⟩ := zrZ_ok hf
    cases e9
    exact hq _ _ b9 dX5_isToken_17

theorem mX5_isToken (l : Launch) (D : va_G) (Ca : Nat → ClassId) (B : Nat) (En : State → Prop) (hE : zEk B En) (ev : zEv) (hZ : ∀ U : State, En U → zEnv ev B U) (σ : zS) (N : Nat) (x0 : Nat) (x1 : Nat) (X : zS × Int32) (hf : fX5_isToken σ x0 x1 = some X) : zMi l D Ca B En yX5_isToken cX5_isToken 3 (Option.some Jvm.ClassFile.FieldType.boolean) 4 85 [.ref x0, .ref (ev.2.1 x1)] σ N X.1 X.2 :=
  zMet_i (own := RX5) hE (by decide +kernel) rfl (Nat.le_of_ble_eq_true rfl) (fun p e s m args below meth c C hr hRm => wfX5_isToken C hRm ev hZ σ x0 x1 X.1 X.2 hf (fun pc lv hb hd => zfin_z C hb hr hd))
theorem dX5_quotedWord_0 : decode cX5_quotedWord 0 = .ok (.aload_n 0, 1) := by decide +kernel
theorem dX5_quotedWord_1 : decode cX5_quotedWord 1 = .ok (.getfield 37, 3) := by decide +kernel
theorem dX5_quotedWord_4 : decode cX5_quotedWord 4 = .ok (.iconst 1, 1) := by decide +kernel
theorem dX5_quotedWord_5 : decode cX5_quotedWord 5 = .ok (.if_icmp .eq 5, 3) := by decide +kernel
theorem dX5_quotedWord_8 : decode cX5_quotedWord 8 = .ok (.aconst_null, 1) := by decide +kernel
theorem dX5_quotedWord_9 : decode cX5_quotedWord 9 = .ok (.areturn, 1) := by decide +kernel
theorem dX5_quotedWord_10 : decode cX5_quotedWord 10 = .ok (.getstatic 141, 3) := by decide +kernel
theorem dX5_quotedWord_13 : decode cX5_quotedWord 13 = .ok (.astore_n 1, 1) := by decide +kernel
theorem dX5_quotedWord_14 : decode cX5_quotedWord 14 = .ok (.aload_n 1, 1) := by decide +kernel
theorem dX5_quotedWord_15 : decode cX5_quotedWord 15 = .ok (.arraylength, 1) := by decide +kernel
theorem dX5_quotedWord_16 : decode cX5_quotedWord 16 = .ok (.istore_n 2, 1) := by decide +kernel
theorem dX5_quotedWord_17 : decode cX5_quotedWord 17 = .ok (.iconst 0, 1) := by decide +kernel
theorem dX5_quotedWord_18 : decode cX5_quotedWord 18 = .ok (.istore_n 3, 1) := by decide +kernel
theorem dX5_quotedWord_19 : decode cX5_quotedWord 19 = .ok (.iload_n 3, 1) := by decide +kernel
theorem dX5_quotedWord_20 : decode cX5_quotedWord 20 = .ok (.iload_n 2, 1) := by decide +kernel
theorem dX5_quotedWord_21 : decode cX5_quotedWord 21 = .ok (.if_icmp .ge 29, 3) := by decide +kernel
theorem dX5_quotedWord_24 : decode cX5_quotedWord 24 = .ok (.aload_n 1, 1) := by decide +kernel
theorem dX5_quotedWord_25 : decode cX5_quotedWord 25 = .ok (.iload_n 3, 1) := by decide +kernel
theorem dX5_quotedWord_26 : decode cX5_quotedWord 26 = .ok (.aaload, 1) := by decide +kernel
theorem dX5_quotedWord_27 : decode cX5_quotedWord 27 = .ok (.astore 4, 2) := by decide +kernel
theorem dX5_quotedWord_29 : decode cX5_quotedWord 29 = .ok (.aload_n 0, 1) := by decide +kernel
theorem dX5_quotedWord_30 : decode cX5_quotedWord 30 = .ok (.aload 4, 2) := by decide +kernel
theorem dX5_quotedWord_32 : decode cX5_quotedWord 32 = .ok (.getfield 145, 3) := by decide +kernel
theorem dX5_quotedWord_35 : decode cX5_quotedWord 35 = .ok (.invokevirtual 148, 3) := by decide +kernel
theorem dX5_quotedWord_38 : decode cX5_quotedWord 38 = .ok (.ifCond .eq 6, 3) := by decide +kernel
theorem dX5_quotedWord_41 : decode cX5_quotedWord 41 = .ok (.aload 4, 2) := by decide +kernel
theorem dX5_quotedWord_43 : decode cX5_quotedWord 43 = .ok (.areturn, 1) := by decide +kernel
theorem dX5_quotedWord_44 : decode cX5_quotedWord 44 = .ok (.iinc 3 1, 3) := by decide +kernel
theorem dX5_quotedWord_47 : decode cX5_quotedWord 47 = .ok (.goto (-28), 3) := by decide +kernel
theorem dX5_quotedWord_50 : decode cX5_quotedWord 50 = .ok (.aconst_null, 1) := by decide +kernel
theorem dX5_quotedWord_51 : decode cX5_quotedWord 51 = .ok (.areturn, 1) := by decide +kernel
theorem hyX5_quotedWord : yX5_quotedWord.cls ≠ "java/lang/invoke/MethodHandle" ∧ yX5_quotedWord.cls ≠ "java/lang/invoke/VarHandle" ∧ (parseMethodDescriptor yX5_quotedWord.desc).map (fun d => d.parameters.length) = some 0 := ⟨by decide +kernel, by decide +kernel, by decide +kernel⟩
set_option maxRecDepth 100000 in
set_option maxHeartbeats 4000000 in
theorem wsX5_quotedWord_19b (C : zC p s m args meth c cX5_quotedWord RX5 5 D Ca B En) (hRm : zRm R 5 107 cells slots) (ev : zEv) (hZ : ∀ U : State, En U → zEnv ev B U) (x0 : Nat) (x2 : Int32) (σ : zS) (u3 : Int32) (y : (zS × Int32) ⊕ ((zS × Nat) ⊕ zS)) (hf : sX5_quotedWord_19b x0 x2 σ u3 = some y) (hk : (∀ z : (zS × Int32), y = .inl z → zW p l e R s m args below meth c cells slots Q D Ca B 5 z.1 N 19 [(0, .ref x0), (1, .ref ev.2.2.2.1), (2, .int x2), (3, .int z.2)] []) ∧ (∀ z : (zS × Nat), y = .inr (.inl z) → zW p l e R s m args below meth c cells slots Q D Ca B 5 z.1 N 41 [(4, .ref (ev.1 z.2))] []) ∧ (∀ z : zS, y = .inr (.inr z) → zW p l e R s m args below meth c cells slots Q D Ca B 5 z N 50 [] [])) : zW p l e R s m args below meth c cells slots Q D Ca B 5 σ N 19 [(0, .ref x0), (1, .ref ev.2.2.2.1), (2, .int x2), (3, .int u3)] [] := by
  unfold sX5_quotedWord_19b at hf
  refine z_iload_n C dX5_quotedWord_19 rfl 3 rfl ?_
  refine z_iload_n C dX5_quotedWord_20 rfl 2 rfl ?_
  refine z_icmp_ge C 50 dX5_quotedWord_21 (by decide) (fun q7 => ?_) (fun q7 => ?_)
  · rw [if_pos q7] at hf
    cases hf
    refine z_sub [] rfl ?_
    exact hk.2.2 _ rfl
  · rw [if_neg q7] at hf
    refine z_aload_n C dX5_quotedWord_24 rfl 1 rfl ?_
    refine z_iload_n C dX5_quotedWord_25 rfl 3 rfl ?_
    obtain ⟨v3, hv3, hf⟩ := zbind hf
    refine z_aW C ev hZ hv3 dX5_quotedWord_26 ?_
    refine z_astore (lv2 := [(4, .ref (ev.1 v3)), (0, .ref x0), (1, .ref ev.2.2.2.1), (2, .int x2), (3, .int u3)]) C dX5_quotedWord_27 (by decide) rfl ?_
    refine z_aload_n C dX5_quotedWord_29 rfl 1 rfl ?_
    refine z_aload C dX5_quotedWord_30 0 rfl ?_
    obtain ⟨v4, hv4, hf⟩ := zbind hf
    refine z_gWt C ev hZ hv4 kw_1373 dX5_quotedWord_32 ?_
    obtain ⟨c5, hc5, hf⟩ := zbind hf
    obtain ⟨kc5, hc5⟩ := zck_ok hc5
    refine z_callVi (As := [.ref (ev.2.1 v4)]) (F0 := 5) (L0 := 107) C (mX5_isToken l D Ca B En C.2.2.2.2.2.2.2.1 ev hZ σ N x0 v4 _ hc5) hRm kc5 rfl kw_886 kw_3 kw_883 kw_885 kp_23 hyX5_isToken (Nat.le_of_ble_eq_true rfl) (Nat.le_of_ble_eq_true rfl) rfl rfl (Nat.le_of_ble_eq_true rfl) dX5_quotedWord_35 ?_
    refine z_if_eq C 44 dX5_quotedWord_38 (by decide) (fun q6 => ?_) (fun q6 => ?_)
    · rw [if_pos q6] at hf
      refine z_iinc (lv2 := [(3, .int (u3 + (zi 1))), (4, .ref (ev.1 v3)), (0, .ref x0), (1, .ref ev.2.2.2.1), (2, .int x2)]) C (u3 + (zi 1)) dX5_quotedWord_44 4 rfl rfl (by decide) rfl ?_
      refine z_goto C 19 dX5_quotedWord_47 (by decide) ?_
      cases hf
      refine z_sub [2, 3, 4, 0] rfl ?_
      exact hk.1 _ rfl
    · rw [if_neg q6] at hf
      cases hf
      refine z_sub [0] rfl ?_
      exact hk.2.1 _ rfl

theorem wsX5_quotedWord_19 (C : zC p s m args meth c cX5_quotedWord RX5 5 D Ca B En) (hRm : zRm R 5 107 cells slots) (ev : zEv) (hZ : ∀ U : State, En U → zEnv ev B U) (x0 : Nat) (x2 : Int32) (n : Nat) (z : (zS × Int32)) (x : ((zS × Nat) ⊕ zS)) (hf : zloop (sX5_quotedWord_19 x0 x2) n z = some x) (hk : (∀ o : (zS × Nat), x = (.inl o) → zW p l e R s m args below meth c cells slots Q D Ca B 5 o.1 N 41 [(4, .ref (ev.1 o.2))] []) ∧ (∀ o : zS, x = (.inr o) → zW p l e R s m args below meth c cells slots Q D Ca B 5 o N 50 [] [])) : zW p l e R s m args below meth c cells slots Q D Ca B 5 z.1 N 19 [(0, .ref x0), (1, .ref ev.2.2.2.1), (2, .int x2), (3, .int z.2)] [] := by
  refine zloop_W (P := fun z : (zS × Int32) => zW p l e R s m args below meth c cells slots Q D Ca B 5 z.1 N 19 [(0, .ref x0), (1, .ref ev.2.2.2.1), (2, .int x2), (3, .int z.2)] []) (K := fun x : ((zS × Nat) ⊕ zS) => (∀ o : (zS × Nat), x = (.inl o) → zW p l e R s m args below meth c cells slots Q D Ca B 5 o.1 N 41 [(4, .ref (ev.1 o.2))] []) ∧ (∀ o : zS, x = (.inr o) → zW p l e R s m args below meth c cells slots Q D Ca B 5 o N 50 [] [])) ?_ n z x hf hk
  intro z y hy h1 h2
  refine wsX5_quotedWord_19b C hRm ev hZ x0 x2 z.1 z.2 y hy ⟨fun z2 e => h1 z2 e, fun o e => (h2 _ e).1 o rfl, fun o e => (h2 _ e).2 o rfl⟩
set_option maxRecDepth 100000 in
set_option maxHeartbeats 4000000 in
theorem wfX5_quotedWord (C : zC p s m args meth c cX5_quotedWord RX5 5 D Ca B En) (hRm : zRm R 5 107 cells slots) (ev : zEv) (hZ : ∀ U : State, En U → zEnv ev B U) (σ : zS) (x0 : Nat) (τ : zS) (r : Option Nat) (hf : fX5_quotedWord σ x0 = some (τ, r)) (hq : ∀ (pc : Nat) (lv : List (Nat × Value)), decode cX5_quotedWord pc = .ok (.areturn, 1) → zW p l e R s m args below meth c cells slots Q D Ca B 5 τ N pc lv [va_rf (r.map ev.1)]) : zW p l e R s m args below meth c cells slots Q D Ca B 5 σ N 0 [(0, .ref x0)] [] := by
  unfold fX5_quotedWord at hf
  refine z_aload_n C dX5_quotedWord_0 rfl 0 rfl ?_
  obtain ⟨v1, hv1, hf⟩ := zbind hf
  refine gf_RX5_37 C hv1 dX5_quotedWord_1 ?_
  refine z_iconst C (zi 1) dX5_quotedWord_4 (by decide) ?_
  refine z_icmp_eq C 10 dX5_quotedWord_5 (by decide) (fun q11 => ?_) (fun q11 => ?_)
  · rw [if_pos q11] at hf
    refine z_gsA C ev hZ dX5_quotedWord_10 ?_
    refine z_astore_n (lv2 := [(1, .ref ev.2.2.2.1), (0, .ref x0)]) C dX5_quotedWord_13 rfl (by decide) rfl ?_
    refine z_aload_n C dX5_quotedWord_14 rfl 0 rfl ?_
    obtain ⟨v2, hv2, hf⟩ := zbind hf
    refine z_alenW C ev hZ hv2 dX5_quotedWord_15 ?_
    refine z_istore_n (lv2 := [(2, .int v2), (1, .ref ev.2.2.2.1), (0, .ref x0)]) C dX5_quotedWord_16 rfl (by decide) rfl ?_
    refine z_iconst C (zi 0) dX5_quotedWord_17 (by decide) ?_
    refine z_istore_n (lv2 := [(3, .int ((zi 0))), (2, .int v2), (1, .ref ev.2.2.2.1), (0, .ref x0)]) C dX5_quotedWord_18 rfl (by decide) rfl ?_
    obtain ⟨o8, ho8, hf⟩ := zbind hf
    refine z_sub [3, 2, 1, 0] rfl ?_
    refine wsX5_quotedWord_19 C hRm ev hZ _ _ zfuel (σ, (zi 0)) o8 ho8 ⟨?_, ?_⟩
    · intro z9 e9
      subst e9
      dsimp only at hf
      refine z_aload C dX5_quotedWord_41 0 rfl ?_
      cases hf
      exact hq _ _ dX5_quotedWord_43
    · intro z10 e9
      subst e9
      dsimp only at hf
      refine z_null C dX5_quotedWord_50 ?_
      cases hf
      exact hq _ _ dX5_quotedWord_51
  · rw [if_neg q11] at hf
    refine z_null C dX5_quotedWord_8 ?_
    cases hf
    exact hq _ _ dX5_quotedWord_9

theorem mX5_quotedWord (l : Launch) (D : va_G) (Ca : Nat → ClassId) (B : Nat) (En : State → Prop) (hE : zEk B En) (ev : zEv) (hZ : ∀ U : State, En U → zEnv ev B U) (σ : zS) (N : Nat) (x0 : Nat) (X : zS × Option Nat) (hf : fX5_quotedWord σ x0 = some X) : zMq l D Ca B En yX5_quotedWord cX5_quotedWord 5 (Option.some (Jvm.ClassFile.FieldType.object "BarrierFlow$Word")) 5 107 [.ref x0] σ N X.1 (X.2.map ev.1) :=
  zMet_q (own := RX5) hE (by decide +kernel) rfl (Nat.le_of_ble_eq_true rfl) (fun p e s m args below meth c C hr hRm => wfX5_quotedWord C hRm ev hZ σ x0 X.1 X.2 hf (fun pc lv hd => zfin_q C hr (Or.inl ⟨_, rfl⟩) hd))
theorem dX5_refuse_0 : decode cX5_refuse 0 = .ok (.aload_n 0, 1) := by decide +kernel
theorem dX5_refuse_1 : decode cX5_refuse 1 = .ok (.iload_n 1, 1) := by decide +kernel
theorem dX5_refuse_2 : decode cX5_refuse 2 = .ok (.putfield 28, 3) := by decide +kernel
theorem dX5_refuse_5 : decode cX5_refuse 5 = .ok (.aload_n 0, 1) := by decide +kernel
theorem dX5_refuse_6 : decode cX5_refuse 6 = .ok (.aload_n 0, 1) := by decide +kernel
theorem dX5_refuse_7 : decode cX5_refuse 7 = .ok (.getfield 114, 3) := by decide +kernel
theorem dX5_refuse_10 : decode cX5_refuse 10 = .ok (.putfield 9, 3) := by decide +kernel
theorem dX5_refuse_13 : decode cX5_refuse 13 = .ok (.iconst 0, 1) := by decide +kernel
theorem dX5_refuse_14 : decode cX5_refuse 14 = .ok (.ireturn, 1) := by decide +kernel
theorem hyX5_refuse : yX5_refuse.cls ≠ "java/lang/invoke/MethodHandle" ∧ yX5_refuse.cls ≠ "java/lang/invoke/VarHandle" ∧ (parseMethodDescriptor yX5_refuse.desc).map (fun d => d.parameters.length) = some 1 := ⟨by decide +kernel, by decide +kernel, by decide +kernel⟩
set_option maxRecDepth 100000 in
set_option maxHeartbeats 4000000 in
theorem wfX5_refuse (C : zC p s m args meth c cX5_refuse RX5 2 D Ca B En) (hRm : zRm R 0 0 cells slots) (σ : zS) (x0 : Nat) (x1 : Int32) (τ : zS) (r : Int32) (hf : fX5_refuse σ x0 x1 = some (τ, r)) (hq : ∀ (pc : Nat) (lv : List (Nat × Value)), (r = 0 ∨ r = 1) → decode cX5_refuse pc = .ok (.ireturn, 1) → zW p l e R s m args below meth c cells slots Q D Ca B 2 τ N pc lv [.int r]) : zW p l e R s m args below meth c cells slots Q D Ca B 2 σ N 0 [(0, .ref x0), (1, .int x1)] [] := by
  unfold fX5_refuse at hf
  refine z_aload_n C dX5_refuse_0 rfl 0 rfl ?_
  refine z_iload_n C dX5_refuse_1 rfl 1 rfl ?_
  obtain ⟨σ1, hσ1, hf⟩ := zbind hf
  refine gp_RX5_28 C hσ1 dX5_refuse_2 ?_
  refine z_aload_n C dX5_refuse_5 rfl 0 rfl ?_
  refine z_aload_n C dX5_refuse_6 rfl 0 rfl ?_
  obtain ⟨v2, hv2, hf⟩ := zbind hf
  refine gf_RX5_114 C hv2 dX5_refuse_7 ?_
  obtain ⟨σ3, hσ3, hf⟩ := zbind hf
  refine gp_RX5_9 C hσ3 dX5_refuse_10 ?_
  refine z_iconst C (zi 0) dX5_refuse_13 (by decide) ?_
  obtain ⟨e9, b9⟩ := zrZ_ok hf
  cases e9
  exact hq _ _ b9 dX5_refuse_14

theorem mX5_refuse (l : Launch) (D : va_G) (Ca : Nat → ClassId) (B : Nat) (En : State → Prop) (hE : zEk B En) (σ : zS) (N : Nat) (x0 : Nat) (x1 : Int32) (X : zS × Int32) (hf : fX5_refuse σ x0 x1 = some X) : zMi l D Ca B En yX5_refuse cX5_refuse 2 (Option.some Jvm.ClassFile.FieldType.boolean) 0 0 [.ref x0, .int x1] σ N X.1 X.2 :=
  zMet_i (own := RX5) hE (by decide +kernel) rfl (Nat.le_of_ble_eq_true rfl) (fun p e s m args below meth c C hr hRm => wfX5_refuse C hRm σ x0 x1 X.1 X.2 hf (fun pc lv hb hd => zfin_z C hb hr hd))
theorem dX7_isName_0 : decode cX7_isName 0 = .ok (.iload 4, 2) := by decide +kernel
theorem dX7_isName_2 : decode cX7_isName 2 = .ok (.aload_n 0, 1) := by decide +kernel
theorem dX7_isName_3 : decode cX7_isName 3 = .ok (.getfield 21, 3) := by decide +kernel
theorem dX7_isName_6 : decode cX7_isName 6 = .ok (.iload_n 1, 1) := by decide +kernel
theorem dX7_isName_7 : decode cX7_isName 7 = .ok (.iaload, 1) := by decide +kernel
theorem dX7_isName_8 : decode cX7_isName 8 = .ok (.if_icmp .ne 23, 3) := by decide +kernel
theorem dX7_isName_11 : decode cX7_isName 11 = .ok (.iload 4, 2) := by decide +kernel
theorem dX7_isName_13 : decode cX7_isName 13 = .ok (.bipush 8, 2) := by decide +kernel
theorem dX7_isName_15 : decode cX7_isName 15 = .ok (.if_icmp .gt 16, 3) := by decide +kernel
theorem dX7_isName_18 : decode cX7_isName 18 = .ok (.iload_n 3, 1) := by decide +kernel
theorem dX7_isName_19 : decode cX7_isName 19 = .ok (.ifCond .lt 12, 3) := by decide +kernel
theorem dX7_isName_22 : decode cX7_isName 22 = .ok (.iload_n 3, 1) := by decide +kernel
theorem dX7_isName_23 : decode cX7_isName 23 = .ok (.iload 4, 2) := by decide +kernel
theorem dX7_isName_25 : decode cX7_isName 25 = .ok (.iadd, 1) := by decide +kernel
theorem dX7_isName_26 : decode cX7_isName 26 = .ok (.aload_n 2, 1) := by decide +kernel
theorem dX7_isName_27 : decode cX7_isName 27 = .ok (.arraylength, 1) := by decide +kernel
theorem dX7_isName_28 : decode cX7_isName 28 = .ok (.if_icmp .le 5, 3) := by decide +kernel
theorem dX7_isName_31 : decode cX7_isName 31 = .ok (.iconst 0, 1) := by decide +kernel
theorem dX7_isName_32 : decode cX7_isName 32 = .ok (.ireturn, 1) := by decide +kernel
theorem dX7_isName_33 : decode cX7_isName 33 = .ok (.iconst 0, 1) := by decide +kernel
theorem dX7_isName_34 : decode cX7_isName 34 = .ok (.istore 5, 2) := by decide +kernel
theorem dX7_isName_36 : decode cX7_isName 36 = .ok (.iload 5, 2) := by decide +kernel
theorem dX7_isName_38 : decode cX7_isName 38 = .ok (.iload 4, 2) := by decide +kernel
theorem dX7_isName_40 : decode cX7_isName 40 = .ok (.if_icmp .ge 32, 3) := by decide +kernel
theorem dX7_isName_43 : decode cX7_isName 43 = .ok (.aload_n 0, 1) := by decide +kernel
theorem dX7_isName_44 : decode cX7_isName 44 = .ok (.getfield 24, 3) := by decide +kernel
theorem dX7_isName_47 : decode cX7_isName 47 = .ok (.bipush 8, 2) := by decide +kernel
theorem dX7_isName_49 : decode cX7_isName 49 = .ok (.iload_n 1, 1) := by decide +kernel
theorem dX7_isName_50 : decode cX7_isName 50 = .ok (.imul, 1) := by decide +kernel
theorem dX7_isName_51 : decode cX7_isName 51 = .ok (.iload 5, 2) := by decide +kernel
theorem dX7_isName_53 : decode cX7_isName 53 = .ok (.iadd, 1) := by decide +kernel
theorem dX7_isName_54 : decode cX7_isName 54 = .ok (.baload, 1) := by decide +kernel
theorem dX7_isName_55 : decode cX7_isName 55 = .ok (.aload_n 2, 1) := by decide +kernel
theorem dX7_isName_56 : decode cX7_isName 56 = .ok (.iload_n 3, 1) := by decide +kernel
theorem dX7_isName_57 : decode cX7_isName 57 = .ok (.iload 5, 2) := by decide +kernel
theorem dX7_isName_59 : decode cX7_isName 59 = .ok (.iadd, 1) := by decide +kernel
theorem dX7_isName_60 : decode cX7_isName 60 = .ok (.baload, 1) := by decide +kernel
theorem dX7_isName_61 : decode cX7_isName 61 = .ok (.if_icmp .eq 5, 3) := by decide +kernel
theorem dX7_isName_64 : decode cX7_isName 64 = .ok (.iconst 0, 1) := by decide +kernel
theorem dX7_isName_65 : decode cX7_isName 65 = .ok (.ireturn, 1) := by decide +kernel
theorem dX7_isName_66 : decode cX7_isName 66 = .ok (.iinc 5 1, 3) := by decide +kernel
theorem dX7_isName_69 : decode cX7_isName 69 = .ok (.goto (-33), 3) := by decide +kernel
theorem dX7_isName_72 : decode cX7_isName 72 = .ok (.iconst 1, 1) := by decide +kernel
theorem dX7_isName_73 : decode cX7_isName 73 = .ok (.ireturn, 1) := by decide +kernel
theorem hyX7_isName : yX7_isName.cls ≠ "java/lang/invoke/MethodHandle" ∧ yX7_isName.cls ≠ "java/lang/invoke/VarHandle" ∧ (parseMethodDescriptor yX7_isName.desc).map (fun d => d.parameters.length) = some 4 := ⟨by decide +kernel, by decide +kernel, by decide +kernel⟩
set_option maxRecDepth 100000 in
set_option maxHeartbeats 4000000 in
theorem wsX7_isName_36b (C : zC p s m args meth c cX7_isName RX7 6 D Ca B En) (hRm : zRm R 0 0 cells slots) (x0 : Nat) (x1 : Int32) (x2 : Nat) (x3 : Int32) (x4 : Int32) (σ : zS) (u5 : Int32) (y : (zS × Int32) ⊕ (zS ⊕ zS)) (hf : sX7_isName_36b x0 x1 x2 x3 x4 σ u5 = some y) (hk : (∀ z : (zS × Int32), y = .inl z → zW p l e R s m args below meth c cells slots Q D Ca B 6 z.1 N 36 [(0, .ref x0), (1, .int x1), (2, .ref x2), (3, .int x3), (4, .int x4), (5, .int z.2)] []) ∧ (∀ z : zS, y = .inr (.inl z) → zW p l e R s m args below meth c cells slots Q D Ca B 6 z N 64 [] []) ∧ (∀ z : zS, y = .inr (.inr z) → zW p l e R s m args below meth c cells slots Q D Ca B 6 z N 72 [] [])) : zW p l e R s m args below meth c cells slots Q D Ca B 6 σ N 36 [(0, .ref x0), (1, .int x1), (2, .ref x2), (3, .int x3), (4, .int x4), (5, .int u5)] [] := by
  unfold sX7_isName_36b at hf
  refine z_iload C dX7_isName_36 5 rfl ?_
  refine z_iload C dX7_isName_38 4 rfl ?_
  refine z_icmp_ge C 72 dX7_isName_40 (by decide) (fun q8 => ?_) (fun q8 => ?_)
  · rw [if_pos q8] at hf
    cases hf
    refine z_sub [] rfl ?_
    exact hk.2.2 _ rfl
  · rw [if_neg q8] at hf
    refine z_aload_n C dX7_isName_43 rfl 0 rfl ?_
    obtain ⟨v4, hv4, hf⟩ := zbind hf
    refine gf_RX7_24 C hv4 dX7_isName_44 ?_
    refine z_bipush C (zi 8) dX7_isName_47 (by decide) ?_
    refine z_iload_n C dX7_isName_49 rfl 1 rfl ?_
    refine z_imul C dX7_isName_50 ?_
    refine z_iload C dX7_isName_51 5 rfl ?_
    refine z_iadd C dX7_isName_53 ?_
    obtain ⟨v5, hv5, hf⟩ := zbind hf
    refine z_aB C hv5 dX7_isName_54 ?_
    refine z_aload_n C dX7_isName_55 rfl 2 rfl ?_
    refine z_iload_n C dX7_isName_56 rfl 3 rfl ?_
    refine z_iload C dX7_isName_57 5 rfl ?_
    refine z_iadd C dX7_isName_59 ?_
    obtain ⟨v6, hv6, hf⟩ := zbind hf
    refine z_aB C hv6 dX7_isName_60 ?_
    refine z_icmp_eq C 66 dX7_isName_61 (by decide) (fun q7 => ?_) (fun q7 => ?_)
    · rw [if_pos q7] at hf
      refine z_iinc (lv2 := [(5, .int (u5 + (zi 1))), (0, .ref x0), (1, .int x1), (2, .ref x2), (3, .int x3), (4, .int x4)]) C (u5 + (zi 1)) dX7_isName_66 5 rfl rfl (by decide) rfl ?_
      refine z_goto C 36 dX7_isName_69 (by decide) ?_
      cases hf
      refine z_sub [1, 2, 3, 4, 5, 0] rfl ?_
      exact hk.1 _ rfl
    · rw [if_neg q7] at hf
      cases hf
      refine z_sub [] rfl ?_
      exact hk.2.1 _ rfl

theorem wsX7_isName_36 (C : zC p s m args meth c cX7_isName RX7 6 D Ca B En) (hRm : zRm R 0 0 cells slots) (x0 : Nat) (x1 : Int32) (x2 : Nat) (x3 : Int32) (x4 : Int32) (n : Nat) (z : (zS × Int32)) (x : (zS ⊕ zS)) (hf : zloop (sX7_isName_36 x0 x1 x2 x3 x4) n z = some x) (hk : (∀ o : zS, x = (.inl o) → zW p l e R s m args below meth c cells slots Q D Ca B 6 o N 64 [] []) ∧ (∀ o : zS, x = (.inr o) → zW p l e R s m args below meth c cells slots Q D Ca B 6 o N 72 [] [])) : zW p l e R s m args below meth c cells slots Q D Ca B 6 z.1 N 36 [(0, .ref x0), (1, .int x1), (2, .ref x2), (3, .int x3), (4, .int x4), (5, .int z.2)] [] := by
  refine zloop_W (P := fun z : (zS × Int32) => zW p l e R s m args below meth c cells slots Q D Ca B 6 z.1 N 36 [(0, .ref x0), (1, .int x1), (2, .ref x2), (3, .int x3), (4, .int x4), (5, .int z.2)] []) (K := fun x : (zS ⊕ zS) => (∀ o : zS, x = (.inl o) → zW p l e R s m args below meth c cells slots Q D Ca B 6 o N 64 [] []) ∧ (∀ o : zS, x = (.inr o) → zW p l e R s m args below meth c cells slots Q D Ca B 6 o N 72 [] [])) ?_ n z x hf hk
  intro z y hy h1 h2
  refine wsX7_isName_36b C hRm x0 x1 x2 x3 x4 z.1 z.2 y hy ⟨fun z2 e => h1 z2 e, fun o e => (h2 _ e).1 o rfl, fun o e => (h2 _ e).2 o rfl⟩
set_option maxRecDepth 100000 in
set_option maxHeartbeats 4000000 in
theorem wfX7_isName (C : zC p s m args meth c cX7_isName RX7 6 D Ca B En) (hRm : zRm R 0 0 cells slots) (σ : zS) (x0 : Nat) (x1 : Int32) (x2 : Nat) (x3 : Int32) (x4 : Int32) (τ : zS) (r : Int32) (hf : fX7_isName σ x0 x1 x2 x3 x4 = some (τ, r)) (hq : ∀ (pc : Nat) (lv : List (Nat × Value)), (r = 0 ∨ r = 1) → decode cX7_isName pc = .ok (.ireturn, 1) → zW p l e R s m args below meth c cells slots Q D Ca B 6 τ N pc lv [.int r]) : zW p l e R s m args below meth c cells slots Q D Ca B 6 σ N 0 [(0, .ref x0), (1, .int x1), (2, .ref x2), (3, .int x3), (4, .int x4)] [] := by
  unfold fX7_isName at hf
  refine z_iload C dX7_isName_0 4 rfl ?_
  refine z_aload_n C dX7_isName_2 rfl 0 rfl ?_
  obtain ⟨v1, hv1, hf⟩ := zbind hf
  refine gf_RX7_21 C hv1 dX7_isName_3 ?_
  refine z_iload_n C dX7_isName_6 rfl 1 rfl ?_
  obtain ⟨v2, hv2, hf⟩ := zbind hf
  refine z_aI C hv2 dX7_isName_7 ?_
  refine z_icmp_ne C 31 dX7_isName_8 (by decide) (fun q15 => ?_) (fun q15 => ?_)
  · rw [if_neg q15] at hf
    refine z_iconst C (zi 0) dX7_isName_31 (by decide) ?_
    obtain ⟨e9, b9⟩ := zrZ_ok hf
    cases e9
    exact hq _ _ b9 dX7_isName_32
  · rw [if_pos q15] at hf
    refine z_iload C dX7_isName_11 4 rfl ?_
    refine z_bipush C (zi 8) dX7_isName_13 (by decide) ?_
    refine z_icmp_gt C 31 dX7_isName_15 (by decide) (fun q14 => ?_) (fun q14 => ?_)
    · rw [if_pos q14] at hf
      refine z_iconst C (zi 0) dX7_isName_31 (by decide) ?_
      obtain ⟨e9, b9⟩ := zrZ_ok hf
      cases e9
      exact hq _ _ b9 dX7_isName_32
    · rw [if_neg q14] at hf
      refine z_iload_n C dX7_isName_18 rfl 3 rfl ?_
      refine z_if_lt C 31 dX7_isName_19 (by decide) (fun q13 => ?_) (fun q13 => ?_)
      · rw [if_pos q13] at hf
        refine z_iconst C (zi 0) dX7_isName_31 (by decide) ?_
        obtain ⟨e9, b9⟩ := zrZ_ok hf
        cases e9
        exact hq _ _ b9 dX7_isName_32
      · rw [if_neg q13] at hf
        refine z_iload_n C dX7_isName_22 rfl 3 rfl ?_
        refine z_iload C dX7_isName_23 4 rfl ?_
        refine z_iadd C dX7_isName_25 ?_
        refine z_aload_n C dX7_isName_26 rfl 2 rfl ?_
        obtain ⟨v3, hv3, hf⟩ := zbind hf
        refine z_alen C hv3 dX7_isName_27 ?_
        refine z_icmp_le C 33 dX7_isName_28 (by decide) (fun q12 => ?_) (fun q12 => ?_)
        · rw [if_pos q12] at hf
          refine z_iconst C (zi 0) dX7_isName_33 (by decide) ?_
          refine z_istore (lv2 := [(5, .int ((zi 0))), (0, .ref x0), (1, .int x1), (2, .ref x2), (3, .int x3), (4, .int x4)]) C dX7_isName_34 (by decide) rfl ?_
          obtain ⟨o9, ho9, hf⟩ := zbind hf
          refine z_sub [1, 2, 3, 4, 5, 0] rfl ?_
          refine wsX7_isName_36 C hRm _ _ _ _ _ zfuel (σ, (zi 0)) o9 ho9 ⟨?_, ?_⟩
          · intro z10 e9
            subst e9
            dsimp only at hf
            refine z_iconst C (zi 0) dX7_isName_64 (by decide) ?_
            obtain ⟨e9, b9⟩ := zrZ_ok hf
            cases e9
            exact hq _ _ b9 dX7_isName_65
          · intro z11 e9
            subst e9
            dsimp only at hf
            refine z_iconst C (zi 1) dX7_isName_72 (by decide) ?_
            obtain ⟨e9, b9⟩ := zrZ_ok hf
            cases e9
            exact hq _ _ b9 dX7_isName_73
        · rw [if_neg q12] at hf
          refine z_iconst C (zi 0) dX7_isName_31 (by decide) ?_
          obtain ⟨e9, b9⟩ := zrZ_ok hf
          cases e9
          exact hq _ _ b9 dX7_isName_32

theorem mX7_isName (l : Launch) (D : va_G) (Ca : Nat → ClassId) (B : Nat) (En : State → Prop) (hE : zEk B En) (σ : zS) (N : Nat) (x0 : Nat) (x1 : Int32) (x2 : Nat) (x3 : Int32) (x4 : Int32) (X : zS × Int32) (hf : fX7_isName σ x0 x1 x2 x3 x4 = some X) : zMi l D Ca B En yX7_isName cX7_isName 6 (Option.some Jvm.ClassFile.FieldType.boolean) 0 0 [.ref x0, .int x1, .ref x2, .int x3, .int x4] σ N X.1 X.2 :=
  zMet_i (own := RX7) hE (by decide +kernel) rfl (Nat.le_of_ble_eq_true rfl) (fun p e s m args below meth c C hr hRm => wfX7_isName C hRm σ x0 x1 x2 x3 x4 X.1 X.2 hf (fun pc lv hb hd => zfin_z C hb hr hd))
theorem dX7_named_0 : decode cX7_named 0 = .ok (.iconst 0, 1) := by decide +kernel
theorem dX7_named_1 : decode cX7_named 1 = .ok (.istore 4, 2) := by decide +kernel
theorem dX7_named_3 : decode cX7_named 3 = .ok (.iload 4, 2) := by decide +kernel
theorem dX7_named_5 : decode cX7_named 5 = .ok (.aload_n 0, 1) := by decide +kernel
theorem dX7_named_6 : decode cX7_named 6 = .ok (.getfield 40, 3) := by decide +kernel
theorem dX7_named_9 : decode cX7_named 9 = .ok (.if_icmp .ge 24, 3) := by decide +kernel
theorem dX7_named_12 : decode cX7_named 12 = .ok (.aload_n 0, 1) := by decide +kernel
theorem dX7_named_13 : decode cX7_named 13 = .ok (.iload 4, 2) := by decide +kernel
theorem dX7_named_15 : decode cX7_named 15 = .ok (.aload_n 1, 1) := by decide +kernel
theorem dX7_named_16 : decode cX7_named 16 = .ok (.iload_n 2, 1) := by decide +kernel
theorem dX7_named_17 : decode cX7_named 17 = .ok (.iload_n 3, 1) := by decide +kernel
theorem dX7_named_18 : decode cX7_named 18 = .ok (.invokevirtual 90, 3) := by decide +kernel
theorem dX7_named_21 : decode cX7_named 21 = .ok (.ifCond .eq 6, 3) := by decide +kernel
theorem dX7_named_24 : decode cX7_named 24 = .ok (.iload 4, 2) := by decide +kernel
theorem dX7_named_26 : decode cX7_named 26 = .ok (.ireturn, 1) := by decide +kernel
theorem dX7_named_27 : decode cX7_named 27 = .ok (.iinc 4 1, 3) := by decide +kernel
theorem dX7_named_30 : decode cX7_named 30 = .ok (.goto (-27), 3) := by decide +kernel
theorem dX7_named_33 : decode cX7_named 33 = .ok (.iconst (-1), 1) := by decide +kernel
theorem dX7_named_34 : decode cX7_named 34 = .ok (.ireturn, 1) := by decide +kernel
theorem hyX7_named : yX7_named.cls ≠ "java/lang/invoke/MethodHandle" ∧ yX7_named.cls ≠ "java/lang/invoke/VarHandle" ∧ (parseMethodDescriptor yX7_named.desc).map (fun d => d.parameters.length) = some 3 := ⟨by decide +kernel, by decide +kernel, by decide +kernel⟩
set_option maxRecDepth 100000 in
set_option maxHeartbeats 4000000 in
theorem wsX7_named_3b (C : zC p s m args meth c cX7_named RX7 5 D Ca B En) (hRm : zRm R 1 25 cells slots) (x0 : Nat) (x1 : Nat) (x2 : Int32) (x3 : Int32) (σ : zS) (u4 : Int32) (y : (zS × Int32) ⊕ ((zS × Int32) ⊕ zS)) (hf : sX7_named_3b x0 x1 x2 x3 σ u4 = some y) (hk : (∀ z : (zS × Int32), y = .inl z → zW p l e R s m args below meth c cells slots Q D Ca B 5 z.1 N 3 [(0, .ref x0), (1, .ref x1), (2, .int x2), (3, .int x3), (4, .int z.2)] []) ∧ (∀ z : (zS × Int32), y = .inr (.inl z) → zW p l e R s m args below meth c cells slots Q D Ca B 5 z.1 N 24 [(4, .int z.2)] []) ∧ (∀ z : zS, y = .inr (.inr z) → zW p l e R s m args below meth c cells slots Q D Ca B 5 z N 33 [] [])) : zW p l e R s m args below meth c cells slots Q D Ca B 5 σ N 3 [(0, .ref x0), (1, .ref x1), (2, .int x2), (3, .int x3), (4, .int u4)] [] := by
  unfold sX7_named_3b at hf
  refine z_iload C dX7_named_3 4 rfl ?_
  refine z_aload_n C dX7_named_5 rfl 0 rfl ?_
  obtain ⟨v1, hv1, hf⟩ := zbind hf
  refine gf_RX7_40 C hv1 dX7_named_6 ?_
  refine z_icmp_ge C 33 dX7_named_9 (by decide) (fun q4 => ?_) (fun q4 => ?_)
  · rw [if_pos q4] at hf
    cases hf
    refine z_sub [] rfl ?_
    exact hk.2.2 _ rfl
  · rw [if_neg q4] at hf
    refine z_aload_n C dX7_named_12 rfl 0 rfl ?_
    refine z_iload C dX7_named_13 4 rfl ?_
    refine z_aload_n C dX7_named_15 rfl 1 rfl ?_
    refine z_iload_n C dX7_named_16 rfl 2 rfl ?_
    refine z_iload_n C dX7_named_17 rfl 3 rfl ?_
    obtain ⟨c2, hc2, hf⟩ := zbind hf
    obtain ⟨kc2, hc2⟩ := zck_ok hc2
    refine z_callVi (As := [.int u4, .ref x1, .int x2, .int x3]) (F0 := 1) (L0 := 25) C (mX7_isName l D Ca B En C.2.2.2.2.2.2.2.1 σ N x0 u4 x1 x2 x3 _ hc2) hRm kc2 rfl kw_910 kw_5 kw_907 kw_909 kp_27 hyX7_isName (Nat.le_of_ble_eq_true rfl) (Nat.le_of_ble_eq_true rfl) rfl rfl (Nat.le_of_ble_eq_true rfl) dX7_named_18 ?_
    refine z_if_eq C 27 dX7_named_21 (by decide) (fun q3 => ?_) (fun q3 => ?_)
    · rw [if_pos q3] at hf
      refine z_iinc (lv2 := [(4, .int (u4 + (zi 1))), (0, .ref x0), (1, .ref x1), (2, .int x2), (3, .int x3)]) C (u4 + (zi 1)) dX7_named_27 4 rfl rfl (by decide) rfl ?_
      refine z_goto C 3 dX7_named_30 (by decide) ?_
      cases hf
      refine z_sub [1, 2, 3, 4, 0] rfl ?_
      exact hk.1 _ rfl
    · rw [if_neg q3] at hf
      cases hf
      refine z_sub [4] rfl ?_
      exact hk.2.1 _ rfl

theorem wsX7_named_3 (C : zC p s m args meth c cX7_named RX7 5 D Ca B En) (hRm : zRm R 1 25 cells slots) (x0 : Nat) (x1 : Nat) (x2 : Int32) (x3 : Int32) (n : Nat) (z : (zS × Int32)) (x : ((zS × Int32) ⊕ zS)) (hf : zloop (sX7_named_3 x0 x1 x2 x3) n z = some x) (hk : (∀ o : (zS × Int32), x = (.inl o) → zW p l e R s m args below meth c cells slots Q D Ca B 5 o.1 N 24 [(4, .int o.2)] []) ∧ (∀ o : zS, x = (.inr o) → zW p l e R s m args below meth c cells slots Q D Ca B 5 o N 33 [] [])) : zW p l e R s m args below meth c cells slots Q D Ca B 5 z.1 N 3 [(0, .ref x0), (1, .ref x1), (2, .int x2), (3, .int x3), (4, .int z.2)] [] := by
  refine zloop_W (P := fun z : (zS × Int32) => zW p l e R s m args below meth c cells slots Q D Ca B 5 z.1 N 3 [(0, .ref x0), (1, .ref x1), (2, .int x2), (3, .int x3), (4, .int z.2)] []) (K := fun x : ((zS × Int32) ⊕ zS) => (∀ o : (zS × Int32), x = (.inl o) → zW p l e R s m args below meth c cells slots Q D Ca B 5 o.1 N 24 [(4, .int o.2)] []) ∧ (∀ o : zS, x = (.inr o) → zW p l e R s m args below meth c cells slots Q D Ca B 5 o N 33 [] [])) ?_ n z x hf hk
  intro z y hy h1 h2
  refine wsX7_named_3b C hRm x0 x1 x2 x3 z.1 z.2 y hy ⟨fun z2 e => h1 z2 e, fun o e => (h2 _ e).1 o rfl, fun o e => (h2 _ e).2 o rfl⟩
set_option maxRecDepth 100000 in
set_option maxHeartbeats 4000000 in
theorem wfX7_named (C : zC p s m args meth c cX7_named RX7 5 D Ca B En) (hRm : zRm R 1 25 cells slots) (σ : zS) (x0 : Nat) (x1 : Nat) (x2 : Int32) (x3 : Int32) (τ : zS) (r : Int32) (hf : fX7_named σ x0 x1 x2 x3 = some (τ, r)) (hq : ∀ (pc : Nat) (lv : List (Nat × Value)), decode cX7_named pc = .ok (.ireturn, 1) → zW p l e R s m args below meth c cells slots Q D Ca B 5 τ N pc lv [.int r]) : zW p l e R s m args below meth c cells slots Q D Ca B 5 σ N 0 [(0, .ref x0), (1, .ref x1), (2, .int x2), (3, .int x3)] [] := by
  unfold fX7_named at hf
  refine z_iconst C (zi 0) dX7_named_0 (by decide) ?_
  refine z_istore (lv2 := [(4, .int ((zi 0))), (0, .ref x0), (1, .ref x1), (2, .int x2), (3, .int x3)]) C dX7_named_1 (by decide) rfl ?_
  obtain ⟨o5, ho5, hf⟩ := zbind hf
  refine z_sub [1, 2, 3, 4, 0] rfl ?_
  refine wsX7_named_3 C hRm _ _ _ _ zfuel (σ, (zi 0)) o5 ho5 ⟨?_, ?_⟩
  · intro z6 e9
    subst e9
    dsimp only at hf
    refine z_iload C dX7_named_24 0 rfl ?_
    cases hf
    exact hq _ _ dX7_named_26
  · intro z7 e9
    subst e9
    dsimp only at hf
    refine z_iconst C (zi (-1)) dX7_named_33 (by decide) ?_
    cases hf
    exact hq _ _ dX7_named_34

theorem mX7_named (l : Launch) (D : va_G) (Ca : Nat → ClassId) (B : Nat) (En : State → Prop) (hE : zEk B En) (σ : zS) (N : Nat) (x0 : Nat) (x1 : Nat) (x2 : Int32) (x3 : Int32) (X : zS × Int32) (hf : fX7_named σ x0 x1 x2 x3 = some X) : zMi l D Ca B En yX7_named cX7_named 5 (Option.some Jvm.ClassFile.FieldType.int) 1 25 [.ref x0, .ref x1, .int x2, .int x3] σ N X.1 X.2 :=
  zMet_i (own := RX7) hE (by decide +kernel) rfl (Nat.le_of_ble_eq_true rfl) (fun p e s m args below meth c C hr hRm => wfX7_named C hRm σ x0 x1 x2 x3 X.1 X.2 hf (fun pc lv hd => zfin_i C hr hd))
theorem dX7_setName_0 : decode cX7_setName 0 = .ok (.iload_n 1, 1) := by decide +kernel
theorem dX7_setName_1 : decode cX7_setName 1 = .ok (.ifCond .lt 33, 3) := by decide +kernel
theorem dX7_setName_4 : decode cX7_setName 4 = .ok (.iload_n 1, 1) := by decide +kernel
theorem dX7_setName_5 : decode cX7_setName 5 = .ok (.iconst 4, 1) := by decide +kernel
theorem dX7_setName_6 : decode cX7_setName 6 = .ok (.if_icmp .ge 28, 3) := by decide +kernel
theorem dX7_setName_9 : decode cX7_setName 9 = .ok (.iload 4, 2) := by decide +kernel
theorem dX7_setName_11 : decode cX7_setName 11 = .ok (.ifCond .lt 23, 3) := by decide +kernel
theorem dX7_setName_14 : decode cX7_setName 14 = .ok (.iload 4, 2) := by decide +kernel
theorem dX7_setName_16 : decode cX7_setName 16 = .ok (.bipush 8, 2) := by decide +kernel
theorem dX7_setName_18 : decode cX7_setName 18 = .ok (.if_icmp .gt 16, 3) := by decide +kernel
theorem dX7_setName_21 : decode cX7_setName 21 = .ok (.iload_n 3, 1) := by decide +kernel
theorem dX7_setName_22 : decode cX7_setName 22 = .ok (.ifCond .lt 12, 3) := by decide +kernel
theorem dX7_setName_25 : decode cX7_setName 25 = .ok (.iload_n 3, 1) := by decide +kernel
theorem dX7_setName_26 : decode cX7_setName 26 = .ok (.iload 4, 2) := by decide +kernel
theorem dX7_setName_28 : decode cX7_setName 28 = .ok (.iadd, 1) := by decide +kernel
theorem dX7_setName_29 : decode cX7_setName 29 = .ok (.aload_n 2, 1) := by decide +kernel
theorem dX7_setName_30 : decode cX7_setName 30 = .ok (.arraylength, 1) := by decide +kernel
theorem dX7_setName_31 : decode cX7_setName 31 = .ok (.if_icmp .le 4, 3) := by decide +kernel
theorem dX7_setName_34 : decode cX7_setName 34 = .ok (.return_, 1) := by decide +kernel
theorem dX7_setName_35 : decode cX7_setName 35 = .ok (.aload_n 2, 1) := by decide +kernel
theorem dX7_setName_36 : decode cX7_setName 36 = .ok (.iload_n 3, 1) := by decide +kernel
theorem dX7_setName_37 : decode cX7_setName 37 = .ok (.aload_n 0, 1) := by decide +kernel
theorem dX7_setName_38 : decode cX7_setName 38 = .ok (.getfield 24, 3) := by decide +kernel
theorem dX7_setName_41 : decode cX7_setName 41 = .ok (.bipush 8, 2) := by decide +kernel
theorem dX7_setName_43 : decode cX7_setName 43 = .ok (.iload_n 1, 1) := by decide +kernel
theorem dX7_setName_44 : decode cX7_setName 44 = .ok (.imul, 1) := by decide +kernel
theorem dX7_setName_45 : decode cX7_setName 45 = .ok (.iload 4, 2) := by decide +kernel
theorem dX7_setName_47 : decode cX7_setName 47 = .ok (.invokestatic 84, 3) := by decide +kernel
theorem dX7_setName_50 : decode cX7_setName 50 = .ok (.aload_n 0, 1) := by decide +kernel
theorem dX7_setName_51 : decode cX7_setName 51 = .ok (.getfield 21, 3) := by decide +kernel
theorem dX7_setName_54 : decode cX7_setName 54 = .ok (.iload_n 1, 1) := by decide +kernel
theorem dX7_setName_55 : decode cX7_setName 55 = .ok (.iload 4, 2) := by decide +kernel
theorem dX7_setName_57 : decode cX7_setName 57 = .ok (.iastore, 1) := by decide +kernel
theorem dX7_setName_58 : decode cX7_setName 58 = .ok (.return_, 1) := by decide +kernel
theorem hyX7_setName : yX7_setName.cls ≠ "java/lang/invoke/MethodHandle" ∧ yX7_setName.cls ≠ "java/lang/invoke/VarHandle" ∧ (parseMethodDescriptor yX7_setName.desc).map (fun d => d.parameters.length) = some 4 := ⟨by decide +kernel, by decide +kernel, by decide +kernel⟩
set_option maxRecDepth 100000 in
set_option maxHeartbeats 4000000 in
theorem wfX7_setName (C : zC p s m args meth c cX7_setName RX7 5 D Ca B En) (hRm : zRm R 1 64 cells slots) (σ : zS) (x0 : Nat) (x1 : Int32) (x2 : Nat) (x3 : Int32) (x4 : Int32) (τ : zS) (hf : fX7_setName σ x0 x1 x2 x3 x4 = some τ) (hq : ∀ (pc : Nat) (lv : List (Nat × Value)), decode cX7_setName pc = .ok (.return_, 1) → zW p l e R s m args below meth c cells slots Q D Ca B 5 τ N pc lv []) : zW p l e R s m args below meth c cells slots Q D Ca B 5 σ N 0 [(0, .ref x0), (1, .int x1), (2, .ref x2), (3, .int x3), (4, .int x4)] [] := by
  unfold fX7_setName at hf
  refine z_iload_n C dX7_setName_0 rfl 1 rfl ?_
  refine z_if_lt C 34 dX7_setName_1 (by decide) (fun q11 => ?_) (fun q11 => ?_)
  · rw [if_pos q11] at hf
    cases hf
    exact hq _ _ dX7_setName_34
  · rw [if_neg q11] at hf
    refine z_iload_n C dX7_setName_4 rfl 1 rfl ?_
    refine z_iconst C (zi 4) dX7_setName_5 (by decide) ?_
    refine z_icmp_ge C 34 dX7_setName_6 (by decide) (fun q10 => ?_) (fun q10 => ?_)
    · rw [if_pos q10] at hf
      cases hf
      exact hq _ _ dX7_setName_34
    · rw [if_neg q10] at hf
      refine z_iload C dX7_setName_9 4 rfl ?_
      refine z_if_lt C 34 dX7_setName_11 (by decide) (fun q9 => ?_) (fun q9 => ?_)
      · rw [if_pos q9] at hf
        cases hf
        exact hq _ _ dX7_setName_34
      · rw [if_neg q9] at hf
        refine z_iload C dX7_setName_14 4 rfl ?_
        refine z_bipush C (zi 8) dX7_setName_16 (by decide) ?_
        refine z_icmp_gt C 34 dX7_setName_18 (by decide) (fun q8 => ?_) (fun q8 => ?_)
        · rw [if_pos q8] at hf
          cases hf
          exact hq _ _ dX7_setName_34
        · rw [if_neg q8] at hf
          refine z_iload_n C dX7_setName_21 rfl 3 rfl ?_
          refine z_if_lt C 34 dX7_setName_22 (by decide) (fun q7 => ?_) (fun q7 => ?_)
          · rw [if_pos q7] at hf
            cases hf
            exact hq _ _ dX7_setName_34
          · rw [if_neg q7] at hf
            refine z_iload_n C dX7_setName_25 rfl 3 rfl ?_
            refine z_iload C dX7_setName_26 4 rfl ?_
            refine z_iadd C dX7_setName_28 ?_
            refine z_aload_n C dX7_setName_29 rfl 2 rfl ?_
            obtain ⟨v1, hv1, hf⟩ := zbind hf
            refine z_alen C hv1 dX7_setName_30 ?_
            refine z_icmp_le C 35 dX7_setName_31 (by decide) (fun q6 => ?_) (fun q6 => ?_)
            · rw [if_pos q6] at hf
              refine z_aload_n C dX7_setName_35 rfl 2 rfl ?_
              refine z_iload_n C dX7_setName_36 rfl 3 rfl ?_
              refine z_aload_n C dX7_setName_37 rfl 0 rfl ?_
              obtain ⟨v2, hv2, hf⟩ := zbind hf
              refine gf_RX7_24 C hv2 dX7_setName_38 ?_
              refine z_bipush C (zi 8) dX7_setName_41 (by decide) ?_
              refine z_iload_n C dX7_setName_43 rfl 1 rfl ?_
              refine z_imul C dX7_setName_44 ?_
              refine z_iload C dX7_setName_45 4 rfl ?_
              obtain ⟨σ3, hσ3, hf⟩ := zbind hf
              refine z_cY C hσ3 (FR := 1) (LR := 64) hRm (Nat.le_of_ble_eq_true rfl) (Nat.le_of_ble_eq_true rfl) kw_915 kw_303 kw_302 kw_12 (Nat.le_of_ble_eq_true rfl) dX7_setName_47 ?_
              refine z_aload_n C dX7_setName_50 rfl 0 rfl ?_
              obtain ⟨v4, hv4, hf⟩ := zbind hf
              refine gf_RX7_21 C hv4 dX7_setName_51 ?_
              refine z_iload_n C dX7_setName_54 rfl 1 rfl ?_
              refine z_iload C dX7_setName_55 4 rfl ?_
              obtain ⟨σ5, hσ5, hf⟩ := zbind hf
              refine z_sI C hσ5 dX7_setName_57 ?_
              cases hf
              exact hq _ _ dX7_setName_58
            · rw [if_neg q6] at hf
              cases hf
              exact hq _ _ dX7_setName_34

theorem mX7_setName (l : Launch) (D : va_G) (Ca : Nat → ClassId) (B : Nat) (En : State → Prop) (hE : zEk B En) (σ : zS) (N : Nat) (x0 : Nat) (x1 : Int32) (x2 : Nat) (x3 : Int32) (x4 : Int32) (X : zS) (hf : fX7_setName σ x0 x1 x2 x3 x4 = some X) : zMv l D Ca B En yX7_setName cX7_setName 5 (Option.none : Option Jvm.ClassFile.FieldType) 1 64 [.ref x0, .int x1, .ref x2, .int x3, .int x4] σ N X () :=
  zMet_v (own := RX7) hE (by decide +kernel) rfl (Nat.le_of_ble_eq_true rfl) (fun p e s m args below meth c C hr hRm => wfX7_setName C hRm σ x0 x1 x2 x3 x4 X hf (fun pc lv hd => zfin_v (r := ()) C hr hd))
theorem dX5_readName_0 : decode cX5_readName 0 = .ok (.aload_n 0, 1) := by decide +kernel
theorem dX5_readName_1 : decode cX5_readName 1 = .ok (.getfield 37, 3) := by decide +kernel
theorem dX5_readName_4 : decode cX5_readName 4 = .ok (.iconst 1, 1) := by decide +kernel
theorem dX5_readName_5 : decode cX5_readName 5 = .ok (.if_icmp .ne 24, 3) := by decide +kernel
theorem dX5_readName_8 : decode cX5_readName 8 = .ok (.aload_n 0, 1) := by decide +kernel
theorem dX5_readName_9 : decode cX5_readName 9 = .ok (.getfield 31, 3) := by decide +kernel
theorem dX5_readName_12 : decode cX5_readName 12 = .ok (.aload_n 0, 1) := by decide +kernel
theorem dX5_readName_13 : decode cX5_readName 13 = .ok (.getfield 114, 3) := by decide +kernel
theorem dX5_readName_16 : decode cX5_readName 16 = .ok (.isub, 1) := by decide +kernel
theorem dX5_readName_17 : decode cX5_readName 17 = .ok (.bipush 8, 2) := by decide +kernel
theorem dX5_readName_19 : decode cX5_readName 19 = .ok (.if_icmp .gt 10, 3) := by decide +kernel
theorem dX5_readName_22 : decode cX5_readName 22 = .ok (.aload_n 0, 1) := by decide +kernel
theorem dX5_readName_23 : decode cX5_readName 23 = .ok (.invokevirtual 54, 3) := by decide +kernel
theorem dX5_readName_26 : decode cX5_readName 26 = .ok (.ifnull 9, 3) := by decide +kernel
theorem dX5_readName_29 : decode cX5_readName 29 = .ok (.aload_n 0, 1) := by decide +kernel
theorem dX5_readName_30 : decode cX5_readName 30 = .ok (.iconst 1, 1) := by decide +kernel
theorem dX5_readName_31 : decode cX5_readName 31 = .ok (.invokevirtual 47, 3) := by decide +kernel
theorem dX5_readName_34 : decode cX5_readName 34 = .ok (.ireturn, 1) := by decide +kernel
theorem dX5_readName_35 : decode cX5_readName 35 = .ok (.aload_n 0, 1) := by decide +kernel
theorem dX5_readName_36 : decode cX5_readName 36 = .ok (.getfield 19, 3) := by decide +kernel
theorem dX5_readName_39 : decode cX5_readName 39 = .ok (.aload_n 0, 1) := by decide +kernel
theorem dX5_readName_40 : decode cX5_readName 40 = .ok (.getfield 15, 3) := by decide +kernel
theorem dX5_readName_43 : decode cX5_readName 43 = .ok (.getfield 117, 3) := by decide +kernel
theorem dX5_readName_46 : decode cX5_readName 46 = .ok (.aload_n 0, 1) := by decide +kernel
theorem dX5_readName_47 : decode cX5_readName 47 = .ok (.getfield 114, 3) := by decide +kernel
theorem dX5_readName_50 : decode cX5_readName 50 = .ok (.aload_n 0, 1) := by decide +kernel
theorem dX5_readName_51 : decode cX5_readName 51 = .ok (.getfield 31, 3) := by decide +kernel
theorem dX5_readName_54 : decode cX5_readName 54 = .ok (.aload_n 0, 1) := by decide +kernel
theorem dX5_readName_55 : decode cX5_readName 55 = .ok (.getfield 114, 3) := by decide +kernel
theorem dX5_readName_58 : decode cX5_readName 58 = .ok (.isub, 1) := by decide +kernel
theorem dX5_readName_59 : decode cX5_readName 59 = .ok (.invokevirtual 123, 3) := by decide +kernel
theorem dX5_readName_62 : decode cX5_readName 62 = .ok (.iconst (-1), 1) := by decide +kernel
theorem dX5_readName_63 : decode cX5_readName 63 = .ok (.if_icmp .eq 9, 3) := by decide +kernel
theorem dX5_readName_66 : decode cX5_readName 66 = .ok (.aload_n 0, 1) := by decide +kernel
theorem dX5_readName_67 : decode cX5_readName 67 = .ok (.iconst 3, 1) := by decide +kernel
theorem dX5_readName_68 : decode cX5_readName 68 = .ok (.invokevirtual 47, 3) := by decide +kernel
theorem dX5_readName_71 : decode cX5_readName 71 = .ok (.ireturn, 1) := by decide +kernel
theorem dX5_readName_72 : decode cX5_readName 72 = .ok (.aload_n 0, 1) := by decide +kernel
theorem dX5_readName_73 : decode cX5_readName 73 = .ok (.getfield 19, 3) := by decide +kernel
theorem dX5_readName_76 : decode cX5_readName 76 = .ok (.iload_n 1, 1) := by decide +kernel
theorem dX5_readName_77 : decode cX5_readName 77 = .ok (.aload_n 0, 1) := by decide +kernel
theorem dX5_readName_78 : decode cX5_readName 78 = .ok (.getfield 15, 3) := by decide +kernel
theorem dX5_readName_81 : decode cX5_readName 81 = .ok (.getfield 117, 3) := by decide +kernel
theorem dX5_readName_84 : decode cX5_readName 84 = .ok (.aload_n 0, 1) := by decide +kernel
theorem dX5_readName_85 : decode cX5_readName 85 = .ok (.getfield 114, 3) := by decide +kernel
theorem dX5_readName_88 : decode cX5_readName 88 = .ok (.aload_n 0, 1) := by decide +kernel
theorem dX5_readName_89 : decode cX5_readName 89 = .ok (.getfield 31, 3) := by decide +kernel
theorem dX5_readName_92 : decode cX5_readName 92 = .ok (.aload_n 0, 1) := by decide +kernel
theorem dX5_readName_93 : decode cX5_readName 93 = .ok (.getfield 114, 3) := by decide +kernel
theorem dX5_readName_96 : decode cX5_readName 96 = .ok (.isub, 1) := by decide +kernel
theorem dX5_readName_97 : decode cX5_readName 97 = .ok (.invokevirtual 127, 3) := by decide +kernel
theorem dX5_readName_100 : decode cX5_readName 100 = .ok (.aload_n 0, 1) := by decide +kernel
theorem dX5_readName_101 : decode cX5_readName 101 = .ok (.invokevirtual 34, 3) := by decide +kernel
theorem dX5_readName_104 : decode cX5_readName 104 = .ok (.iconst 1, 1) := by decide +kernel
theorem dX5_readName_105 : decode cX5_readName 105 = .ok (.ireturn, 1) := by decide +kernel
theorem hyX5_readName : yX5_readName.cls ≠ "java/lang/invoke/MethodHandle" ∧ yX5_readName.cls ≠ "java/lang/invoke/VarHandle" ∧ (parseMethodDescriptor yX5_readName.desc).map (fun d => d.parameters.length) = some 1 := ⟨by decide +kernel, by decide +kernel, by decide +kernel⟩
set_option maxRecDepth 100000 in
set_option maxHeartbeats 4000000 in
theorem wjX5_readName_29 (C : zC p s m args meth c cX5_readName RX5 2 D Ca B En) (hRm : zRm R 6 131 cells slots) (ev : zEv) (hZ : ∀ U : State, En U → zEnv ev B U) (σ : zS) (x0 : Nat)  (τ : zS) (r : Int32) (hf : jX5_readName_29 σ x0  = some (τ, r)) (hq : ∀ (pc : Nat) (lv : List (Nat × Value)), (r = 0 ∨ r = 1) → decode cX5_readName pc = .ok (.ireturn, 1) → zW p l e R s m args below meth c cells slots Q D Ca B 2 τ N pc lv [.int r]) : zW p l e R s m args below meth c cells slots Q D Ca B 2 σ N 29 [(0, .ref x0)] [] := by
  unfold jX5_readName_29 at hf
  refine z_aload_n C dX5_readName_29 rfl 0 rfl ?_
  refine z_iconst C (zi 1) dX5_readName_30 (by decide) ?_
  obtain ⟨c2, hc2, hf⟩ := zbind hf
  obtain ⟨kc2, hc2⟩ := zck_ok hc2
  refine z_callVi (As := [.int ((zi 1))]) (F0 := 6) (L0 := 131) C (mX5_refuse l D Ca B En C.2.2.2.2.2.2.2.1 σ N x0 ((zi 1)) _ hc2) hRm kc2 rfl kw_898 kw_3 kw_895 kw_897 kp_25 hyX5_refuse (Nat.le_of_ble_eq_true rfl) (Nat.le_of_ble_eq_true rfl) rfl rfl (Nat.le_of_ble_eq_true rfl) dX5_readName_31 ?_
  obtain ⟨e9, b9⟩ := zrZ_ok hf
  cases e9
  exact hq _ _ b9 dX5_readName_34

set_option maxRecDepth 100000 in
set_option maxHeartbeats 4000000 in
theorem wfX5_readName (C : zC p s m args meth c cX5_readName RX5 2 D Ca B En) (hRm : zRm R 6 131 cells slots) (ev : zEv) (hZ : ∀ U : State, En U → zEnv ev B U) (σ : zS) (x0 : Nat) (x1 : Int32) (τ : zS) (r : Int32) (hf : fX5_readName σ x0 x1 = some (τ, r)) (hq : ∀ (pc : Nat) (lv : List (Nat × Value)), (r = 0 ∨ r = 1) → decode cX5_readName pc = .ok (.ireturn, 1) → zW p l e R s m args below meth c cells slots Q D Ca B 2 τ N pc lv [.int r]) : zW p l e R s m args below meth c cells slots Q D Ca B 2 σ N 0 [(0, .ref x0), (1, .int x1)] [] := by
  unfold fX5_readName at hf
  refine z_aload_n C dX5_readName_0 rfl 0 rfl ?_
  obtain ⟨v1, hv1, hf⟩ := zbind hf
  refine gf_RX5_37 C hv1 dX5_readName_1 ?_
  refine z_iconst C (zi 1) dX5_readName_4 (by decide) ?_
  refine z_icmp_ne C 29 dX5_readName_5 (by decide) (fun q26 => ?_) (fun q26 => ?_)
  · rw [if_neg q26] at hf
    refine z_sub [0] rfl ?_
    exact wjX5_readName_29 C hRm ev hZ _ _  _ _ hf hq
  · rw [if_pos q26] at hf
    refine z_aload_n C dX5_readName_8 rfl 0 rfl ?_
    obtain ⟨v3, hv3, hf⟩ := zbind hf
    refine gf_RX5_31 C hv3 dX5_readName_9 ?_
    refine z_aload_n C dX5_readName_12 rfl 0 rfl ?_
    obtain ⟨v4, hv4, hf⟩ := zbind hf
    refine gf_RX5_114 C hv4 dX5_readName_13 ?_
    refine z_isub C dX5_readName_16 ?_
    refine z_bipush C (zi 8) dX5_readName_17 (by decide) ?_
    refine z_icmp_gt C 29 dX5_readName_19 (by decide) (fun q25 => ?_) (fun q25 => ?_)
    · rw [if_pos q25] at hf
      refine z_sub [0] rfl ?_
      exact wjX5_readName_29 C hRm ev hZ _ _  _ _ hf hq
    · rw [if_neg q25] at hf
      refine z_aload_n C dX5_readName_22 rfl 0 rfl ?_
      obtain ⟨c5, hc5, hf⟩ := zbind hf
      obtain ⟨kc5, hc5⟩ := zck_ok hc5
      refine z_callVq (As := []) (F0 := 6) (L0 := 131) C (mX5_quotedWord l D Ca B En C.2.2.2.2.2.2.2.1 ev hZ σ N x0  _ hc5) hRm kc5 rfl kw_880 kw_3 kw_877 kw_879 kp_22 hyX5_quotedWord (Nat.le_of_ble_eq_true rfl) (Nat.le_of_ble_eq_true rfl) rfl rfl (Nat.le_of_ble_eq_true rfl) dX5_readName_23 ?_
      obtain ⟨w7, ew7⟩ : ∃ z, z = c5.2 := ⟨_, rfl⟩
      rw [← ew7] at hf ⊢
      cases w7 with
      | none =>
        dsimp only at hf
        refine z_ifnullN C 35 dX5_readName_26 (by decide) ?_
        refine z_aload_n C dX5_readName_35 rfl 0 rfl ?_
        obtain ⟨v8, hv8, hf⟩ := zbind hf
        refine gf_RX5_19 C hv8 dX5_readName_36 ?_
        refine z_aload_n C dX5_readName_39 rfl 0 rfl ?_
        obtain ⟨v9, hv9, hf⟩ := zbind hf
        refine gf_RX5_15 C hv9 dX5_readName_40 ?_
        obtain ⟨v10, hv10, hf⟩ := zbind hf
        refine gf_RX5_117 C hv10 dX5_readName_43 ?_
        refine z_aload_n C dX5_readName_46 rfl 0 rfl ?_
        obtain ⟨v11, hv11, hf⟩ := zbind hf
        refine gf_RX5_114 C hv11 dX5_readName_47 ?_
        refine z_aload_n C dX5_readName_50 rfl 0 rfl ?_
        obtain ⟨v12, hv12, hf⟩ := zbind hf
        refine gf_RX5_31 C hv12 dX5_readName_51 ?_
        refine z_aload_n C dX5_readName_54 rfl 0 rfl ?_
        obtain ⟨v13, hv13, hf⟩ := zbind hf
        refine gf_RX5_114 C hv13 dX5_readName_55 ?_
        refine z_isub C dX5_readName_58 ?_
        obtain ⟨c14, hc14, hf⟩ := zbind hf
        obtain ⟨kc14, hc14⟩ := zck_ok hc14
        refine z_callVi (As := [.ref v10, .int v11, .int (v12 - v13)]) (F0 := 6) (L0 := 131) C (mX7_named l D Ca B En C.2.2.2.2.2.2.2.1 c5.1 N v8 v10 v11 (v12 - v13) _ hc14) hRm kc14 rfl kw_906 kw_5 kw_903 kw_904 kw_905 hyX7_named (Nat.le_of_ble_eq_true rfl) (Nat.le_of_ble_eq_true rfl) rfl rfl (Nat.le_of_ble_eq_true rfl) dX5_readName_59 ?_
        refine z_iconst C (zi (-1)) dX5_readName_62 (by decide) ?_
        refine z_icmp_eq C 72 dX5_readName_63 (by decide) (fun q24 => ?_) (fun q24 => ?_)
        · rw [if_pos q24] at hf
          refine z_aload_n C dX5_readName_72 rfl 0 rfl ?_
          obtain ⟨v15, hv15, hf⟩ := zbind hf
          refine gf_RX5_19 C hv15 dX5_readName_73 ?_
          refine z_iload_n C dX5_readName_76 rfl 1 rfl ?_
          refine z_aload_n C dX5_readName_77 rfl 0 rfl ?_
          obtain ⟨v16, hv16, hf⟩ := zbind hf
          refine gf_RX5_15 C hv16 dX5_readName_78 ?_
          obtain ⟨v17, hv17, hf⟩ := zbind hf
          refine gf_RX5_117 C hv17 dX5_readName_81 ?_
          refine z_aload_n C dX5_readName_84 rfl 0 rfl ?_
          obtain ⟨v18, hv18, hf⟩ := zbind hf
          refine gf_RX5_114 C hv18 dX5_readName_85 ?_
          refine z_aload_n C dX5_readName_88 rfl 0 rfl ?_
          obtain ⟨v19, hv19, hf⟩ := zbind hf
          refine gf_RX5_31 C hv19 dX5_readName_89 ?_
          refine z_aload_n C dX5_readName_92 rfl 0 rfl ?_
          obtain ⟨v20, hv20, hf⟩ := zbind hf
          refine gf_RX5_114 C hv20 dX5_readName_93 ?_
          refine z_isub C dX5_readName_96 ?_
          obtain ⟨c21, hc21, hf⟩ := zbind hf
          obtain ⟨kc21, hc21⟩ := zck_ok hc21
          refine z_callVv (As := [.int x1, .ref v17, .int v18, .int (v19 - v20)]) (F0 := 6) (L0 := 131) C (mX7_setName l D Ca B En C.2.2.2.2.2.2.2.1 c14.1 N v15 x1 v17 v18 (v19 - v20) _ hc21) hRm kc21 rfl kw_914 kw_5 kw_911 kw_912 kw_913 hyX7_setName (Nat.le_of_ble_eq_true rfl) (Nat.le_of_ble_eq_true rfl) rfl rfl (Nat.le_of_ble_eq_true rfl) dX5_readName_97 ?_
          refine z_aload_n C dX5_readName_100 rfl 0 rfl ?_
          obtain ⟨c22, hc22, hf⟩ := zbind hf
          obtain ⟨kc22, hc22⟩ := zck_ok hc22
          refine z_callVv (As := []) (F0 := 6) (L0 := 131) C (mX5_advance l D Ca B En C.2.2.2.2.2.2.2.1 c21 N x0  _ hc22) hRm kc22 rfl kw_864 kw_3 kw_861 kw_863 kp_19 hyX5_advance (Nat.le_of_ble_eq_true rfl) (Nat.le_of_ble_eq_true rfl) rfl rfl (Nat.le_of_ble_eq_true rfl) dX5_readName_101 ?_
          refine z_iconst C (zi 1) dX5_readName_104 (by decide) ?_
          obtain ⟨e9, b9⟩ := zrZ_ok hf
          cases e9
          exact hq _ _ b9 dX5_readName_105
        · rw [if_neg q24] at hf
          refine z_aload_n C dX5_readName_66 rfl 0 rfl ?_
          refine z_iconst C (zi 3) dX5_readName_67 (by decide) ?_
          obtain ⟨c23, hc23, hf⟩ := zbind hf
          obtain ⟨kc23, hc23⟩ := zck_ok hc23
          refine z_callVi (As := [.int ((zi 3))]) (F0 := 6) (L0 := 131) C (mX5_refuse l D Ca B En C.2.2.2.2.2.2.2.1 c14.1 N x0 ((zi 3)) _ hc23) hRm kc23 rfl kw_898 kw_3 kw_895 kw_897 kp_25 hyX5_refuse (Nat.le_of_ble_eq_true rfl) (Nat.le_of_ble_eq_true rfl) rfl rfl (Nat.le_of_ble_eq_true rfl) dX5_readName_68 ?_
          obtain ⟨e9, b9⟩ := zrZ_ok hf
          cases e9
          exact hq _ _ b9 dX5_readName_71
      | some a6 =>
        dsimp only at hf
        refine z_ifnull C dX5_readName_26 ?_
        refine z_sub [0] rfl ?_
        exact wjX5_readName_29 C hRm ev hZ _ _  _ _ hf hq

theorem mX5_readName (l : Launch) (D : va_G) (Ca : Nat → ClassId) (B : Nat) (En : State → Prop) (hE : zEk B En) (ev : zEv) (hZ : ∀ U : State, En U → zEnv ev B U) (σ : zS) (N : Nat) (x0 : Nat) (x1 : Int32) (X : zS × Int32) (hf : fX5_readName σ x0 x1 = some X) : zMi l D Ca B En yX5_readName cX5_readName 2 (Option.some Jvm.ClassFile.FieldType.boolean) 6 131 [.ref x0, .int x1] σ N X.1 X.2 :=
  zMet_i (own := RX5) hE (by decide +kernel) rfl (Nat.le_of_ble_eq_true rfl) (fun p e s m args below meth c C hr hRm => wfX5_readName C hRm ev hZ σ x0 x1 X.1 X.2 hf (fun pc lv hb hd => zfin_z C hb hr hd))
theorem dX5_readWord_0 : decode cX5_readWord 0 = .ok (.aload_n 0, 1) := by decide +kernel
theorem dX5_readWord_1 : decode cX5_readWord 1 = .ok (.invokevirtual 54, 3) := by decide +kernel
theorem dX5_readWord_4 : decode cX5_readWord 4 = .ok (.aload_n 1, 1) := by decide +kernel
theorem dX5_readWord_5 : decode cX5_readWord 5 = .ok (.if_acmp .eq 9, 3) := by decide +kernel
theorem dX5_readWord_8 : decode cX5_readWord 8 = .ok (.aload_n 0, 1) := by decide +kernel
theorem dX5_readWord_9 : decode cX5_readWord 9 = .ok (.iconst 1, 1) := by decide +kernel
theorem dX5_readWord_10 : decode cX5_readWord 10 = .ok (.invokevirtual 47, 3) := by decide +kernel
theorem dX5_readWord_13 : decode cX5_readWord 13 = .ok (.ireturn, 1) := by decide +kernel
theorem dX5_readWord_14 : decode cX5_readWord 14 = .ok (.aload_n 0, 1) := by decide +kernel
theorem dX5_readWord_15 : decode cX5_readWord 15 = .ok (.invokevirtual 34, 3) := by decide +kernel
theorem dX5_readWord_18 : decode cX5_readWord 18 = .ok (.iconst 1, 1) := by decide +kernel
theorem dX5_readWord_19 : decode cX5_readWord 19 = .ok (.ireturn, 1) := by decide +kernel
theorem hyX5_readWord : yX5_readWord.cls ≠ "java/lang/invoke/MethodHandle" ∧ yX5_readWord.cls ≠ "java/lang/invoke/VarHandle" ∧ (parseMethodDescriptor yX5_readWord.desc).map (fun d => d.parameters.length) = some 1 := ⟨by decide +kernel, by decide +kernel, by decide +kernel⟩
set_option maxRecDepth 100000 in
set_option maxHeartbeats 4000000 in
theorem wfX5_readWord (C : zC p s m args meth c cX5_readWord RX5 2 D Ca B En) (hRm : zRm R 6 131 cells slots) (ev : zEv) (hZ : ∀ U : State, En U → zEnv ev B U) (σ : zS) (x0 : Nat) (x1 : Nat) (τ : zS) (r : Int32) (hf : fX5_readWord σ x0 x1 = some (τ, r)) (hq : ∀ (pc : Nat) (lv : List (Nat × Value)), (r = 0 ∨ r = 1) → decode cX5_readWord pc = .ok (.ireturn, 1) → zW p l e R s m args below meth c cells slots Q D Ca B 2 τ N pc lv [.int r]) : zW p l e R s m args below meth c cells slots Q D Ca B 2 σ N 0 [(0, .ref x0), (1, .ref (ev.1 x1))] [] := by
  unfold fX5_readWord at hf
  refine z_aload_n C dX5_readWord_0 rfl 0 rfl ?_
  obtain ⟨c1, hc1, hf⟩ := zbind hf
  obtain ⟨kc1, hc1⟩ := zck_ok hc1
  refine z_callVq (As := []) (F0 := 6) (L0 := 131) C (mX5_quotedWord l D Ca B En C.2.2.2.2.2.2.2.1 ev hZ σ N x0  _ hc1) hRm kc1 rfl kw_880 kw_3 kw_877 kw_879 kp_22 hyX5_quotedWord (Nat.le_of_ble_eq_true rfl) (Nat.le_of_ble_eq_true rfl) rfl rfl (Nat.le_of_ble_eq_true rfl) dX5_readWord_1 ?_
  obtain ⟨w3, ew3⟩ : ∃ z, z = c1.2 := ⟨_, rfl⟩
  rw [← ew3] at hf ⊢
  cases w3 with
  | none =>
    dsimp only at hf
    refine z_aload_n C dX5_readWord_4 rfl 1 rfl ?_
    refine z_acmpW_eqN C ev hZ 14 dX5_readWord_5 (by decide) ?_
    refine z_aload_n C dX5_readWord_8 rfl 0 rfl ?_
    refine z_iconst C (zi 1) dX5_readWord_9 (by decide) ?_
    obtain ⟨c4, hc4, hf⟩ := zbind hf
    obtain ⟨kc4, hc4⟩ := zck_ok hc4
    refine z_callVi (As := [.int ((zi 1))]) (F0 := 6) (L0 := 131) C (mX5_refuse l D Ca B En C.2.2.2.2.2.2.2.1 c1.1 N x0 ((zi 1)) _ hc4) hRm kc4 rfl kw_898 kw_3 kw_895 kw_897 kp_25 hyX5_refuse (Nat.le_of_ble_eq_true rfl) (Nat.le_of_ble_eq_true rfl) rfl rfl (Nat.le_of_ble_eq_true rfl) dX5_readWord_10 ?_
    obtain ⟨e9, b9⟩ := zrZ_ok hf
    cases e9
    exact hq _ _ b9 dX5_readWord_13
  | some a2 =>
    dsimp only at hf
    refine z_aload_n C dX5_readWord_4 rfl 1 rfl ?_
    obtain ⟨v5, hv5, hf⟩ := zbind hf
    refine z_acmpW_eq C ev hZ 14 hv5 dX5_readWord_5 (by decide) (fun q8 => ?_) (fun q8 => ?_)
    · rw [if_pos q8] at hf
      refine z_aload_n C dX5_readWord_14 rfl 0 rfl ?_
      obtain ⟨c6, hc6, hf⟩ := zbind hf
      obtain ⟨kc6, hc6⟩ := zck_ok hc6
      refine z_callVv (As := []) (F0 := 6) (L0 := 131) C (mX5_advance l D Ca B En C.2.2.2.2.2.2.2.1 c1.1 N x0  _ hc6) hRm kc6 rfl kw_864 kw_3 kw_861 kw_863 kp_19 hyX5_advance (Nat.le_of_ble_eq_true rfl) (Nat.le_of_ble_eq_true rfl) rfl rfl (Nat.le_of_ble_eq_true rfl) dX5_readWord_15 ?_
      refine z_iconst C (zi 1) dX5_readWord_18 (by decide) ?_
      obtain ⟨e9, b9⟩ := zrZ_ok hf
      cases e9
      exact hq _ _ b9 dX5_readWord_19
    · rw [if_neg q8] at hf
      refine z_aload_n C dX5_readWord_8 rfl 0 rfl ?_
      refine z_iconst C (zi 1) dX5_readWord_9 (by decide) ?_
      obtain ⟨c7, hc7, hf⟩ := zbind hf
      obtain ⟨kc7, hc7⟩ := zck_ok hc7
      refine z_callVi (As := [.int ((zi 1))]) (F0 := 6) (L0 := 131) C (mX5_refuse l D Ca B En C.2.2.2.2.2.2.2.1 c1.1 N x0 ((zi 1)) _ hc7) hRm kc7 rfl kw_898 kw_3 kw_895 kw_897 kp_25 hyX5_refuse (Nat.le_of_ble_eq_true rfl) (Nat.le_of_ble_eq_true rfl) rfl rfl (Nat.le_of_ble_eq_true rfl) dX5_readWord_10 ?_
      obtain ⟨e9, b9⟩ := zrZ_ok hf
      cases e9
      exact hq _ _ b9 dX5_readWord_13

theorem mX5_readWord (l : Launch) (D : va_G) (Ca : Nat → ClassId) (B : Nat) (En : State → Prop) (hE : zEk B En) (ev : zEv) (hZ : ∀ U : State, En U → zEnv ev B U) (σ : zS) (N : Nat) (x0 : Nat) (x1 : Nat) (X : zS × Int32) (hf : fX5_readWord σ x0 x1 = some X) : zMi l D Ca B En yX5_readWord cX5_readWord 2 (Option.some Jvm.ClassFile.FieldType.boolean) 6 131 [.ref x0, .ref (ev.1 x1)] σ N X.1 X.2 :=
  zMet_i (own := RX5) hE (by decide +kernel) rfl (Nat.le_of_ble_eq_true rfl) (fun p e s m args below meth c C hr hRm => wfX5_readWord C hRm ev hZ σ x0 x1 X.1 X.2 hf (fun pc lv hb hd => zfin_z C hb hr hd))
theorem dX5_readNumber_0 : decode cX5_readNumber 0 = .ok (.aload_n 0, 1) := by decide +kernel
theorem dX5_readNumber_1 : decode cX5_readNumber 1 = .ok (.getfield 37, 3) := by decide +kernel
theorem dX5_readNumber_4 : decode cX5_readNumber 4 = .ok (.iconst 2, 1) := by decide +kernel
theorem dX5_readNumber_5 : decode cX5_readNumber 5 = .ok (.if_icmp .ne 16, 3) := by decide +kernel
theorem dX5_readNumber_8 : decode cX5_readNumber 8 = .ok (.aload_n 0, 1) := by decide +kernel
theorem dX5_readNumber_9 : decode cX5_readNumber 9 = .ok (.getfield 31, 3) := by decide +kernel
theorem dX5_readNumber_12 : decode cX5_readNumber 12 = .ok (.aload_n 0, 1) := by decide +kernel
theorem dX5_readNumber_13 : decode cX5_readNumber 13 = .ok (.getfield 114, 3) := by decide +kernel
theorem dX5_readNumber_16 : decode cX5_readNumber 16 = .ok (.isub, 1) := by decide +kernel
theorem dX5_readNumber_17 : decode cX5_readNumber 17 = .ok (.iconst 3, 1) := by decide +kernel
theorem dX5_readNumber_18 : decode cX5_readNumber 18 = .ok (.if_icmp .le 9, 3) := by decide +kernel
theorem dX5_readNumber_21 : decode cX5_readNumber 21 = .ok (.aload_n 0, 1) := by decide +kernel
theorem dX5_readNumber_22 : decode cX5_readNumber 22 = .ok (.iconst 1, 1) := by decide +kernel
theorem dX5_readNumber_23 : decode cX5_readNumber 23 = .ok (.invokevirtual 47, 3) := by decide +kernel
theorem dX5_readNumber_26 : decode cX5_readNumber 26 = .ok (.ireturn, 1) := by decide +kernel
theorem dX5_readNumber_27 : decode cX5_readNumber 27 = .ok (.aload_n 0, 1) := by decide +kernel
theorem dX5_readNumber_28 : decode cX5_readNumber 28 = .ok (.iconst 0, 1) := by decide +kernel
theorem dX5_readNumber_29 : decode cX5_readNumber 29 = .ok (.putfield 93, 3) := by decide +kernel
theorem dX5_readNumber_32 : decode cX5_readNumber 32 = .ok (.aload_n 0, 1) := by decide +kernel
theorem dX5_readNumber_33 : decode cX5_readNumber 33 = .ok (.getfield 114, 3) := by decide +kernel
theorem dX5_readNumber_36 : decode cX5_readNumber 36 = .ok (.istore_n 2, 1) := by decide +kernel
theorem dX5_readNumber_37 : decode cX5_readNumber 37 = .ok (.iload_n 2, 1) := by decide +kernel
theorem dX5_readNumber_38 : decode cX5_readNumber 38 = .ok (.aload_n 0, 1) := by decide +kernel
theorem dX5_readNumber_39 : decode cX5_readNumber 39 = .ok (.getfield 31, 3) := by decide +kernel
theorem dX5_readNumber_42 : decode cX5_readNumber 42 = .ok (.if_icmp .ge 32, 3) := by decide +kernel
theorem dX5_readNumber_45 : decode cX5_readNumber 45 = .ok (.aload_n 0, 1) := by decide +kernel
theorem dX5_readNumber_46 : decode cX5_readNumber 46 = .ok (.bipush 10, 2) := by decide +kernel
theorem dX5_readNumber_48 : decode cX5_readNumber 48 = .ok (.aload_n 0, 1) := by decide +kernel
theorem dX5_readNumber_49 : decode cX5_readNumber 49 = .ok (.getfield 93, 3) := by decide +kernel
theorem dX5_readNumber_52 : decode cX5_readNumber 52 = .ok (.imul, 1) := by decide +kernel
theorem dX5_readNumber_53 : decode cX5_readNumber 53 = .ok (.aload_n 0, 1) := by decide +kernel
theorem dX5_readNumber_54 : decode cX5_readNumber 54 = .ok (.getfield 15, 3) := by decide +kernel
theorem dX5_readNumber_57 : decode cX5_readNumber 57 = .ok (.iload_n 2, 1) := by decide +kernel
theorem dX5_readNumber_58 : decode cX5_readNumber 58 = .ok (.invokevirtual 131, 3) := by decide +kernel
theorem dX5_readNumber_61 : decode cX5_readNumber 61 = .ok (.iadd, 1) := by decide +kernel
theorem dX5_readNumber_62 : decode cX5_readNumber 62 = .ok (.bipush 48, 2) := by decide +kernel
theorem dX5_readNumber_64 : decode cX5_readNumber 64 = .ok (.isub, 1) := by decide +kernel
theorem dX5_readNumber_65 : decode cX5_readNumber 65 = .ok (.putfield 93, 3) := by decide +kernel
theorem dX5_readNumber_68 : decode cX5_readNumber 68 = .ok (.iinc 2 1, 3) := by decide +kernel
theorem dX5_readNumber_71 : decode cX5_readNumber 71 = .ok (.goto (-34), 3) := by decide +kernel
theorem dX5_readNumber_74 : decode cX5_readNumber 74 = .ok (.aload_n 0, 1) := by decide +kernel
theorem dX5_readNumber_75 : decode cX5_readNumber 75 = .ok (.getfield 93, 3) := by decide +kernel
theorem dX5_readNumber_78 : decode cX5_readNumber 78 = .ok (.aload_n 1, 1) := by decide +kernel
theorem dX5_readNumber_79 : decode cX5_readNumber 79 = .ok (.getfield 135, 3) := by decide +kernel
theorem dX5_readNumber_82 : decode cX5_readNumber 82 = .ok (.if_icmp .lt 14, 3) := by decide +kernel
theorem dX5_readNumber_85 : decode cX5_readNumber 85 = .ok (.aload_n 0, 1) := by decide +kernel
theorem dX5_readNumber_86 : decode cX5_readNumber 86 = .ok (.getfield 93, 3) := by decide +kernel
theorem dX5_readNumber_89 : decode cX5_readNumber 89 = .ok (.aload_n 1, 1) := by decide +kernel
theorem dX5_readNumber_90 : decode cX5_readNumber 90 = .ok (.getfield 138, 3) := by decide +kernel
theorem dX5_readNumber_93 : decode cX5_readNumber 93 = .ok (.if_icmp .le 9, 3) := by decide +kernel
theorem dX5_readNumber_96 : decode cX5_readNumber 96 = .ok (.aload_n 0, 1) := by decide +kernel
theorem dX5_readNumber_97 : decode cX5_readNumber 97 = .ok (.iconst 2, 1) := by decide +kernel
theorem dX5_readNumber_98 : decode cX5_readNumber 98 = .ok (.invokevirtual 47, 3) := by decide +kernel
theorem dX5_readNumber_101 : decode cX5_readNumber 101 = .ok (.ireturn, 1) := by decide +kernel
theorem dX5_readNumber_102 : decode cX5_readNumber 102 = .ok (.aload_n 0, 1) := by decide +kernel
theorem dX5_readNumber_103 : decode cX5_readNumber 103 = .ok (.invokevirtual 34, 3) := by decide +kernel
theorem dX5_readNumber_106 : decode cX5_readNumber 106 = .ok (.iconst 1, 1) := by decide +kernel
theorem dX5_readNumber_107 : decode cX5_readNumber 107 = .ok (.ireturn, 1) := by decide +kernel
theorem hyX5_readNumber : yX5_readNumber.cls ≠ "java/lang/invoke/MethodHandle" ∧ yX5_readNumber.cls ≠ "java/lang/invoke/VarHandle" ∧ (parseMethodDescriptor yX5_readNumber.desc).map (fun d => d.parameters.length) = some 1 := ⟨by decide +kernel, by decide +kernel, by decide +kernel⟩
set_option maxRecDepth 100000 in
set_option maxHeartbeats 4000000 in
theorem wjX5_readNumber_21 (C : zC p s m args meth c cX5_readNumber RX5 3 D Ca B En) (hRm : zRm R 3 63 cells slots) (ev : zEv) (hZ : ∀ U : State, En U → zEnv ev B U) (σ : zS) (x0 : Nat)  (τ : zS) (r : Int32) (hf : jX5_readNumber_21 σ x0  = some (τ, r)) (hq : ∀ (pc : Nat) (lv : List (Nat × Value)), (r = 0 ∨ r = 1) → decode cX5_readNumber pc = .ok (.ireturn, 1) → zW p l e R s m args below meth c cells slots Q D Ca B 3 τ N pc lv [.int r]) : zW p l e R s m args below meth c cells slots Q D Ca B 3 σ N 21 [(0, .ref x0)] [] := by
  unfold jX5_readNumber_21 at hf
  refine z_aload_n C dX5_readNumber_21 rfl 0 rfl ?_
  refine z_iconst C (zi 1) dX5_readNumber_22 (by decide) ?_
  obtain ⟨c2, hc2, hf⟩ := zbind hf
  obtain ⟨kc2, hc2⟩ := zck_ok hc2
  refine z_callVi (As := [.int ((zi 1))]) (F0 := 3) (L0 := 63) C (mX5_refuse l D Ca B En C.2.2.2.2.2.2.2.1 σ N x0 ((zi 1)) _ hc2) hRm kc2 rfl kw_898 kw_3 kw_895 kw_897 kp_25 hyX5_refuse (Nat.le_of_ble_eq_true rfl) (Nat.le_of_ble_eq_true rfl) rfl rfl (Nat.le_of_ble_eq_true rfl) dX5_readNumber_23 ?_
  obtain ⟨e9, b9⟩ := zrZ_ok hf
  cases e9
  exact hq _ _ b9 dX5_readNumber_26

set_option maxRecDepth 100000 in
set_option maxHeartbeats 4000000 in
theorem wsX5_readNumber_37b (C : zC p s m args meth c cX5_readNumber RX5 3 D Ca B En) (hRm : zRm R 3 63 cells slots) (ev : zEv) (hZ : ∀ U : State, En U → zEnv ev B U) (x0 : Nat) (x1 : Nat) (σ : zS) (u2 : Int32) (y : (zS × Int32) ⊕ zS) (hf : sX5_readNumber_37b x0 x1 σ u2 = some y) (hk : (∀ z : (zS × Int32), y = .inl z → zW p l e R s m args below meth c cells slots Q D Ca B 3 z.1 N 37 [(0, .ref x0), (1, .ref (ev.1 x1)), (2, .int z.2)] []) ∧ (∀ z : zS, y = .inr z → zW p l e R s m args below meth c cells slots Q D Ca B 3 z N 74 [(0, .ref x0), (1, .ref (ev.1 x1))] [])) : zW p l e R s m args below meth c cells slots Q D Ca B 3 σ N 37 [(0, .ref x0), (1, .ref (ev.1 x1)), (2, .int u2)] [] := by
  unfold sX5_readNumber_37b at hf
  refine z_iload_n C dX5_readNumber_37 rfl 2 rfl ?_
  refine z_aload_n C dX5_readNumber_38 rfl 0 rfl ?_
  obtain ⟨v7, hv7, hf⟩ := zbind hf
  refine gf_RX5_31 C hv7 dX5_readNumber_39 ?_
  refine z_icmp_ge C 74 dX5_readNumber_42 (by decide) (fun q12 => ?_) (fun q12 => ?_)
  · rw [if_pos q12] at hf
    cases hf
    refine z_sub [0, 1] rfl ?_
    exact hk.2 _ rfl
  · rw [if_neg q12] at hf
    refine z_aload_n C dX5_readNumber_45 rfl 0 rfl ?_
    refine z_bipush C (zi 10) dX5_readNumber_46 (by decide) ?_
    refine z_aload_n C dX5_readNumber_48 rfl 0 rfl ?_
    obtain ⟨v8, hv8, hf⟩ := zbind hf
    refine gf_RX5_93 C hv8 dX5_readNumber_49 ?_
    refine z_imul C dX5_readNumber_52 ?_
    refine z_aload_n C dX5_readNumber_53 rfl 0 rfl ?_
    obtain ⟨v9, hv9, hf⟩ := zbind hf
    refine gf_RX5_15 C hv9 dX5_readNumber_54 ?_
    refine z_iload_n C dX5_readNumber_57 rfl 2 rfl ?_
    obtain ⟨c10, hc10, hf⟩ := zbind hf
    obtain ⟨kc10, hc10⟩ := zck_ok hc10
    refine z_callVi (As := [.int u2]) (F0 := 3) (L0 := 63) C (mX2_byteAt l D Ca B En C.2.2.2.2.2.2.2.1 σ N v9 u2 _ hc10) hRm kc10 rfl kw_868 kw_2 kw_865 kw_866 kw_867 hyX2_byteAt (Nat.le_of_ble_eq_true rfl) (Nat.le_of_ble_eq_true rfl) rfl rfl (Nat.le_of_ble_eq_true rfl) dX5_readNumber_58 ?_
    refine z_iadd C dX5_readNumber_61 ?_
    refine z_bipush C (zi 48) dX5_readNumber_62 (by decide) ?_
    refine z_isub C dX5_readNumber_64 ?_
    obtain ⟨σ11, hσ11, hf⟩ := zbind hf
    refine gp_RX5_93 C hσ11 dX5_readNumber_65 ?_
    refine z_iinc (lv2 := [(2, .int (u2 + (zi 1))), (0, .ref x0), (1, .ref (ev.1 x1))]) C (u2 + (zi 1)) dX5_readNumber_68 2 rfl rfl (by decide) rfl ?_
    refine z_goto C 37 dX5_readNumber_71 (by decide) ?_
    cases hf
    refine z_sub [1, 2, 0] rfl ?_
    exact hk.1 _ rfl

theorem wsX5_readNumber_37 (C : zC p s m args meth c cX5_readNumber RX5 3 D Ca B En) (hRm : zRm R 3 63 cells slots) (ev : zEv) (hZ : ∀ U : State, En U → zEnv ev B U) (x0 : Nat) (x1 : Nat) (n : Nat) (z : (zS × Int32)) (x : zS) (hf : zloop (sX5_readNumber_37 x0 x1) n z = some x) (hk : (∀ o : zS, x = o → zW p l e R s m args below meth c cells slots Q D Ca B 3 o N 74 [(0, .ref x0), (1, .ref (ev.1 x1))] [])) : zW p l e R s m args below meth c cells slots Q D Ca B 3 z.1 N 37 [(0, .ref x0), (1, .ref (ev.1 x1)), (2, .int z.2)] [] := by
  refine zloop_W (P := fun z : (zS × Int32) => zW p l e R s m args below meth c cells slots Q D Ca B 3 z.1 N 37 [(0, .ref x0), (1, .ref (ev.1 x1)), (2, .int z.2)] []) (K := fun x : zS => (∀ o : zS, x = o → zW p l e R s m args below meth c cells slots Q D Ca B 3 o N 74 [(0, .ref x0), (1, .ref (ev.1 x1))] [])) ?_ n z x hf hk
  intro z y hy h1 h2
  refine wsX5_readNumber_37b C hRm ev hZ x0 x1 z.1 z.2 y hy ⟨fun z2 e => h1 z2 e, fun o e => (h2 _ e) o rfl⟩
set_option maxRecDepth 100000 in
set_option maxHeartbeats 4000000 in
theorem wjX5_readNumber_96 (C : zC p s m args meth c cX5_readNumber RX5 3 D Ca B En) (hRm : zRm R 3 63 cells slots) (ev : zEv) (hZ : ∀ U : State, En U → zEnv ev B U) (σ : zS) (x0 : Nat)  (τ : zS) (r : Int32) (hf : jX5_readNumber_96 σ x0  = some (τ, r)) (hq : ∀ (pc : Nat) (lv : List (Nat × Value)), (r = 0 ∨ r = 1) → decode cX5_readNumber pc = .ok (.ireturn, 1) → zW p l e R s m args below meth c cells slots Q D Ca B 3 τ N pc lv [.int r]) : zW p l e R s m args below meth c cells slots Q D Ca B 3 σ N 96 [(0, .ref x0)] [] := by
  unfold jX5_readNumber_96 at hf
  refine z_aload_n C dX5_readNumber_96 rfl 0 rfl ?_
  refine z_iconst C (zi 2) dX5_readNumber_97 (by decide) ?_
  obtain ⟨c16, hc16, hf⟩ := zbind hf
  obtain ⟨kc16, hc16⟩ := zck_ok hc16
  refine z_callVi (As := [.int ((zi 2))]) (F0 := 3) (L0 := 63) C (mX5_refuse l D Ca B En C.2.2.2.2.2.2.2.1 σ N x0 ((zi 2)) _ hc16) hRm kc16 rfl kw_898 kw_3 kw_895 kw_897 kp_25 hyX5_refuse (Nat.le_of_ble_eq_true rfl) (Nat.le_of_ble_eq_true rfl) rfl rfl (Nat.le_of_ble_eq_true rfl) dX5_readNumber_98 ?_
  obtain ⟨e9, b9⟩ := zrZ_ok hf
  cases e9
  exact hq _ _ b9 dX5_readNumber_101

set_option maxRecDepth 100000 in
set_option maxHeartbeats 4000000 in
theorem wfX5_readNumber (C : zC p s m args meth c cX5_readNumber RX5 3 D Ca B En) (hRm : zRm R 3 63 cells slots) (ev : zEv) (hZ : ∀ U : State, En U → zEnv ev B U) (σ : zS) (x0 : Nat) (x1 : Nat) (τ : zS) (r : Int32) (hf : fX5_readNumber σ x0 x1 = some (τ, r)) (hq : ∀ (pc : Nat) (lv : List (Nat × Value)), (r = 0 ∨ r = 1) → decode cX5_readNumber pc = .ok (.ireturn, 1) → zW p l e R s m args below meth c cells slots Q D Ca B 3 τ N pc lv [.int r]) : zW p l e R s m args below meth c cells slots Q D Ca B 3 σ N 0 [(0, .ref x0), (1, .ref (ev.1 x1))] [] := by
  unfold fX5_readNumber at hf
  refine z_aload_n C dX5_readNumber_0 rfl 0 rfl ?_
  obtain ⟨v1, hv1, hf⟩ := zbind hf
  refine gf_RX5_37 C hv1 dX5_readNumber_1 ?_
  refine z_iconst C (zi 2) dX5_readNumber_4 (by decide) ?_
  refine z_icmp_ne C 21 dX5_readNumber_5 (by decide) (fun q23 => ?_) (fun q23 => ?_)
  · rw [if_neg q23] at hf
    refine z_sub [0] rfl ?_
    exact wjX5_readNumber_21 C hRm ev hZ _ _  _ _ hf hq
  · rw [if_pos q23] at hf
    refine z_aload_n C dX5_readNumber_8 rfl 0 rfl ?_
    obtain ⟨v3, hv3, hf⟩ := zbind hf
    refine gf_RX5_31 C hv3 dX5_readNumber_9 ?_
    refine z_aload_n C dX5_readNumber_12 rfl 0 rfl ?_
    obtain ⟨v4, hv4, hf⟩ := zbind hf
    refine gf_RX5_114 C hv4 dX5_readNumber_13 ?_
    refine z_isub C dX5_readNumber_16 ?_
    refine z_iconst C (zi 3) dX5_readNumber_17 (by decide) ?_
    refine z_icmp_le C 27 dX5_readNumber_18 (by decide) (fun q22 => ?_) (fun q22 => ?_)
    · rw [if_pos q22] at hf
      refine z_aload_n C dX5_readNumber_27 rfl 0 rfl ?_
      refine z_iconst C (zi 0) dX5_readNumber_28 (by decide) ?_
      obtain ⟨σ5, hσ5, hf⟩ := zbind hf
      refine gp_RX5_93 C hσ5 dX5_readNumber_29 ?_
      refine z_aload_n C dX5_readNumber_32 rfl 0 rfl ?_
      obtain ⟨v6, hv6, hf⟩ := zbind hf
      refine gf_RX5_114 C hv6 dX5_readNumber_33 ?_
      refine z_istore_n (lv2 := [(2, .int v6), (0, .ref x0), (1, .ref (ev.1 x1))]) C dX5_readNumber_36 rfl (by decide) rfl ?_
      obtain ⟨o13, ho13, hf⟩ := zbind hf
      refine z_sub [1, 2, 0] rfl ?_
      refine wsX5_readNumber_37 C hRm ev hZ _ _ zfuel (σ5, v6) o13 ho13 ?_
      intro z9 e9
      subst e9
      refine z_aload_n C dX5_readNumber_74 rfl 0 rfl ?_
      obtain ⟨v14, hv14, hf⟩ := zbind hf
      refine gf_RX5_93 C hv14 dX5_readNumber_75 ?_
      refine z_aload_n C dX5_readNumber_78 rfl 1 rfl ?_
      obtain ⟨v15, hv15, hf⟩ := zbind hf
      refine z_gWf C ev hZ hv15 (zwF.getD 2 ("", "", "", [])) (by decide) rfl rfl rfl rfl kw_1374 dX5_readNumber_79 ?_
      refine z_icmp_lt C 96 dX5_readNumber_82 (by decide) (fun q21 => ?_) (fun q21 => ?_)
      · rw [if_pos q21] at hf
        refine z_sub [0] rfl ?_
        exact wjX5_readNumber_96 C hRm ev hZ _ _  _ _ hf hq
      · rw [if_neg q21] at hf
        refine z_aload_n C dX5_readNumber_85 rfl 0 rfl ?_
        obtain ⟨v17, hv17, hf⟩ := zbind hf
        refine gf_RX5_93 C hv17 dX5_readNumber_86 ?_
        refine z_aload_n C dX5_readNumber_89 rfl 1 rfl ?_
        obtain ⟨v18, hv18, hf⟩ := zbind hf
        refine z_gWf C ev hZ hv18 (zwF.getD 3 ("", "", "", [])) (by decide) rfl rfl rfl rfl kw_1375 dX5_readNumber_90 ?_
        refine z_icmp_le C 102 dX5_readNumber_93 (by decide) (fun q20 => ?_) (fun q20 => ?_)
        · rw [if_pos q20] at hf
          refine z_aload_n C dX5_readNumber_102 rfl 0 rfl ?_
          obtain ⟨c19, hc19, hf⟩ := zbind hf
          obtain ⟨kc19, hc19⟩ := zck_ok hc19
          refine z_callVv (As := []) (F0 := 3) (L0 := 63) C (mX5_advance l D Ca B En C.2.2.2.2.2.2.2.1 o13 N x0  _ hc19) hRm kc19 rfl kw_864 kw_3 kw_861 kw_863 kp_19 hyX5_advance (Nat.le_of_ble_eq_true rfl) (Nat.le_of_ble_eq_true rfl) rfl rfl (Nat.le_of_ble_eq_true rfl) dX5_readNumber_103 ?_
          refine z_iconst C (zi 1) dX5_readNumber_106 (by decide) ?_
          obtain ⟨e9, b9⟩ := zrZ_ok hf
          cases e9
          exact hq _ _ b9 dX5_readNumber_107
        · rw [if_neg q20] at hf
          refine z_sub [0] rfl ?_
          exact wjX5_readNumber_96 C hRm ev hZ _ _  _ _ hf hq
    · rw [if_neg q22] at hf
      refine z_sub [0] rfl ?_
      exact wjX5_readNumber_21 C hRm ev hZ _ _  _ _ hf hq

theorem mX5_readNumber (l : Launch) (D : va_G) (Ca : Nat → ClassId) (B : Nat) (En : State → Prop) (hE : zEk B En) (ev : zEv) (hZ : ∀ U : State, En U → zEnv ev B U) (σ : zS) (N : Nat) (x0 : Nat) (x1 : Nat) (X : zS × Int32) (hf : fX5_readNumber σ x0 x1 = some X) : zMi l D Ca B En yX5_readNumber cX5_readNumber 3 (Option.some Jvm.ClassFile.FieldType.boolean) 3 63 [.ref x0, .ref (ev.1 x1)] σ N X.1 X.2 :=
  zMet_i (own := RX5) hE (by decide +kernel) rfl (Nat.le_of_ble_eq_true rfl) (fun p e s m args below meth c C hr hRm => wfX5_readNumber C hRm ev hZ σ x0 x1 X.1 X.2 hf (fun pc lv hb hd => zfin_z C hb hr hd))
theorem dX5_readSource_0 : decode cX5_readSource 0 = .ok (.aload_n 0, 1) := by decide +kernel
theorem dX5_readSource_1 : decode cX5_readSource 1 = .ok (.getfield 19, 3) := by decide +kernel
theorem dX5_readSource_4 : decode cX5_readSource 4 = .ok (.getfield 44, 3) := by decide +kernel
theorem dX5_readSource_7 : decode cX5_readSource 7 = .ok (.istore_n 1, 1) := by decide +kernel
theorem dX5_readSource_8 : decode cX5_readSource 8 = .ok (.iload_n 1, 1) := by decide +kernel
theorem dX5_readSource_9 : decode cX5_readSource 9 = .ok (.iconst 4, 1) := by decide +kernel
theorem dX5_readSource_10 : decode cX5_readSource 10 = .ok (.if_icmp .lt 9, 3) := by decide +kernel
theorem dX5_readSource_13 : decode cX5_readSource 13 = .ok (.aload_n 0, 1) := by decide +kernel
theorem dX5_readSource_14 : decode cX5_readSource 14 = .ok (.iconst 4, 1) := by decide +kernel
theorem dX5_readSource_15 : decode cX5_readSource 15 = .ok (.invokevirtual 47, 3) := by decide +kernel
theorem dX5_readSource_18 : decode cX5_readSource 18 = .ok (.ireturn, 1) := by decide +kernel
theorem dX5_readSource_19 : decode cX5_readSource 19 = .ok (.aload_n 0, 1) := by decide +kernel
theorem dX5_readSource_20 : decode cX5_readSource 20 = .ok (.invokevirtual 34, 3) := by decide +kernel
theorem dX5_readSource_23 : decode cX5_readSource 23 = .ok (.aload_n 0, 1) := by decide +kernel
theorem dX5_readSource_24 : decode cX5_readSource 24 = .ok (.iload_n 1, 1) := by decide +kernel
theorem dX5_readSource_25 : decode cX5_readSource 25 = .ok (.invokevirtual 77, 3) := by decide +kernel
theorem dX5_readSource_28 : decode cX5_readSource 28 = .ok (.ifCond .eq 23, 3) := by decide +kernel
theorem dX5_readSource_31 : decode cX5_readSource 31 = .ok (.aload_n 0, 1) := by decide +kernel
theorem dX5_readSource_32 : decode cX5_readSource 32 = .ok (.getstatic 80, 3) := by decide +kernel
theorem dX5_readSource_35 : decode cX5_readSource 35 = .ok (.invokevirtual 83, 3) := by decide +kernel
theorem dX5_readSource_38 : decode cX5_readSource 38 = .ok (.ifCond .eq 13, 3) := by decide +kernel
theorem dX5_readSource_41 : decode cX5_readSource 41 = .ok (.aload_n 0, 1) := by decide +kernel
theorem dX5_readSource_42 : decode cX5_readSource 42 = .ok (.getstatic 80, 3) := by decide +kernel
theorem dX5_readSource_45 : decode cX5_readSource 45 = .ok (.invokevirtual 86, 3) := by decide +kernel
theorem dX5_readSource_48 : decode cX5_readSource 48 = .ok (.ifCond .ne 5, 3) := by decide +kernel
theorem dX5_readSource_51 : decode cX5_readSource 51 = .ok (.iconst 0, 1) := by decide +kernel
theorem dX5_readSource_52 : decode cX5_readSource 52 = .ok (.ireturn, 1) := by decide +kernel
theorem dX5_readSource_53 : decode cX5_readSource 53 = .ok (.aload_n 0, 1) := by decide +kernel
theorem dX5_readSource_54 : decode cX5_readSource 54 = .ok (.getfield 19, 3) := by decide +kernel
theorem dX5_readSource_57 : decode cX5_readSource 57 = .ok (.getfield 89, 3) := by decide +kernel
theorem dX5_readSource_60 : decode cX5_readSource 60 = .ok (.iload_n 1, 1) := by decide +kernel
theorem dX5_readSource_61 : decode cX5_readSource 61 = .ok (.aload_n 0, 1) := by decide +kernel
theorem dX5_readSource_62 : decode cX5_readSource 62 = .ok (.getfield 93, 3) := by decide +kernel
theorem dX5_readSource_65 : decode cX5_readSource 65 = .ok (.iastore, 1) := by decide +kernel
theorem dX5_readSource_66 : decode cX5_readSource 66 = .ok (.aload_n 0, 1) := by decide +kernel
theorem dX5_readSource_67 : decode cX5_readSource 67 = .ok (.getstatic 96, 3) := by decide +kernel
theorem dX5_readSource_70 : decode cX5_readSource 70 = .ok (.invokevirtual 83, 3) := by decide +kernel
theorem dX5_readSource_73 : decode cX5_readSource 73 = .ok (.ifCond .eq 13, 3) := by decide +kernel
theorem dX5_readSource_76 : decode cX5_readSource 76 = .ok (.aload_n 0, 1) := by decide +kernel
theorem dX5_readSource_77 : decode cX5_readSource 77 = .ok (.getstatic 96, 3) := by decide +kernel
theorem dX5_readSource_80 : decode cX5_readSource 80 = .ok (.invokevirtual 86, 3) := by decide +kernel
theorem dX5_readSource_83 : decode cX5_readSource 83 = .ok (.ifCond .ne 5, 3) := by decide +kernel
theorem dX5_readSource_86 : decode cX5_readSource 86 = .ok (.iconst 0, 1) := by decide +kernel
theorem dX5_readSource_87 : decode cX5_readSource 87 = .ok (.ireturn, 1) := by decide +kernel
theorem dX5_readSource_88 : decode cX5_readSource 88 = .ok (.aload_n 0, 1) := by decide +kernel
theorem dX5_readSource_89 : decode cX5_readSource 89 = .ok (.getfield 19, 3) := by decide +kernel
theorem dX5_readSource_92 : decode cX5_readSource 92 = .ok (.getfield 99, 3) := by decide +kernel
theorem dX5_readSource_95 : decode cX5_readSource 95 = .ok (.iload_n 1, 1) := by decide +kernel
theorem dX5_readSource_96 : decode cX5_readSource 96 = .ok (.aload_n 0, 1) := by decide +kernel
theorem dX5_readSource_97 : decode cX5_readSource 97 = .ok (.getfield 93, 3) := by decide +kernel
theorem dX5_readSource_100 : decode cX5_readSource 100 = .ok (.iastore, 1) := by decide +kernel
theorem dX5_readSource_101 : decode cX5_readSource 101 = .ok (.aload_n 0, 1) := by decide +kernel
theorem dX5_readSource_102 : decode cX5_readSource 102 = .ok (.invokevirtual 54, 3) := by decide +kernel
theorem dX5_readSource_105 : decode cX5_readSource 105 = .ok (.getstatic 102, 3) := by decide +kernel
theorem dX5_readSource_108 : decode cX5_readSource 108 = .ok (.if_acmp .ne 32, 3) := by decide +kernel
theorem dX5_readSource_111 : decode cX5_readSource 111 = .ok (.aload_n 0, 1) := by decide +kernel
theorem dX5_readSource_112 : decode cX5_readSource 112 = .ok (.invokevirtual 34, 3) := by decide +kernel
theorem dX5_readSource_115 : decode cX5_readSource 115 = .ok (.aload_n 0, 1) := by decide +kernel
theorem dX5_readSource_116 : decode cX5_readSource 116 = .ok (.getstatic 102, 3) := by decide +kernel
theorem dX5_readSource_119 : decode cX5_readSource 119 = .ok (.invokevirtual 86, 3) := by decide +kernel
theorem dX5_readSource_122 : decode cX5_readSource 122 = .ok (.ifCond .ne 5, 3) := by decide +kernel
theorem dX5_readSource_125 : decode cX5_readSource 125 = .ok (.iconst 0, 1) := by decide +kernel
theorem dX5_readSource_126 : decode cX5_readSource 126 = .ok (.ireturn, 1) := by decide +kernel
theorem dX5_readSource_127 : decode cX5_readSource 127 = .ok (.aload_n 0, 1) := by decide +kernel
theorem dX5_readSource_128 : decode cX5_readSource 128 = .ok (.getfield 19, 3) := by decide +kernel
theorem dX5_readSource_131 : decode cX5_readSource 131 = .ok (.getfield 105, 3) := by decide +kernel
theorem dX5_readSource_134 : decode cX5_readSource 134 = .ok (.iload_n 1, 1) := by decide +kernel
theorem dX5_readSource_135 : decode cX5_readSource 135 = .ok (.aload_n 0, 1) := by decide +kernel
theorem dX5_readSource_136 : decode cX5_readSource 136 = .ok (.getfield 93, 3) := by decide +kernel
theorem dX5_readSource_139 : decode cX5_readSource 139 = .ok (.iastore, 1) := by decide +kernel
theorem dX5_readSource_140 : decode cX5_readSource 140 = .ok (.aload_n 0, 1) := by decide +kernel
theorem dX5_readSource_141 : decode cX5_readSource 141 = .ok (.getfield 19, 3) := by decide +kernel
theorem dX5_readSource_144 : decode cX5_readSource 144 = .ok (.dup, 1) := by decide +kernel
theorem dX5_readSource_145 : decode cX5_readSource 145 = .ok (.getfield 44, 3) := by decide +kernel
theorem dX5_readSource_148 : decode cX5_readSource 148 = .ok (.iconst 1, 1) := by decide +kernel
theorem dX5_readSource_149 : decode cX5_readSource 149 = .ok (.iadd, 1) := by decide +kernel
theorem dX5_readSource_150 : decode cX5_readSource 150 = .ok (.putfield 44, 3) := by decide +kernel
theorem dX5_readSource_153 : decode cX5_readSource 153 = .ok (.iconst 1, 1) := by decide +kernel
theorem dX5_readSource_154 : decode cX5_readSource 154 = .ok (.ireturn, 1) := by decide +kernel
theorem hyX5_readSource : yX5_readSource.cls ≠ "java/lang/invoke/MethodHandle" ∧ yX5_readSource.cls ≠ "java/lang/invoke/VarHandle" ∧ (parseMethodDescriptor yX5_readSource.desc).map (fun d => d.parameters.length) = some 0 := ⟨by decide +kernel, by decide +kernel, by decide +kernel⟩
set_option maxRecDepth 100000 in
set_option maxHeartbeats 4000000 in
theorem wjX5_readSource_140 (C : zC p s m args meth c cX5_readSource RX5 2 D Ca B En) (hRm : zRm R 7 152 cells slots) (ev : zEv) (hZ : ∀ U : State, En U → zEnv ev B U) (σ : zS) (x0 : Nat)  (τ : zS) (r : Int32) (hf : jX5_readSource_140 σ x0  = some (τ, r)) (hq : ∀ (pc : Nat) (lv : List (Nat × Value)), (r = 0 ∨ r = 1) → decode cX5_readSource pc = .ok (.ireturn, 1) → zW p l e R s m args below meth c cells slots Q D Ca B 2 τ N pc lv [.int r]) : zW p l e R s m args below meth c cells slots Q D Ca B 2 σ N 140 [(0, .ref x0)] [] := by
  unfold jX5_readSource_140 at hf
  refine z_aload_n C dX5_readSource_140 rfl 0 rfl ?_
  obtain ⟨v20, hv20, hf⟩ := zbind hf
  refine gf_RX5_19 C hv20 dX5_readSource_141 ?_
  refine z_dup C dX5_readSource_144 rfl ?_
  obtain ⟨v21, hv21, hf⟩ := zbind hf
  refine gf_RX5_44 C hv21 dX5_readSource_145 ?_
  refine z_iconst C (zi 1) dX5_readSource_148 (by decide) ?_
  refine z_iadd C dX5_readSource_149 ?_
  obtain ⟨σ22, hσ22, hf⟩ := zbind hf
  refine gp_RX5_44 C hσ22 dX5_readSource_150 ?_
  refine z_iconst C (zi 1) dX5_readSource_153 (by decide) ?_
  obtain ⟨e9, b9⟩ := zrZ_ok hf
  cases e9
  exact hq _ _ b9 dX5_readSource_154

set_option maxRecDepth 100000 in
set_option maxHeartbeats 4000000 in
theorem wfX5_readSource (C : zC p s m args meth c cX5_readSource RX5 2 D Ca B En) (hRm : zRm R 7 152 cells slots) (ev : zEv) (hZ : ∀ U : State, En U → zEnv ev B U) (σ : zS) (x0 : Nat) (τ : zS) (r : Int32) (hf : fX5_readSource σ x0 = some (τ, r)) (hq : ∀ (pc : Nat) (lv : List (Nat × Value)), (r = 0 ∨ r = 1) → decode cX5_readSource pc = .ok (.ireturn, 1) → zW p l e R s m args below meth c cells slots Q D Ca B 2 τ N pc lv [.int r]) : zW p l e R s m args below meth c cells slots Q D Ca B 2 σ N 0 [(0, .ref x0)] [] := by
  unfold fX5_readSource at hf
  refine z_aload_n C dX5_readSource_0 rfl 0 rfl ?_
  obtain ⟨v1, hv1, hf⟩ := zbind hf
  refine gf_RX5_19 C hv1 dX5_readSource_1 ?_
  obtain ⟨v2, hv2, hf⟩ := zbind hf
  refine gf_RX5_44 C hv2 dX5_readSource_4 ?_
  refine z_istore_n (lv2 := [(1, .int v2), (0, .ref x0)]) C dX5_readSource_7 rfl (by decide) rfl ?_
  refine z_iload_n C dX5_readSource_8 rfl 0 rfl ?_
  refine z_iconst C (zi 4) dX5_readSource_9 (by decide) ?_
  refine z_icmp_lt C 19 dX5_readSource_10 (by decide) (fun q38 => ?_) (fun q38 => ?_)
  · rw [if_pos q38] at hf
    refine z_aload_n C dX5_readSource_19 rfl 1 rfl ?_
    obtain ⟨c3, hc3, hf⟩ := zbind hf
    obtain ⟨kc3, hc3⟩ := zck_ok hc3
    refine z_callVv (As := []) (F0 := 7) (L0 := 152) C (mX5_advance l D Ca B En C.2.2.2.2.2.2.2.1 σ N x0  _ hc3) hRm kc3 rfl kw_864 kw_3 kw_861 kw_863 kp_19 hyX5_advance (Nat.le_of_ble_eq_true rfl) (Nat.le_of_ble_eq_true rfl) rfl rfl (Nat.le_of_ble_eq_true rfl) dX5_readSource_20 ?_
    refine z_aload_n C dX5_readSource_23 rfl 1 rfl ?_
    refine z_iload_n C dX5_readSource_24 rfl 0 rfl ?_
    obtain ⟨c4, hc4, hf⟩ := zbind hf
    obtain ⟨kc4, hc4⟩ := zck_ok hc4
    refine z_callVi (As := [.int v2]) (F0 := 7) (L0 := 152) C (mX5_readName l D Ca B En C.2.2.2.2.2.2.2.1 ev hZ c3 N x0 v2 _ hc4) hRm kc4 rfl kw_902 kw_3 kw_899 kw_901 kp_26 hyX5_readName (Nat.le_of_ble_eq_true rfl) (Nat.le_of_ble_eq_true rfl) rfl rfl (Nat.le_of_ble_eq_true rfl) dX5_readSource_25 ?_
    refine z_if_eq C 51 dX5_readSource_28 (by decide) (fun q36 => ?_) (fun q36 => ?_)
    · rw [if_pos q36] at hf
      refine z_iconst C (zi 0) dX5_readSource_51 (by decide) ?_
      obtain ⟨e9, b9⟩ := zrZ_ok hf
      cases e9
      exact hq _ _ b9 dX5_readSource_52
    · rw [if_neg q36] at hf
      refine z_aload_n C dX5_readSource_31 rfl 1 rfl ?_
      refine z_gsW C ev hZ 1 (by decide) rfl kw_916 dX5_readSource_32 ?_
      obtain ⟨c5, hc5, hf⟩ := zbind hf
      obtain ⟨kc5, hc5⟩ := zck_ok hc5
      refine z_callVi (As := [.ref (ev.1 1)]) (F0 := 7) (L0 := 152) C (mX5_readWord l D Ca B En C.2.2.2.2.2.2.2.1 ev hZ c4.1 N x0 1 _ hc5) hRm kc5 rfl kw_921 kw_3 kw_918 kw_920 kp_28 hyX5_readWord (Nat.le_of_ble_eq_true rfl) (Nat.le_of_ble_eq_true rfl) rfl rfl (Nat.le_of_ble_eq_true rfl) dX5_readSource_35 ?_
      refine z_if_eq C 51 dX5_readSource_38 (by decide) (fun q35 => ?_) (fun q35 => ?_)
      · rw [if_pos q35] at hf
        refine z_iconst C (zi 0) dX5_readSource_51 (by decide) ?_
        obtain ⟨e9, b9⟩ := zrZ_ok hf
        cases e9
        exact hq _ _ b9 dX5_readSource_52
      · rw [if_neg q35] at hf
        refine z_aload_n C dX5_readSource_41 rfl 1 rfl ?_
        refine z_gsW C ev hZ 1 (by decide) rfl kw_916 dX5_readSource_42 ?_
        obtain ⟨c6, hc6, hf⟩ := zbind hf
        obtain ⟨kc6, hc6⟩ := zck_ok hc6
        refine z_callVi (As := [.ref (ev.1 1)]) (F0 := 7) (L0 := 152) C (mX5_readNumber l D Ca B En C.2.2.2.2.2.2.2.1 ev hZ c5.1 N x0 1 _ hc6) hRm kc6 rfl kw_925 kw_3 kw_922 kw_924 kp_29 hyX5_readNumber (Nat.le_of_ble_eq_true rfl) (Nat.le_of_ble_eq_true rfl) rfl rfl (Nat.le_of_ble_eq_true rfl) dX5_readSource_45 ?_
        refine z_if_ne C 53 dX5_readSource_48 (by decide) (fun q34 => ?_) (fun q34 => ?_)
        · rw [if_neg q34] at hf
          refine z_aload_n C dX5_readSource_53 rfl 1 rfl ?_
          obtain ⟨v7, hv7, hf⟩ := zbind hf
          refine gf_RX5_19 C hv7 dX5_readSource_54 ?_
          obtain ⟨v8, hv8, hf⟩ := zbind hf
          refine gf_RX5_89 C hv8 dX5_readSource_57 ?_
          refine z_iload_n C dX5_readSource_60 rfl 0 rfl ?_
          refine z_aload_n C dX5_readSource_61 rfl 1 rfl ?_
          obtain ⟨v9, hv9, hf⟩ := zbind hf
          refine gf_RX5_93 C hv9 dX5_readSource_62 ?_
          obtain ⟨σ10, hσ10, hf⟩ := zbind hf
          refine z_sI C hσ10 dX5_readSource_65 ?_
          refine z_aload_n C dX5_readSource_66 rfl 1 rfl ?_
          refine z_gsW C ev hZ 2 (by decide) rfl kw_926 dX5_readSource_67 ?_
          obtain ⟨c11, hc11, hf⟩ := zbind hf
          obtain ⟨kc11, hc11⟩ := zck_ok hc11
          refine z_callVi (As := [.ref (ev.1 2)]) (F0 := 7) (L0 := 152) C (mX5_readWord l D Ca B En C.2.2.2.2.2.2.2.1 ev hZ σ10 N x0 2 _ hc11) hRm kc11 rfl kw_921 kw_3 kw_918 kw_920 kp_28 hyX5_readWord (Nat.le_of_ble_eq_true rfl) (Nat.le_of_ble_eq_true rfl) rfl rfl (Nat.le_of_ble_eq_true rfl) dX5_readSource_70 ?_
          refine z_if_eq C 86 dX5_readSource_73 (by decide) (fun q33 => ?_) (fun q33 => ?_)
          · rw [if_pos q33] at hf
            refine z_iconst C (zi 0) dX5_readSource_86 (by decide) ?_
            obtain ⟨e9, b9⟩ := zrZ_ok hf
            cases e9
            exact hq _ _ b9 dX5_readSource_87
          · rw [if_neg q33] at hf
            refine z_aload_n C dX5_readSource_76 rfl 1 rfl ?_
            refine z_gsW C ev hZ 2 (by decide) rfl kw_926 dX5_readSource_77 ?_
            obtain ⟨c12, hc12, hf⟩ := zbind hf
            obtain ⟨kc12, hc12⟩ := zck_ok hc12
            refine z_callVi (As := [.ref (ev.1 2)]) (F0 := 7) (L0 := 152) C (mX5_readNumber l D Ca B En C.2.2.2.2.2.2.2.1 ev hZ c11.1 N x0 2 _ hc12) hRm kc12 rfl kw_925 kw_3 kw_922 kw_924 kp_29 hyX5_readNumber (Nat.le_of_ble_eq_true rfl) (Nat.le_of_ble_eq_true rfl) rfl rfl (Nat.le_of_ble_eq_true rfl) dX5_readSource_80 ?_
            refine z_if_ne C 88 dX5_readSource_83 (by decide) (fun q32 => ?_) (fun q32 => ?_)
            · rw [if_neg q32] at hf
              refine z_aload_n C dX5_readSource_88 rfl 1 rfl ?_
              obtain ⟨v13, hv13, hf⟩ := zbind hf
              refine gf_RX5_19 C hv13 dX5_readSource_89 ?_
              obtain ⟨v14, hv14, hf⟩ := zbind hf
              refine gf_RX5_99 C hv14 dX5_readSource_92 ?_
              refine z_iload_n C dX5_readSource_95 rfl 0 rfl ?_
              refine z_aload_n C dX5_readSource_96 rfl 1 rfl ?_
              obtain ⟨v15, hv15, hf⟩ := zbind hf
              refine gf_RX5_93 C hv15 dX5_readSource_97 ?_
              obtain ⟨σ16, hσ16, hf⟩ := zbind hf
              refine z_sI C hσ16 dX5_readSource_100 ?_
              refine z_aload_n C dX5_readSource_101 rfl 1 rfl ?_
              obtain ⟨c17, hc17, hf⟩ := zbind hf
              obtain ⟨kc17, hc17⟩ := zck_ok hc17
              refine z_callVq (As := []) (F0 := 7) (L0 := 152) C (mX5_quotedWord l D Ca B En C.2.2.2.2.2.2.2.1 ev hZ σ16 N x0  _ hc17) hRm kc17 rfl kw_880 kw_3 kw_877 kw_879 kp_22 hyX5_quotedWord (Nat.le_of_ble_eq_true rfl) (Nat.le_of_ble_eq_true rfl) rfl rfl (Nat.le_of_ble_eq_true rfl) dX5_readSource_102 ?_
              obtain ⟨w19, ew19⟩ : ∃ z, z = c17.2 := ⟨_, rfl⟩
              rw [← ew19] at hf ⊢
              cases w19 with
              | none =>
                dsimp only at hf
                refine z_gsW C ev hZ 3 (by decide) rfl kw_928 dX5_readSource_105 ?_
                refine z_acmpW_neN C ev hZ 140 dX5_readSource_108 (by decide) ?_
                refine z_sub [1] rfl ?_
                exact wjX5_readSource_140 C hRm ev hZ _ _  _ _ hf hq
              | some a18 =>
                dsimp only at hf
                refine z_gsW C ev hZ 3 (by decide) rfl kw_928 dX5_readSource_105 ?_
                obtain ⟨v23, hv23, hf⟩ := zbind hf
                refine z_acmpW_ne C ev hZ 140 hv23 dX5_readSource_108 (by decide) (fun q31 => ?_) (fun q31 => ?_)
                · rw [if_neg q31] at hf
                  refine z_sub [1] rfl ?_
                  exact wjX5_readSource_140 C hRm ev hZ _ _  _ _ hf hq
                · rw [if_pos q31] at hf
                  refine z_aload_n C dX5_readSource_111 rfl 1 rfl ?_
                  obtain ⟨c24, hc24, hf⟩ := zbind hf
                  obtain ⟨kc24, hc24⟩ := zck_ok hc24
                  refine z_callVv (As := []) (F0 := 7) (L0 := 152) C (mX5_advance l D Ca B En C.2.2.2.2.2.2.2.1 c17.1 N x0  _ hc24) hRm kc24 rfl kw_864 kw_3 kw_861 kw_863 kp_19 hyX5_advance (Nat.le_of_ble_eq_true rfl) (Nat.le_of_ble_eq_true rfl) rfl rfl (Nat.le_of_ble_eq_true rfl) dX5_readSource_112 ?_
                  refine z_aload_n C dX5_readSource_115 rfl 1 rfl ?_
                  refine z_gsW C ev hZ 3 (by decide) rfl kw_928 dX5_readSource_116 ?_
                  obtain ⟨c25, hc25, hf⟩ := zbind hf
                  obtain ⟨kc25, hc25⟩ := zck_ok hc25
                  refine z_callVi (As := [.ref (ev.1 3)]) (F0 := 7) (L0 := 152) C (mX5_readNumber l D Ca B En C.2.2.2.2.2.2.2.1 ev hZ c24 N x0 3 _ hc25) hRm kc25 rfl kw_925 kw_3 kw_922 kw_924 kp_29 hyX5_readNumber (Nat.le_of_ble_eq_true rfl) (Nat.le_of_ble_eq_true rfl) rfl rfl (Nat.le_of_ble_eq_true rfl) dX5_readSource_119 ?_
                  refine z_if_ne C 127 dX5_readSource_122 (by decide) (fun q30 => ?_) (fun q30 => ?_)
                  · rw [if_neg q30] at hf
                    refine z_aload_n C dX5_readSource_127 rfl 1 rfl ?_
                    obtain ⟨v26, hv26, hf⟩ := zbind hf
                    refine gf_RX5_19 C hv26 dX5_readSource_128 ?_
                    obtain ⟨v27, hv27, hf⟩ := zbind hf
                    refine gf_RX5_105 C hv27 dX5_readSource_131 ?_
                    refine z_iload_n C dX5_readSource_134 rfl 0 rfl ?_
                    refine z_aload_n C dX5_readSource_135 rfl 1 rfl ?_
                    obtain ⟨v28, hv28, hf⟩ := zbind hf
                    refine gf_RX5_93 C hv28 dX5_readSource_136 ?_
                    obtain ⟨σ29, hσ29, hf⟩ := zbind hf
                    refine z_sI C hσ29 dX5_readSource_139 ?_
                    refine z_sub [1] rfl ?_
                    exact wjX5_readSource_140 C hRm ev hZ _ _  _ _ hf hq
                  · rw [if_pos q30] at hf
                    refine z_iconst C (zi 0) dX5_readSource_125 (by decide) ?_
                    obtain ⟨e9, b9⟩ := zrZ_ok hf
                    cases e9
                    exact hq _ _ b9 dX5_readSource_126
            · rw [if_pos q32] at hf
              refine z_iconst C (zi 0) dX5_readSource_86 (by decide) ?_
              obtain ⟨e9, b9⟩ := zrZ_ok hf
              cases e9
              exact hq _ _ b9 dX5_readSource_87
        · rw [if_pos q34] at hf
          refine z_iconst C (zi 0) dX5_readSource_51 (by decide) ?_
          obtain ⟨e9, b9⟩ := zrZ_ok hf
          cases e9
          exact hq _ _ b9 dX5_readSource_52
  · rw [if_neg q38] at hf
    refine z_aload_n C dX5_readSource_13 rfl 1 rfl ?_
    refine z_iconst C (zi 4) dX5_readSource_14 (by decide) ?_
    obtain ⟨c37, hc37, hf⟩ := zbind hf
    obtain ⟨kc37, hc37⟩ := zck_ok hc37
    refine z_callVi (As := [.int ((zi 4))]) (F0 := 7) (L0 := 152) C (mX5_refuse l D Ca B En C.2.2.2.2.2.2.2.1 σ N x0 ((zi 4)) _ hc37) hRm kc37 rfl kw_898 kw_3 kw_895 kw_897 kp_25 hyX5_refuse (Nat.le_of_ble_eq_true rfl) (Nat.le_of_ble_eq_true rfl) rfl rfl (Nat.le_of_ble_eq_true rfl) dX5_readSource_15 ?_
    obtain ⟨e9, b9⟩ := zrZ_ok hf
    cases e9
    exact hq _ _ b9 dX5_readSource_18

theorem mX5_readSource (l : Launch) (D : va_G) (Ca : Nat → ClassId) (B : Nat) (En : State → Prop) (hE : zEk B En) (ev : zEv) (hZ : ∀ U : State, En U → zEnv ev B U) (σ : zS) (N : Nat) (x0 : Nat) (X : zS × Int32) (hf : fX5_readSource σ x0 = some X) : zMi l D Ca B En yX5_readSource cX5_readSource 2 (Option.some Jvm.ClassFile.FieldType.boolean) 7 152 [.ref x0] σ N X.1 X.2 :=
  zMet_i (own := RX5) hE (by decide +kernel) rfl (Nat.le_of_ble_eq_true rfl) (fun p e s m args below meth c C hr hRm => wfX5_readSource C hRm ev hZ σ x0 X.1 X.2 hf (fun pc lv hb hd => zfin_z C hb hr hd))
theorem dX5_readSemicolon_0 : decode cX5_readSemicolon 0 = .ok (.aload_n 0, 1) := by decide +kernel
theorem dX5_readSemicolon_1 : decode cX5_readSemicolon 1 = .ok (.getfield 37, 3) := by decide +kernel
theorem dX5_readSemicolon_4 : decode cX5_readSemicolon 4 = .ok (.iconst 3, 1) := by decide +kernel
theorem dX5_readSemicolon_5 : decode cX5_readSemicolon 5 = .ok (.if_icmp .eq 9, 3) := by decide +kernel
theorem dX5_readSemicolon_8 : decode cX5_readSemicolon 8 = .ok (.aload_n 0, 1) := by decide +kernel
theorem dX5_readSemicolon_9 : decode cX5_readSemicolon 9 = .ok (.iconst 1, 1) := by decide +kernel
theorem dX5_readSemicolon_10 : decode cX5_readSemicolon 10 = .ok (.invokevirtual 47, 3) := by decide +kernel
theorem dX5_readSemicolon_13 : decode cX5_readSemicolon 13 = .ok (.ireturn, 1) := by decide +kernel
theorem dX5_readSemicolon_14 : decode cX5_readSemicolon 14 = .ok (.aload_n 0, 1) := by decide +kernel
theorem dX5_readSemicolon_15 : decode cX5_readSemicolon 15 = .ok (.invokevirtual 34, 3) := by decide +kernel
theorem dX5_readSemicolon_18 : decode cX5_readSemicolon 18 = .ok (.iconst 1, 1) := by decide +kernel
theorem dX5_readSemicolon_19 : decode cX5_readSemicolon 19 = .ok (.ireturn, 1) := by decide +kernel
theorem hyX5_readSemicolon : yX5_readSemicolon.cls ≠ "java/lang/invoke/MethodHandle" ∧ yX5_readSemicolon.cls ≠ "java/lang/invoke/VarHandle" ∧ (parseMethodDescriptor yX5_readSemicolon.desc).map (fun d => d.parameters.length) = some 0 := ⟨by decide +kernel, by decide +kernel, by decide +kernel⟩
set_option maxRecDepth 100000 in
set_option maxHeartbeats 4000000 in
theorem wfX5_readSemicolon (C : zC p s m args meth c cX5_readSemicolon RX5 1 D Ca B En) (hRm : zRm R 3 63 cells slots) (σ : zS) (x0 : Nat) (τ : zS) (r : Int32) (hf : fX5_readSemicolon σ x0 = some (τ, r)) (hq : ∀ (pc : Nat) (lv : List (Nat × Value)), (r = 0 ∨ r = 1) → decode cX5_readSemicolon pc = .ok (.ireturn, 1) → zW p l e R s m args below meth c cells slots Q D Ca B 1 τ N pc lv [.int r]) : zW p l e R s m args below meth c cells slots Q D Ca B 1 σ N 0 [(0, .ref x0)] [] := by
  unfold fX5_readSemicolon at hf
  refine z_aload_n C dX5_readSemicolon_0 rfl 0 rfl ?_
  obtain ⟨v1, hv1, hf⟩ := zbind hf
  refine gf_RX5_37 C hv1 dX5_readSemicolon_1 ?_
  refine z_iconst C (zi 3) dX5_readSemicolon_4 (by decide) ?_
  refine z_icmp_eq C 14 dX5_readSemicolon_5 (by decide) (fun q4 => ?_) (fun q4 => ?_)
  · rw [if_pos q4] at hf
    refine z_aload_n C dX5_readSemicolon_14 rfl 0 rfl ?_
    obtain ⟨c2, hc2, hf⟩ := zbind hf
    obtain ⟨kc2, hc2⟩ := zck_ok hc2
    refine z_callVv (As := []) (F0 := 3) (L0 := 63) C (mX5_advance l D Ca B En C.2.2.2.2.2.2.2.1 σ N x0  _ hc2) hRm kc2 rfl kw_864 kw_3 kw_861 kw_863 kp_19 hyX5_advance (Nat.le_of_ble_eq_true rfl) (Nat.le_of_ble_eq_true rfl) rfl rfl (Nat.le_of_ble_eq_true rfl) dX5_readSemicolon_15 ?_
    refine z_iconst C (zi 1) dX5_readSemicolon_18 (by decide) ?_
    obtain ⟨e9, b9⟩ := zrZ_ok hf
    cases e9
    exact hq _ _ b9 dX5_readSemicolon_19
  · rw [if_neg q4] at hf
    refine z_aload_n C dX5_readSemicolon_8 rfl 0 rfl ?_
    refine z_iconst C (zi 1) dX5_readSemicolon_9 (by decide) ?_
    obtain ⟨c3, hc3, hf⟩ := zbind hf
    obtain ⟨kc3, hc3⟩ := zck_ok hc3
    refine z_callVi (As := [.int ((zi 1))]) (F0 := 3) (L0 := 63) C (mX5_refuse l D Ca B En C.2.2.2.2.2.2.2.1 σ N x0 ((zi 1)) _ hc3) hRm kc3 rfl kw_898 kw_3 kw_895 kw_897 kp_25 hyX5_refuse (Nat.le_of_ble_eq_true rfl) (Nat.le_of_ble_eq_true rfl) rfl rfl (Nat.le_of_ble_eq_true rfl) dX5_readSemicolon_10 ?_
    obtain ⟨e9, b9⟩ := zrZ_ok hf
    cases e9
    exact hq _ _ b9 dX5_readSemicolon_13

theorem mX5_readSemicolon (l : Launch) (D : va_G) (Ca : Nat → ClassId) (B : Nat) (En : State → Prop) (hE : zEk B En) (σ : zS) (N : Nat) (x0 : Nat) (X : zS × Int32) (hf : fX5_readSemicolon σ x0 = some X) : zMi l D Ca B En yX5_readSemicolon cX5_readSemicolon 1 (Option.some Jvm.ClassFile.FieldType.boolean) 3 63 [.ref x0] σ N X.1 X.2 :=
  zMet_i (own := RX5) hE (by decide +kernel) rfl (Nat.le_of_ble_eq_true rfl) (fun p e s m args below meth c C hr hRm => wfX5_readSemicolon C hRm σ x0 X.1 X.2 hf (fun pc lv hb hd => zfin_z C hb hr hd))
end ZM
