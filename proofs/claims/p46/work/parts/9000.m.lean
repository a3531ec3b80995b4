/-! Methods: X3_clear, X3_clearAll, X0_exists, X0_isOvertaking, X9_fillRow, X0_start, X9_copyRow, X3_copyFrom, X0_copyFrom, J6_bitCount_0f7a4, X0_arrivedFrom, X0_hasPut, X0_isOnlyBehind, X3_isList, X3_isRecord, X3_add, X0_keep, X9_channel, X3_moveAll, X3_sizeOf, X3_firstOf, X3_takeFirst, X7_keyOf, X9_ownerOf, X0_spread, X7_chosen -/
section ZM
variable {p : Program} {l : Launch} {e : Env} {R : Room} {s : State} {m : MethodId} {args : Array Value} {below : List Frame} {meth : Method} {c : Code} {cells slots : Nat} {Q : State → Prop} {D : va_G} {Ca : Nat → ClassId} {B : Nat} {En : State → Prop} {N : Nat}
theorem dX3_clear_0 : decode cX3_clear 0 = .ok (.iload_n 1, 1) := by decide +kernel
theorem dX3_clear_1 : decode cX3_clear 1 = .ok (.ifCond .lt 30, 3) := by decide +kernel
theorem dX3_clear_4 : decode cX3_clear 4 = .ok (.iload_n 1, 1) := by decide +kernel
theorem dX3_clear_5 : decode cX3_clear 5 = .ok (.bipush 30, 2) := by decide +kernel
theorem dX3_clear_7 : decode cX3_clear 7 = .ok (.if_icmp .ge 24, 3) := by decide +kernel
theorem dX3_clear_10 : decode cX3_clear 10 = .ok (.aload_n 0, 1) := by decide +kernel
theorem dX3_clear_11 : decode cX3_clear 11 = .ok (.getfield 15, 3) := by decide +kernel
theorem dX3_clear_14 : decode cX3_clear 14 = .ok (.iload_n 1, 1) := by decide +kernel
theorem dX3_clear_15 : decode cX3_clear 15 = .ok (.iconst (-1), 1) := by decide +kernel
theorem dX3_clear_16 : decode cX3_clear 16 = .ok (.iastore, 1) := by decide +kernel
theorem dX3_clear_17 : decode cX3_clear 17 = .ok (.aload_n 0, 1) := by decide +kernel
theorem dX3_clear_18 : decode cX3_clear 18 = .ok (.getfield 18, 3) := by decide +kernel
theorem dX3_clear_21 : decode cX3_clear 21 = .ok (.iload_n 1, 1) := by decide +kernel
theorem dX3_clear_22 : decode cX3_clear 22 = .ok (.iconst (-1), 1) := by decide +kernel
theorem dX3_clear_23 : decode cX3_clear 23 = .ok (.iastore, 1) := by decide +kernel
theorem dX3_clear_24 : decode cX3_clear 24 = .ok (.aload_n 0, 1) := by decide +kernel
theorem dX3_clear_25 : decode cX3_clear 25 = .ok (.getfield 21, 3) := by decide +kernel
theorem dX3_clear_28 : decode cX3_clear 28 = .ok (.iload_n 1, 1) := by decide +kernel
theorem dX3_clear_29 : decode cX3_clear 29 = .ok (.iconst 0, 1) := by decide +kernel
theorem dX3_clear_30 : decode cX3_clear 30 = .ok (.iastore, 1) := by decide +kernel
theorem dX3_clear_31 : decode cX3_clear 31 = .ok (.return_, 1) := by decide +kernel
theorem hyX3_clear : yX3_clear.cls ≠ "java/lang/invoke/MethodHandle" ∧ yX3_clear.cls ≠ "java/lang/invoke/VarHandle" ∧ (parseMethodDescriptor yX3_clear.desc).map (fun d => d.parameters.length) = some 1 := ⟨by decide +kernel, by decide +kernel, by decide +kernel⟩
set_option maxRecDepth 100000 in
set_option maxHeartbeats 4000000 in
theorem wfX3_clear (C : zC p s m args meth c cX3_clear RX3 2 D Ca B En) (hRm : zRm R 0 0 cells slots) (σ : zS) (x0 : Nat) (x1 : Int32) (τ : zS) (hf : fX3_clear σ x0 x1 = some τ) (hq : ∀ (pc : Nat) (lv : List (Nat × Value)), decode cX3_clear pc = .ok (.return_, 1) → zW p l e R s m args below meth c cells slots Q D Ca B 2 τ N pc lv []) : zW p l e R s m args below meth c cells slots Q D Ca B 2 σ N 0 [(0, .ref x0), (1, .int x1)] [] := by
  unfold fX3_clear at hf
  refine z_iload_n C dX3_clear_0 rfl 1 rfl ?_
  refine z_if_lt C 31 dX3_clear_1 (by decide) (fun q8 => ?_) (fun q8 => ?_)
  · rw [if_pos q8] at hf
    cases hf
    exact hq _ _ dX3_clear_31
  · rw [if_neg q8] at hf
    refine z_iload_n C dX3_clear_4 rfl 1 rfl ?_
    refine z_bipush C (zi 30) dX3_clear_5 (by decide) ?_
    refine z_icmp_ge C 31 dX3_clear_7 (by decide) (fun q7 => ?_) (fun q7 => ?_)
    · rw [if_pos q7] at hf
      cases hf
      exact hq _ _ dX3_clear_31
    · rw [if_neg q7] at hf
      refine z_aload_n C dX3_clear_10 rfl 0 rfl ?_
      obtain ⟨v1, hv1, hf⟩ := zbind hf
      refine gf_RX3_15 C hv1 dX3_clear_11 ?_
      refine z_iload_n C dX3_clear_14 rfl 1 rfl ?_
      refine z_iconst C (zi (-1)) dX3_clear_15 (by decide) ?_
      obtain ⟨σ2, hσ2, hf⟩ := zbind hf
      refine z_sI C hσ2 dX3_clear_16 ?_
      refine z_aload_n C dX3_clear_17 rfl 0 rfl ?_
      obtain ⟨v3, hv3, hf⟩ := zbind hf
      refine gf_RX3_18 C hv3 dX3_clear_18 ?_
      refine z_iload_n C dX3_clear_21 rfl 1 rfl ?_
      refine z_iconst C (zi (-1)) dX3_clear_22 (by decide) ?_
      obtain ⟨σ4, hσ4, hf⟩ := zbind hf
      refine z_sI C hσ4 dX3_clear_23 ?_
      refine z_aload_n C dX3_clear_24 rfl 0 rfl ?_
      obtain ⟨v5, hv5, hf⟩ := zbind hf
      refine gf_RX3_21 C hv5 dX3_clear_25 ?_
      refine z_iload_n C dX3_clear_28 rfl 1 rfl ?_
      refine z_iconst C (zi 0) dX3_clear_29 (by decide) ?_
      obtain ⟨σ6, hσ6, hf⟩ := zbind hf
      refine z_sI C hσ6 dX3_clear_30 ?_
      cases hf
      exact hq _ _ dX3_clear_31

theorem mX3_clear (l : Launch) (D : va_G) (Ca : Nat → ClassId) (B : Nat) (En : State → Prop) (hE : zEk B En) (σ : zS) (N : Nat) (x0 : Nat) (x1 : Int32) (X : zS) (hf : fX3_clear σ x0 x1 = some X) : zMv l D Ca B En yX3_clear cX3_clear 2 (Option.none : Option Jvm.ClassFile.FieldType) 0 0 [.ref x0, .int x1] σ N X () :=
  zMet_v (own := RX3) hE (by decide +kernel) rfl (Nat.le_of_ble_eq_true rfl) (fun p e s m args below meth c C hr hRm => wfX3_clear C hRm σ x0 x1 X hf (fun pc lv hd => zfin_v (r := ()) C hr hd))
theorem dX3_clearAll_0 : decode cX3_clearAll 0 = .ok (.iconst 0, 1) := by decide +kernel
theorem dX3_clearAll_1 : decode cX3_clearAll 1 = .ok (.istore_n 1, 1) := by decide +kernel
theorem dX3_clearAll_2 : decode cX3_clearAll 2 = .ok (.iload_n 1, 1) := by decide +kernel
theorem dX3_clearAll_3 : decode cX3_clearAll 3 = .ok (.bipush 30, 2) := by decide +kernel
theorem dX3_clearAll_5 : decode cX3_clearAll 5 = .ok (.if_icmp .ge 14, 3) := by decide +kernel
theorem dX3_clearAll_8 : decode cX3_clearAll 8 = .ok (.aload_n 0, 1) := by decide +kernel
theorem dX3_clearAll_9 : decode cX3_clearAll 9 = .ok (.iload_n 1, 1) := by decide +kernel
theorem dX3_clearAll_10 : decode cX3_clearAll 10 = .ok (.invokevirtual 27, 3) := by decide +kernel
theorem dX3_clearAll_13 : decode cX3_clearAll 13 = .ok (.iinc 1 1, 3) := by decide +kernel
theorem dX3_clearAll_16 : decode cX3_clearAll 16 = .ok (.goto (-14), 3) := by decide +kernel
theorem dX3_clearAll_19 : decode cX3_clearAll 19 = .ok (.return_, 1) := by decide +kernel
theorem hyX3_clearAll : yX3_clearAll.cls ≠ "java/lang/invoke/MethodHandle" ∧ yX3_clearAll.cls ≠ "java/lang/invoke/VarHandle" ∧ (parseMethodDescriptor yX3_clearAll.desc).map (fun d => d.parameters.length) = some 0 := ⟨by decide +kernel, by decide +kernel, by decide +kernel⟩
set_option maxRecDepth 100000 in
set_option maxHeartbeats 4000000 in
theorem wsX3_clearAll_2b (C : zC p s m args meth c cX3_clearAll RX3 2 D Ca B En) (hRm : zRm R 1 21 cells slots) (x0 : Nat) (σ : zS) (u1 : Int32) (y : (zS × Int32) ⊕ zS) (hf : sX3_clearAll_2b x0 σ u1 = some y) (hk : (∀ z : (zS × Int32), y = .inl z → zW p l e R s m args below meth c cells slots Q D Ca B 2 z.1 N 2 [(0, .ref x0), (1, .int z.2)] []) ∧ (∀ z : zS, y = .inr z → zW p l e R s m args below meth c cells slots Q D Ca B 2 z N 19 [] [])) : zW p l e R s m args below meth c cells slots Q D Ca B 2 σ N 2 [(0, .ref x0), (1, .int u1)] [] := by
  unfold sX3_clearAll_2b at hf
  refine z_iload_n C dX3_clearAll_2 rfl 1 rfl ?_
  refine z_bipush C (zi 30) dX3_clearAll_3 (by decide) ?_
  refine z_icmp_ge C 19 dX3_clearAll_5 (by decide) (fun q2 => ?_) (fun q2 => ?_)
  · rw [if_pos q2] at hf
    cases hf
    refine z_sub [] rfl ?_
    exact hk.2 _ rfl
  · rw [if_neg q2] at hf
    refine z_aload_n C dX3_clearAll_8 rfl 0 rfl ?_
    refine z_iload_n C dX3_clearAll_9 rfl 1 rfl ?_
    obtain ⟨c1, hc1, hf⟩ := zbind hf
    obtain ⟨kc1, hc1⟩ := zck_ok hc1
    refine z_callVv (As := [.int u1]) (F0 := 1) (L0 := 21) C (mX3_clear l D Ca B En C.2.2.2.2.2.2.2.1 σ N x0 u1 _ hc1) hRm kc1 rfl kw_206 kw_9 kw_203 kw_204 kw_205 hyX3_clear (Nat.le_of_ble_eq_true rfl) (Nat.le_of_ble_eq_true rfl) rfl rfl (Nat.le_of_ble_eq_true rfl) dX3_clearAll_10 ?_
    refine z_iinc (lv2 := [(1, .int (u1 + (zi 1))), (0, .ref x0)]) C (u1 + (zi 1)) dX3_clearAll_13 1 rfl rfl (by decide) rfl ?_
    refine z_goto C 2 dX3_clearAll_16 (by decide) ?_
    cases hf
    refine z_sub [1, 0] rfl ?_
    exact hk.1 _ rfl

theorem wsX3_clearAll_2 (C : zC p s m args meth c cX3_clearAll RX3 2 D Ca B En) (hRm : zRm R 1 21 cells slots) (x0 : Nat) (n : Nat) (z : (zS × Int32)) (x : zS) (hf : zloop (sX3_clearAll_2 x0) n z = some x) (hk : (∀ o : zS, x = o → zW p l e R s m args below meth c cells slots Q D Ca B 2 o N 19 [] [])) : zW p l e R s m args below meth c cells slots Q D Ca B 2 z.1 N 2 [(0, .ref x0), (1, .int z.2)] [] := by
  refine zloop_W (P := fun z : (zS × Int32) => zW p l e R s m args below meth c cells slots Q D Ca B 2 z.1 N 2 [(0, .ref x0), (1, .int z.2)] []) (K := fun x : zS => (∀ o : zS, x = o → zW p l e R s m args below meth c cells slots Q D Ca B 2 o N 19 [] [])) ?_ n z x hf hk
  intro z y hy h1 h2
  refine wsX3_clearAll_2b C hRm x0 z.1 z.2 y hy ⟨fun z2 e => h1 z2 e, fun o e => (h2 _ e) o rfl⟩
set_option maxRecDepth 100000 in
set_option maxHeartbeats 4000000 in
theorem wfX3_clearAll (C : zC p s m args meth c cX3_clearAll RX3 2 D Ca B En) (hRm : zRm R 1 21 cells slots) (σ : zS) (x0 : Nat) (τ : zS) (hf : fX3_clearAll σ x0 = some τ) (hq : ∀ (pc : Nat) (lv : List (Nat × Value)), decode cX3_clearAll pc = .ok (.return_, 1) → zW p l e R s m args below meth c cells slots Q D Ca B 2 τ N pc lv []) : zW p l e R s m args below meth c cells slots Q D Ca B 2 σ N 0 [(0, .ref x0)] [] := by
  unfold fX3_clearAll at hf
  refine z_iconst C (zi 0) dX3_clearAll_0 (by decide) ?_
  refine z_istore_n (lv2 := [(1, .int ((zi 0))), (0, .ref x0)]) C dX3_clearAll_1 rfl (by decide) rfl ?_
  obtain ⟨o3, ho3, hf⟩ := zbind hf
  refine z_sub [1, 0] rfl ?_
  refine wsX3_clearAll_2 C hRm _ zfuel (σ, (zi 0)) o3 ho3 ?_
  intro z9 e9
  subst e9
  cases hf
  exact hq _ _ dX3_clearAll_19

theorem mX3_clearAll (l : Launch) (D : va_G) (Ca : Nat → ClassId) (B : Nat) (En : State → Prop) (hE : zEk B En) (σ : zS) (N : Nat) (x0 : Nat) (X : zS) (hf : fX3_clearAll σ x0 = some X) : zMv l D Ca B En yX3_clearAll cX3_clearAll 2 (Option.none : Option Jvm.ClassFile.FieldType) 1 21 [.ref x0] σ N X () :=
  zMet_v (own := RX3) hE (by decide +kernel) rfl (Nat.le_of_ble_eq_true rfl) (fun p e s m args below meth c C hr hRm => wfX3_clearAll C hRm σ x0 X hf (fun pc lv hd => zfin_v (r := ()) C hr hd))
theorem dX0_exists_0 : decode cX0_exists 0 = .ok (.aload_n 0, 1) := by decide +kernel
theorem dX0_exists_1 : decode cX0_exists 1 = .ok (.getfield 28, 3) := by decide +kernel
theorem dX0_exists_4 : decode cX0_exists 4 = .ok (.ifCond .le 7, 3) := by decide +kernel
theorem dX0_exists_7 : decode cX0_exists 7 = .ok (.iconst 1, 1) := by decide +kernel
theorem dX0_exists_8 : decode cX0_exists 8 = .ok (.goto 4, 3) := by decide +kernel
theorem dX0_exists_11 : decode cX0_exists 11 = .ok (.iconst 0, 1) := by decide +kernel
theorem dX0_exists_12 : decode cX0_exists 12 = .ok (.ireturn, 1) := by decide +kernel
theorem hyX0_exists : yX0_exists.cls ≠ "java/lang/invoke/MethodHandle" ∧ yX0_exists.cls ≠ "java/lang/invoke/VarHandle" ∧ (parseMethodDescriptor yX0_exists.desc).map (fun d => d.parameters.length) = some 0 := ⟨by decide +kernel, by decide +kernel, by decide +kernel⟩
set_option maxRecDepth 100000 in
set_option maxHeartbeats 4000000 in
theorem wfX0_exists (C : zC p s m args meth c cX0_exists RX0 1 D Ca B En) (hRm : zRm R 0 0 cells slots) (σ : zS) (x0 : Nat) (τ : zS) (r : Int32) (hf : fX0_exists σ x0 = some (τ, r)) (hq : ∀ (pc : Nat) (lv : List (Nat × Value)), (r = 0 ∨ r = 1) → decode cX0_exists pc = .ok (.ireturn, 1) → zW p l e R s m args below meth c cells slots Q D Ca B 1 τ N pc lv [.int r]) : zW p l e R s m args below meth c cells slots Q D Ca B 1 σ N 0 [(0, .ref x0)] [] := by
  unfold fX0_exists at hf
  refine z_aload_n C dX0_exists_0 rfl 0 rfl ?_
  obtain ⟨v1, hv1, hf⟩ := zbind hf
  refine gf_RX0_28 C hv1 dX0_exists_1 ?_
  refine z_if_le C 11 dX0_exists_4 (by decide) (fun q2 => ?_) (fun q2 => ?_)
  · rw [if_pos q2] at hf
    refine z_iconst C (zi 0) dX0_exists_11 (by decide) ?_
    obtain ⟨e9, b9⟩ := zrZ_ok hf
    cases e9
    exact hq _ _ b9 dX0_exists_12
  · rw [if_neg q2] at hf
    refine z_iconst C (zi 1) dX0_exists_7 (by decide) ?_
    refine z_goto C 12 dX0_exists_8 (by decide) ?_
    obtain ⟨e9, b9⟩ := zrZ_ok hf
    cases e9
    exact hq _ _ b9 dX0_exists_12

theorem mX0_exists (l : Launch) (D : va_G) (Ca : Nat → ClassId) (B : Nat) (En : State → Prop) (hE : zEk B En) (σ : zS) (N : Nat) (x0 : Nat) (X : zS × Int32) (hf : fX0_exists σ x0 = some X) : zMi l D Ca B En yX0_exists cX0_exists 1 (Option.some Jvm.ClassFile.FieldType.boolean) 0 0 [.ref x0] σ N X.1 X.2 :=
  zMet_i (own := RX0) hE (by decide +kernel) rfl (Nat.le_of_ble_eq_true rfl) (fun p e s m args below meth c C hr hRm => wfX0_exists C hRm σ x0 X.1 X.2 hf (fun pc lv hb hd => zfin_z C hb hr hd))
theorem dX0_isOvertaking_0 : decode cX0_isOvertaking 0 = .ok (.aload_n 0, 1) := by decide +kernel
theorem dX0_isOvertaking_1 : decode cX0_isOvertaking 1 = .ok (.invokevirtual 32, 3) := by decide +kernel
theorem dX0_isOvertaking_4 : decode cX0_isOvertaking 4 = .ok (.ifCond .eq 14, 3) := by decide +kernel
theorem dX0_isOvertaking_7 : decode cX0_isOvertaking 7 = .ok (.aload_n 0, 1) := by decide +kernel
theorem dX0_isOvertaking_8 : decode cX0_isOvertaking 8 = .ok (.getfield 36, 3) := by decide +kernel
theorem dX0_isOvertaking_11 : decode cX0_isOvertaking 11 = .ok (.ifCond .eq 7, 3) := by decide +kernel
theorem dX0_isOvertaking_14 : decode cX0_isOvertaking 14 = .ok (.iconst 1, 1) := by decide +kernel
theorem dX0_isOvertaking_15 : decode cX0_isOvertaking 15 = .ok (.goto 4, 3) := by decide +kernel
theorem dX0_isOvertaking_18 : decode cX0_isOvertaking 18 = .ok (.iconst 0, 1) := by decide +kernel
theorem dX0_isOvertaking_19 : decode cX0_isOvertaking 19 = .ok (.ireturn, 1) := by decide +kernel
theorem hyX0_isOvertaking : yX0_isOvertaking.cls ≠ "java/lang/invoke/MethodHandle" ∧ yX0_isOvertaking.cls ≠ "java/lang/invoke/VarHandle" ∧ (parseMethodDescriptor yX0_isOvertaking.desc).map (fun d => d.parameters.length) = some 0 := ⟨by decide +kernel, by decide +kernel, by decide +kernel⟩
set_option maxRecDepth 100000 in
set_option maxHeartbeats 4000000 in
theorem wfX0_isOvertaking (C : zC p s m args meth c cX0_isOvertaking RX0 1 D Ca B En) (hRm : zRm R 1 20 cells slots) (σ : zS) (x0 : Nat) (τ : zS) (r : Int32) (hf : fX0_isOvertaking σ x0 = some (τ, r)) (hq : ∀ (pc : Nat) (lv : List (Nat × Value)), (r = 0 ∨ r = 1) → decode cX0_isOvertaking pc = .ok (.ireturn, 1) → zW p l e R s m args below meth c cells slots Q D Ca B 1 τ N pc lv [.int r]) : zW p l e R s m args below meth c cells slots Q D Ca B 1 σ N 0 [(0, .ref x0)] [] := by
  unfold fX0_isOvertaking at hf
  refine z_aload_n C dX0_isOvertaking_0 rfl 0 rfl ?_
  obtain ⟨c1, hc1, hf⟩ := zbind hf
  obtain ⟨kc1, hc1⟩ := zck_ok hc1
  refine z_callVi (As := []) (F0 := 1) (L0 := 20) C (mX0_exists l D Ca B En C.2.2.2.2.2.2.2.1 σ N x0  _ hc1) hRm kc1 rfl kw_316 kw_10 kw_650 kw_314 kw_315 hyX0_exists (Nat.le_of_ble_eq_true rfl) (Nat.le_of_ble_eq_true rfl) rfl rfl (Nat.le_of_ble_eq_true rfl) dX0_isOvertaking_1 ?_
  refine z_if_eq C 18 dX0_isOvertaking_4 (by decide) (fun q4 => ?_) (fun q4 => ?_)
  · rw [if_pos q4] at hf
    refine z_iconst C (zi 0) dX0_isOvertaking_18 (by decide) ?_
    obtain ⟨e9, b9⟩ := zrZ_ok hf
    cases e9
    exact hq _ _ b9 dX0_isOvertaking_19
  · rw [if_neg q4] at hf
    refine z_aload_n C dX0_isOvertaking_7 rfl 0 rfl ?_
    obtain ⟨v2, hv2, hf⟩ := zbind hf
    refine gf_RX0_36 C hv2 dX0_isOvertaking_8 ?_
    refine z_if_eq C 18 dX0_isOvertaking_11 (by decide) (fun q3 => ?_) (fun q3 => ?_)
    · rw [if_pos q3] at hf
      refine z_iconst C (zi 0) dX0_isOvertaking_18 (by decide) ?_
      obtain ⟨e9, b9⟩ := zrZ_ok hf
      cases e9
      exact hq _ _ b9 dX0_isOvertaking_19
    · rw [if_neg q3] at hf
      refine z_iconst C (zi 1) dX0_isOvertaking_14 (by decide) ?_
      refine z_goto C 19 dX0_isOvertaking_15 (by decide) ?_
      obtain ⟨e9, b9⟩ := zrZ_ok hf
      cases e9
      exact hq _ _ b9 dX0_isOvertaking_19

theorem mX0_isOvertaking (l : Launch) (D : va_G) (Ca : Nat → ClassId) (B : Nat) (En : State → Prop) (hE : zEk B En) (σ : zS) (N : Nat) (x0 : Nat) (X : zS × Int32) (hf : fX0_isOvertaking σ x0 = some X) : zMi l D Ca B En yX0_isOvertaking cX0_isOvertaking 1 (Option.some Jvm.ClassFile.FieldType.boolean) 1 20 [.ref x0] σ N X.1 X.2 :=
  zMet_i (own := RX0) hE (by decide +kernel) rfl (Nat.le_of_ble_eq_true rfl) (fun p e s m args below meth c C hr hRm => wfX0_isOvertaking C hRm σ x0 X.1 X.2 hf (fun pc lv hb hd => zfin_z C hb hr hd))
theorem dX9_fillRow_0 : decode cX9_fillRow 0 = .ok (.iconst 0, 1) := by decide +kernel
theorem dX9_fillRow_1 : decode cX9_fillRow 1 = .ok (.istore_n 2, 1) := by decide +kernel
theorem dX9_fillRow_2 : decode cX9_fillRow 2 = .ok (.iload_n 2, 1) := by decide +kernel
theorem dX9_fillRow_3 : decode cX9_fillRow 3 = .ok (.aload_n 0, 1) := by decide +kernel
theorem dX9_fillRow_4 : decode cX9_fillRow 4 = .ok (.arraylength, 1) := by decide +kernel
theorem dX9_fillRow_5 : decode cX9_fillRow 5 = .ok (.if_icmp .ge 13, 3) := by decide +kernel
theorem dX9_fillRow_8 : decode cX9_fillRow 8 = .ok (.aload_n 0, 1) := by decide +kernel
theorem dX9_fillRow_9 : decode cX9_fillRow 9 = .ok (.iload_n 2, 1) := by decide +kernel
theorem dX9_fillRow_10 : decode cX9_fillRow 10 = .ok (.iload_n 1, 1) := by decide +kernel
theorem dX9_fillRow_11 : decode cX9_fillRow 11 = .ok (.iastore, 1) := by decide +kernel
theorem dX9_fillRow_12 : decode cX9_fillRow 12 = .ok (.iinc 2 1, 3) := by decide +kernel
theorem dX9_fillRow_15 : decode cX9_fillRow 15 = .ok (.goto (-13), 3) := by decide +kernel
theorem dX9_fillRow_18 : decode cX9_fillRow 18 = .ok (.return_, 1) := by decide +kernel
theorem hyX9_fillRow : yX9_fillRow.cls ≠ "java/lang/invoke/MethodHandle" ∧ yX9_fillRow.cls ≠ "java/lang/invoke/VarHandle" ∧ (parseMethodDescriptor yX9_fillRow.desc).map (fun d => d.parameters.length) = some 2 := ⟨by decide +kernel, by decide +kernel, by decide +kernel⟩
set_option maxRecDepth 100000 in
set_option maxHeartbeats 4000000 in
theorem wsX9_fillRow_2b (C : zC p s m args meth c cX9_fillRow RX9 3 D Ca B En) (hRm : zRm R 0 0 cells slots) (x0 : Nat) (x1 : Int32) (σ : zS) (u2 : Int32) (y : (zS × Int32) ⊕ zS) (hf : sX9_fillRow_2b x0 x1 σ u2 = some y) (hk : (∀ z : (zS × Int32), y = .inl z → zW p l e R s m args below meth c cells slots Q D Ca B 3 z.1 N 2 [(0, .ref x0), (1, .int x1), (2, .int z.2)] []) ∧ (∀ z : zS, y = .inr z → zW p l e R s m args below meth c cells slots Q D Ca B 3 z N 18 [] [])) : zW p l e R s m args below meth c cells slots Q D Ca B 3 σ N 2 [(0, .ref x0), (1, .int x1), (2, .int u2)] [] := by
  unfold sX9_fillRow_2b at hf
  refine z_iload_n C dX9_fillRow_2 rfl 2 rfl ?_
  refine z_aload_n C dX9_fillRow_3 rfl 0 rfl ?_
  obtain ⟨v1, hv1, hf⟩ := zbind hf
  refine z_alen C hv1 dX9_fillRow_4 ?_
  refine z_icmp_ge C 18 dX9_fillRow_5 (by decide) (fun q3 => ?_) (fun q3 => ?_)
  · rw [if_pos q3] at hf
    cases hf
    refine z_sub [] rfl ?_
    exact hk.2 _ rfl
  · rw [if_neg q3] at hf
    refine z_aload_n C dX9_fillRow_8 rfl 0 rfl ?_
    refine z_iload_n C dX9_fillRow_9 rfl 2 rfl ?_
    refine z_iload_n C dX9_fillRow_10 rfl 1 rfl ?_
    obtain ⟨σ2, hσ2, hf⟩ := zbind hf
    refine z_sI C hσ2 dX9_fillRow_11 ?_
    refine z_iinc (lv2 := [(2, .int (u2 + (zi 1))), (0, .ref x0), (1, .int x1)]) C (u2 + (zi 1)) dX9_fillRow_12 2 rfl rfl (by decide) rfl ?_
    refine z_goto C 2 dX9_fillRow_15 (by decide) ?_
    cases hf
    refine z_sub [1, 2, 0] rfl ?_
    exact hk.1 _ rfl

theorem wsX9_fillRow_2 (C : zC p s m args meth c cX9_fillRow RX9 3 D Ca B En) (hRm : zRm R 0 0 cells slots) (x0 : Nat) (x1 : Int32) (n : Nat) (z : (zS × Int32)) (x : zS) (hf : zloop (sX9_fillRow_2 x0 x1) n z = some x) (hk : (∀ o : zS, x = o → zW p l e R s m args below meth c cells slots Q D Ca B 3 o N 18 [] [])) : zW p l e R s m args below meth c cells slots Q D Ca B 3 z.1 N 2 [(0, .ref x0), (1, .int x1), (2, .int z.2)] [] := by
  refine zloop_W (P := fun z : (zS × Int32) => zW p l e R s m args below meth c cells slots Q D Ca B 3 z.1 N 2 [(0, .ref x0), (1, .int x1), (2, .int z.2)] []) (K := fun x : zS => (∀ o : zS, x = o → zW p l e R s m args below meth c cells slots Q D Ca B 3 o N 18 [] [])) ?_ n z x hf hk
  intro z y hy h1 h2
  refine wsX9_fillRow_2b C hRm x0 x1 z.1 z.2 y hy ⟨fun z2 e => h1 z2 e, fun o e => (h2 _ e) o rfl⟩
set_option maxRecDepth 100000 in
set_option maxHeartbeats 4000000 in
theorem wfX9_fillRow (C : zC p s m args meth c cX9_fillRow RX9 3 D Ca B En) (hRm : zRm R 0 0 cells slots) (σ : zS) (x0 : Nat) (x1 : Int32) (τ : zS) (hf : fX9_fillRow σ x0 x1 = some τ) (hq : ∀ (pc : Nat) (lv : List (Nat × Value)), decode cX9_fillRow pc = .ok (.return_, 1) → zW p l e R s m args below meth c cells slots Q D Ca B 3 τ N pc lv []) : zW p l e R s m args below meth c cells slots Q D Ca B 3 σ N 0 [(0, .ref x0), (1, .int x1)] [] := by
  unfold fX9_fillRow at hf
  refine z_iconst C (zi 0) dX9_fillRow_0 (by decide) ?_
  refine z_istore_n (lv2 := [(2, .int ((zi 0))), (0, .ref x0), (1, .int x1)]) C dX9_fillRow_1 rfl (by decide) rfl ?_
  obtain ⟨o4, ho4, hf⟩ := zbind hf
  refine z_sub [1, 2, 0] rfl ?_
  refine wsX9_fillRow_2 C hRm _ _ zfuel (σ, (zi 0)) o4 ho4 ?_
  intro z9 e9
  subst e9
  cases hf
  exact hq _ _ dX9_fillRow_18

theorem mX9_fillRow (l : Launch) (D : va_G) (Ca : Nat → ClassId) (B : Nat) (En : State → Prop) (hE : zEk B En) (σ : zS) (N : Nat) (x0 : Nat) (x1 : Int32) (X : zS) (hf : fX9_fillRow σ x0 x1 = some X) : zMv l D Ca B En yX9_fillRow cX9_fillRow 3 (Option.none : Option Jvm.ClassFile.FieldType) 0 0 [.ref x0, .int x1] σ N X () :=
  zMet_v (own := RX9) hE (by decide +kernel) rfl (Nat.le_of_ble_eq_true rfl) (fun p e s m args below meth c C hr hRm => wfX9_fillRow C hRm σ x0 x1 X hf (fun pc lv hd => zfin_v (r := ()) C hr hd))
theorem dX0_start_0 : decode cX0_start 0 = .ok (.aload_n 0, 1) := by decide +kernel
theorem dX0_start_1 : decode cX0_start 1 = .ok (.iload_n 1, 1) := by decide +kernel
theorem dX0_start_2 : decode cX0_start 2 = .ok (.putfield 28, 3) := by decide +kernel
theorem dX0_start_5 : decode cX0_start 5 = .ok (.aload_n 0, 1) := by decide +kernel
theorem dX0_start_6 : decode cX0_start 6 = .ok (.iload_n 2, 1) := by decide +kernel
theorem dX0_start_7 : decode cX0_start 7 = .ok (.putfield 40, 3) := by decide +kernel
theorem dX0_start_10 : decode cX0_start 10 = .ok (.aload_n 0, 1) := by decide +kernel
theorem dX0_start_11 : decode cX0_start 11 = .ok (.iconst (-1), 1) := by decide +kernel
theorem dX0_start_12 : decode cX0_start 12 = .ok (.putfield 43, 3) := by decide +kernel
theorem dX0_start_15 : decode cX0_start 15 = .ok (.aload_n 0, 1) := by decide +kernel
theorem dX0_start_16 : decode cX0_start 16 = .ok (.iload_n 3, 1) := by decide +kernel
theorem dX0_start_17 : decode cX0_start 17 = .ok (.putfield 36, 3) := by decide +kernel
theorem dX0_start_20 : decode cX0_start 20 = .ok (.aload_n 0, 1) := by decide +kernel
theorem dX0_start_21 : decode cX0_start 21 = .ok (.iconst 0, 1) := by decide +kernel
theorem dX0_start_22 : decode cX0_start 22 = .ok (.putfield 46, 3) := by decide +kernel
theorem dX0_start_25 : decode cX0_start 25 = .ok (.aload_n 0, 1) := by decide +kernel
theorem dX0_start_26 : decode cX0_start 26 = .ok (.iconst 0, 1) := by decide +kernel
theorem dX0_start_27 : decode cX0_start 27 = .ok (.putfield 49, 3) := by decide +kernel
theorem dX0_start_30 : decode cX0_start 30 = .ok (.aload_n 0, 1) := by decide +kernel
theorem dX0_start_31 : decode cX0_start 31 = .ok (.iconst 0, 1) := by decide +kernel
theorem dX0_start_32 : decode cX0_start 32 = .ok (.putfield 52, 3) := by decide +kernel
theorem dX0_start_35 : decode cX0_start 35 = .ok (.aload_n 0, 1) := by decide +kernel
theorem dX0_start_36 : decode cX0_start 36 = .ok (.getfield 9, 3) := by decide +kernel
theorem dX0_start_39 : decode cX0_start 39 = .ok (.iconst 0, 1) := by decide +kernel
theorem dX0_start_40 : decode cX0_start 40 = .ok (.invokestatic 55, 3) := by decide +kernel
theorem dX0_start_43 : decode cX0_start 43 = .ok (.aload_n 0, 1) := by decide +kernel
theorem dX0_start_44 : decode cX0_start 44 = .ok (.getfield 15, 3) := by decide +kernel
theorem dX0_start_47 : decode cX0_start 47 = .ok (.iconst 0, 1) := by decide +kernel
theorem dX0_start_48 : decode cX0_start 48 = .ok (.invokestatic 55, 3) := by decide +kernel
theorem dX0_start_51 : decode cX0_start 51 = .ok (.aload_n 0, 1) := by decide +kernel
theorem dX0_start_52 : decode cX0_start 52 = .ok (.getfield 18, 3) := by decide +kernel
theorem dX0_start_55 : decode cX0_start 55 = .ok (.iconst 0, 1) := by decide +kernel
theorem dX0_start_56 : decode cX0_start 56 = .ok (.invokestatic 55, 3) := by decide +kernel
theorem dX0_start_59 : decode cX0_start 59 = .ok (.aload_n 0, 1) := by decide +kernel
theorem dX0_start_60 : decode cX0_start 60 = .ok (.getfield 24, 3) := by decide +kernel
theorem dX0_start_63 : decode cX0_start 63 = .ok (.invokevirtual 59, 3) := by decide +kernel
theorem dX0_start_66 : decode cX0_start 66 = .ok (.return_, 1) := by decide +kernel
theorem hyX0_start : yX0_start.cls ≠ "java/lang/invoke/MethodHandle" ∧ yX0_start.cls ≠ "java/lang/invoke/VarHandle" ∧ (parseMethodDescriptor yX0_start.desc).map (fun d => d.parameters.length) = some 3 := ⟨by decide +kernel, by decide +kernel, by decide +kernel⟩
set_option maxRecDepth 100000 in
set_option maxHeartbeats 4000000 in
theorem wfX0_start (C : zC p s m args meth c cX0_start RX0 4 D Ca B En) (hRm : zRm R 2 42 cells slots) (σ : zS) (x0 : Nat) (x1 : Int32) (x2 : Int32) (x3 : Int32) (τ : zS) (hf : fX0_start σ x0 x1 x2 x3 = some τ) (hq : ∀ (pc : Nat) (lv : List (Nat × Value)), decode cX0_start pc = .ok (.return_, 1) → zW p l e R s m args below meth c cells slots Q D Ca B 4 τ N pc lv []) : zW p l e R s m args below meth c cells slots Q D Ca B 4 σ N 0 [(0, .ref x0), (1, .int x1), (2, .int x2), (3, .int x3)] [] := by
  unfold fX0_start at hf
  refine z_aload_n C dX0_start_0 rfl 0 rfl ?_
  refine z_iload_n C dX0_start_1 rfl 1 rfl ?_
  obtain ⟨σ1, hσ1, hf⟩ := zbind hf
  refine gp_RX0_28 C hσ1 dX0_start_2 ?_
  refine z_aload_n C dX0_start_5 rfl 0 rfl ?_
  refine z_iload_n C dX0_start_6 rfl 2 rfl ?_
  obtain ⟨σ2, hσ2, hf⟩ := zbind hf
  refine gp_RX0_40 C hσ2 dX0_start_7 ?_
  refine z_aload_n C dX0_start_10 rfl 0 rfl ?_
  refine z_iconst C (zi (-1)) dX0_start_11 (by decide) ?_
  obtain ⟨σ3, hσ3, hf⟩ := zbind hf
  refine gp_RX0_43 C hσ3 dX0_start_12 ?_
  refine z_aload_n C dX0_start_15 rfl 0 rfl ?_
  refine z_iload_n C dX0_start_16 rfl 3 rfl ?_
  obtain ⟨σ4, hσ4, hf⟩ := zbind hf
  refine gp_RX0_36 C hσ4 dX0_start_17 ?_
  refine z_aload_n C dX0_start_20 rfl 0 rfl ?_
  refine z_iconst C (zi 0) dX0_start_21 (by decide) ?_
  obtain ⟨σ5, hσ5, hf⟩ := zbind hf
  refine gp_RX0_46 C hσ5 dX0_start_22 ?_
  refine z_aload_n C dX0_start_25 rfl 0 rfl ?_
  refine z_iconst C (zi 0) dX0_start_26 (by decide) ?_
  obtain ⟨σ6, hσ6, hf⟩ := zbind hf
  refine gp_RX0_49 C hσ6 dX0_start_27 ?_
  refine z_aload_n C dX0_start_30 rfl 0 rfl ?_
  refine z_iconst C (zi 0) dX0_start_31 (by decide) ?_
  obtain ⟨σ7, hσ7, hf⟩ := zbind hf
  refine gp_RX0_52 C hσ7 dX0_start_32 ?_
  refine z_aload_n C dX0_start_35 rfl 0 rfl ?_
  obtain ⟨v8, hv8, hf⟩ := zbind hf
  refine gf_RX0_9 C hv8 dX0_start_36 ?_
  refine z_iconst C (zi 0) dX0_start_39 (by decide) ?_
  obtain ⟨c9, hc9, hf⟩ := zbind hf
  refine z_callSNv (host := "BarrierFlow") (As := [.ref v8, .int ((zi 0))]) (F0 := 2) (L0 := 42) C (mX9_fillRow l D Ca B En C.2.2.2.2.2.2.2.1 σ7 N v8 ((zi 0)) _ hc9) hRm kw_165 kw_1 (by decide) kw_164 hyX9_fillRow (Nat.le_of_ble_eq_true rfl) (Nat.le_of_ble_eq_true rfl) rfl rfl (Nat.le_of_ble_eq_true rfl) dX0_start_40 ?_
  refine z_aload_n C dX0_start_43 rfl 0 rfl ?_
  obtain ⟨v10, hv10, hf⟩ := zbind hf
  refine gf_RX0_15 C hv10 dX0_start_44 ?_
  refine z_iconst C (zi 0) dX0_start_47 (by decide) ?_
  obtain ⟨c11, hc11, hf⟩ := zbind hf
  refine z_callSNv (host := "BarrierFlow") (As := [.ref v10, .int ((zi 0))]) (F0 := 2) (L0 := 42) C (mX9_fillRow l D Ca B En C.2.2.2.2.2.2.2.1 c9 N v10 ((zi 0)) _ hc11) hRm kw_165 kw_1 (by decide) kw_164 hyX9_fillRow (Nat.le_of_ble_eq_true rfl) (Nat.le_of_ble_eq_true rfl) rfl rfl (Nat.le_of_ble_eq_true rfl) dX0_start_48 ?_
  refine z_aload_n C dX0_start_51 rfl 0 rfl ?_
  obtain ⟨v12, hv12, hf⟩ := zbind hf
  refine gf_RX0_18 C hv12 dX0_start_52 ?_
  refine z_iconst C (zi 0) dX0_start_55 (by decide) ?_
  obtain ⟨c13, hc13, hf⟩ := zbind hf
  refine z_callSNv (host := "BarrierFlow") (As := [.ref v12, .int ((zi 0))]) (F0 := 2) (L0 := 42) C (mX9_fillRow l D Ca B En C.2.2.2.2.2.2.2.1 c11 N v12 ((zi 0)) _ hc13) hRm kw_165 kw_1 (by decide) kw_164 hyX9_fillRow (Nat.le_of_ble_eq_true rfl) (Nat.le_of_ble_eq_true rfl) rfl rfl (Nat.le_of_ble_eq_true rfl) dX0_start_56 ?_
  refine z_aload_n C dX0_start_59 rfl 0 rfl ?_
  obtain ⟨v14, hv14, hf⟩ := zbind hf
  refine gf_RX0_24 C hv14 dX0_start_60 ?_
  obtain ⟨c15, hc15, hf⟩ := zbind hf
  obtain ⟨kc15, hc15⟩ := zck_ok hc15
  refine z_callVv (As := []) (F0 := 2) (L0 := 42) C (mX3_clearAll l D Ca B En C.2.2.2.2.2.2.2.1 c13 N v14  _ hc15) hRm kc15 rfl kw_202 kw_9 kw_618 kw_200 kw_201 hyX3_clearAll (Nat.le_of_ble_eq_true rfl) (Nat.le_of_ble_eq_true rfl) rfl rfl (Nat.le_of_ble_eq_true rfl) dX0_start_63 ?_
  cases hf
  exact hq _ _ dX0_start_66

theorem mX0_start (l : Launch) (D : va_G) (Ca : Nat → ClassId) (B : Nat) (En : State → Prop) (hE : zEk B En) (σ : zS) (N : Nat) (x0 : Nat) (x1 : Int32) (x2 : Int32) (x3 : Int32) (X : zS) (hf : fX0_start σ x0 x1 x2 x3 = some X) : zMv l D Ca B En yX0_start cX0_start 4 (Option.none : Option Jvm.ClassFile.FieldType) 2 42 [.ref x0, .int x1, .int x2, .int x3] σ N X () :=
  zMet_v (own := RX0) hE (by decide +kernel) rfl (Nat.le_of_ble_eq_true rfl) (fun p e s m args below meth c C hr hRm => wfX0_start C hRm σ x0 x1 x2 x3 X hf (fun pc lv hd => zfin_v (r := ()) C hr hd))
theorem dX9_copyRow_0 : decode cX9_copyRow 0 = .ok (.aload_n 0, 1) := by decide +kernel
theorem dX9_copyRow_1 : decode cX9_copyRow 1 = .ok (.iconst 0, 1) := by decide +kernel
theorem dX9_copyRow_2 : decode cX9_copyRow 2 = .ok (.aload_n 1, 1) := by decide +kernel
theorem dX9_copyRow_3 : decode cX9_copyRow 3 = .ok (.iconst 0, 1) := by decide +kernel
theorem dX9_copyRow_4 : decode cX9_copyRow 4 = .ok (.aload_n 0, 1) := by decide +kernel
theorem dX9_copyRow_5 : decode cX9_copyRow 5 = .ok (.arraylength, 1) := by decide +kernel
theorem dX9_copyRow_6 : decode cX9_copyRow 6 = .ok (.aload_n 1, 1) := by decide +kernel
theorem dX9_copyRow_7 : decode cX9_copyRow 7 = .ok (.arraylength, 1) := by decide +kernel
theorem dX9_copyRow_8 : decode cX9_copyRow 8 = .ok (.invokestatic 342, 3) := by decide +kernel
theorem dX9_copyRow_11 : decode cX9_copyRow 11 = .ok (.invokestatic 345, 3) := by decide +kernel
theorem dX9_copyRow_14 : decode cX9_copyRow 14 = .ok (.return_, 1) := by decide +kernel
theorem hyX9_copyRow : yX9_copyRow.cls ≠ "java/lang/invoke/MethodHandle" ∧ yX9_copyRow.cls ≠ "java/lang/invoke/VarHandle" ∧ (parseMethodDescriptor yX9_copyRow.desc).map (fun d => d.parameters.length) = some 2 := ⟨by decide +kernel, by decide +kernel, by decide +kernel⟩
set_option maxRecDepth 100000 in
set_option maxHeartbeats 4000000 in
theorem wfX9_copyRow (C : zC p s m args meth c cX9_copyRow RX9 2 D Ca B En) (hRm : zRm R 1 64 cells slots) (σ : zS) (x0 : Nat) (x1 : Nat) (τ : zS) (hf : fX9_copyRow σ x0 x1 = some τ) (hq : ∀ (pc : Nat) (lv : List (Nat × Value)), decode cX9_copyRow pc = .ok (.return_, 1) → zW p l e R s m args below meth c cells slots Q D Ca B 2 τ N pc lv []) : zW p l e R s m args below meth c cells slots Q D Ca B 2 σ N 0 [(0, .ref x0), (1, .ref x1)] [] := by
  unfold fX9_copyRow at hf
  refine z_aload_n C dX9_copyRow_0 rfl 0 rfl ?_
  refine z_iconst C (zi 0) dX9_copyRow_1 (by decide) ?_
  refine z_aload_n C dX9_copyRow_2 rfl 1 rfl ?_
  refine z_iconst C (zi 0) dX9_copyRow_3 (by decide) ?_
  refine z_aload_n C dX9_copyRow_4 rfl 0 rfl ?_
  obtain ⟨v1, hv1, hf⟩ := zbind hf
  refine z_alen C hv1 dX9_copyRow_5 ?_
  refine z_aload_n C dX9_copyRow_6 rfl 1 rfl ?_
  obtain ⟨v2, hv2, hf⟩ := zbind hf
  refine z_alen C hv2 dX9_copyRow_7 ?_
  refine z_mmin (FR := 1) (LR := 64) C hRm (Nat.le_of_ble_eq_true rfl) (Nat.le_of_ble_eq_true rfl) kw_298 kw_299 kw_11 kw_300 (Nat.le_of_ble_eq_true rfl) dX9_copyRow_8 ?_
  obtain ⟨σ3, hσ3, hf⟩ := zbind hf
  refine z_cI C hσ3 (FR := 1) (LR := 64) hRm (Nat.le_of_ble_eq_true rfl) (Nat.le_of_ble_eq_true rfl) kw_301 kw_303 kw_302 kw_12 (Nat.le_of_ble_eq_true rfl) dX9_copyRow_11 ?_
  cases hf
  exact hq _ _ dX9_copyRow_14

theorem mX9_copyRow (l : Launch) (D : va_G) (Ca : Nat → ClassId) (B : Nat) (En : State → Prop) (hE : zEk B En) (σ : zS) (N : Nat) (x0 : Nat) (x1 : Nat) (X : zS) (hf : fX9_copyRow σ x0 x1 = some X) : zMv l D Ca B En yX9_copyRow cX9_copyRow 2 (Option.none : Option Jvm.ClassFile.FieldType) 1 64 [.ref x0, .ref x1] σ N X () :=
  zMet_v (own := RX9) hE (by decide +kernel) rfl (Nat.le_of_ble_eq_true rfl) (fun p e s m args below meth c C hr hRm => wfX9_copyRow C hRm σ x0 x1 X hf (fun pc lv hd => zfin_v (r := ()) C hr hd))
theorem dX3_copyFrom_0 : decode cX3_copyFrom 0 = .ok (.aload_n 1, 1) := by decide +kernel
theorem dX3_copyFrom_1 : decode cX3_copyFrom 1 = .ok (.getfield 9, 3) := by decide +kernel
theorem dX3_copyFrom_4 : decode cX3_copyFrom 4 = .ok (.aload_n 0, 1) := by decide +kernel
theorem dX3_copyFrom_5 : decode cX3_copyFrom 5 = .ok (.getfield 9, 3) := by decide +kernel
theorem dX3_copyFrom_8 : decode cX3_copyFrom 8 = .ok (.invokestatic 31, 3) := by decide +kernel
theorem dX3_copyFrom_11 : decode cX3_copyFrom 11 = .ok (.aload_n 1, 1) := by decide +kernel
theorem dX3_copyFrom_12 : decode cX3_copyFrom 12 = .ok (.getfield 15, 3) := by decide +kernel
theorem dX3_copyFrom_15 : decode cX3_copyFrom 15 = .ok (.aload_n 0, 1) := by decide +kernel
theorem dX3_copyFrom_16 : decode cX3_copyFrom 16 = .ok (.getfield 15, 3) := by decide +kernel
theorem dX3_copyFrom_19 : decode cX3_copyFrom 19 = .ok (.invokestatic 31, 3) := by decide +kernel
theorem dX3_copyFrom_22 : decode cX3_copyFrom 22 = .ok (.aload_n 1, 1) := by decide +kernel
theorem dX3_copyFrom_23 : decode cX3_copyFrom 23 = .ok (.getfield 18, 3) := by decide +kernel
theorem dX3_copyFrom_26 : decode cX3_copyFrom 26 = .ok (.aload_n 0, 1) := by decide +kernel
theorem dX3_copyFrom_27 : decode cX3_copyFrom 27 = .ok (.getfield 18, 3) := by decide +kernel
theorem dX3_copyFrom_30 : decode cX3_copyFrom 30 = .ok (.invokestatic 31, 3) := by decide +kernel
theorem dX3_copyFrom_33 : decode cX3_copyFrom 33 = .ok (.aload_n 1, 1) := by decide +kernel
theorem dX3_copyFrom_34 : decode cX3_copyFrom 34 = .ok (.getfield 21, 3) := by decide +kernel
theorem dX3_copyFrom_37 : decode cX3_copyFrom 37 = .ok (.aload_n 0, 1) := by decide +kernel
theorem dX3_copyFrom_38 : decode cX3_copyFrom 38 = .ok (.getfield 21, 3) := by decide +kernel
theorem dX3_copyFrom_41 : decode cX3_copyFrom 41 = .ok (.invokestatic 31, 3) := by decide +kernel
theorem dX3_copyFrom_44 : decode cX3_copyFrom 44 = .ok (.return_, 1) := by decide +kernel
theorem hyX3_copyFrom : yX3_copyFrom.cls ≠ "java/lang/invoke/MethodHandle" ∧ yX3_copyFrom.cls ≠ "java/lang/invoke/VarHandle" ∧ (parseMethodDescriptor yX3_copyFrom.desc).map (fun d => d.parameters.length) = some 1 := ⟨by decide +kernel, by decide +kernel, by decide +kernel⟩
set_option maxRecDepth 100000 in
set_option maxHeartbeats 4000000 in
theorem wfX3_copyFrom (C : zC p s m args meth c cX3_copyFrom RX3 2 D Ca B En) (hRm : zRm R 2 85 cells slots) (σ : zS) (x0 : Nat) (x1 : Nat) (τ : zS) (hf : fX3_copyFrom σ x0 x1 = some τ) (hq : ∀ (pc : Nat) (lv : List (Nat × Value)), decode cX3_copyFrom pc = .ok (.return_, 1) → zW p l e R s m args below meth c cells slots Q D Ca B 2 τ N pc lv []) : zW p l e R s m args below meth c cells slots Q D Ca B 2 σ N 0 [(0, .ref x0), (1, .ref x1)] [] := by
  unfold fX3_copyFrom at hf
  refine z_aload_n C dX3_copyFrom_0 rfl 1 rfl ?_
  obtain ⟨v1, hv1, hf⟩ := zbind hf
  refine gf_RX3_9 C hv1 dX3_copyFrom_1 ?_
  refine z_aload_n C dX3_copyFrom_4 rfl 0 rfl ?_
  obtain ⟨v2, hv2, hf⟩ := zbind hf
  refine gf_RX3_9 C hv2 dX3_copyFrom_5 ?_
  obtain ⟨c3, hc3, hf⟩ := zbind hf
  refine z_callSNv (host := "BarrierFlow") (As := [.ref v1, .ref v2]) (F0 := 2) (L0 := 85) C (mX9_copyRow l D Ca B En C.2.2.2.2.2.2.2.1 σ N v1 v2 _ hc3) hRm kw_297 kw_1 (by decide) kw_296 hyX9_copyRow (Nat.le_of_ble_eq_true rfl) (Nat.le_of_ble_eq_true rfl) rfl rfl (Nat.le_of_ble_eq_true rfl) dX3_copyFrom_8 ?_
  refine z_aload_n C dX3_copyFrom_11 rfl 1 rfl ?_
  obtain ⟨v4, hv4, hf⟩ := zbind hf
  refine gf_RX3_15 C hv4 dX3_copyFrom_12 ?_
  refine z_aload_n C dX3_copyFrom_15 rfl 0 rfl ?_
  obtain ⟨v5, hv5, hf⟩ := zbind hf
  refine gf_RX3_15 C hv5 dX3_copyFrom_16 ?_
  obtain ⟨c6, hc6, hf⟩ := zbind hf
  refine z_callSNv (host := "BarrierFlow") (As := [.ref v4, .ref v5]) (F0 := 2) (L0 := 85) C (mX9_copyRow l D Ca B En C.2.2.2.2.2.2.2.1 c3 N v4 v5 _ hc6) hRm kw_297 kw_1 (by decide) kw_296 hyX9_copyRow (Nat.le_of_ble_eq_true rfl) (Nat.le_of_ble_eq_true rfl) rfl rfl (Nat.le_of_ble_eq_true rfl) dX3_copyFrom_19 ?_
  refine z_aload_n C dX3_copyFrom_22 rfl 1 rfl ?_
  obtain ⟨v7, hv7, hf⟩ := zbind hf
  refine gf_RX3_18 C hv7 dX3_copyFrom_23 ?_
  refine z_aload_n C dX3_copyFrom_26 rfl 0 rfl ?_
  obtain ⟨v8, hv8, hf⟩ := zbind hf
  refine gf_RX3_18 C hv8 dX3_copyFrom_27 ?_
  obtain ⟨c9, hc9, hf⟩ := zbind hf
  refine z_callSNv (host := "BarrierFlow") (As := [.ref v7, .ref v8]) (F0 := 2) (L0 := 85) C (mX9_copyRow l D Ca B En C.2.2.2.2.2.2.2.1 c6 N v7 v8 _ hc9) hRm kw_297 kw_1 (by decide) kw_296 hyX9_copyRow (Nat.le_of_ble_eq_true rfl) (Nat.le_of_ble_eq_true rfl) rfl rfl (Nat.le_of_ble_eq_true rfl) dX3_copyFrom_30 ?_
  refine z_aload_n C dX3_copyFrom_33 rfl 1 rfl ?_
  obtain ⟨v10, hv10, hf⟩ := zbind hf
  refine gf_RX3_21 C hv10 dX3_copyFrom_34 ?_
  refine z_aload_n C dX3_copyFrom_37 rfl 0 rfl ?_
  obtain ⟨v11, hv11, hf⟩ := zbind hf
  refine gf_RX3_21 C hv11 dX3_copyFrom_38 ?_
  obtain ⟨c12, hc12, hf⟩ := zbind hf
  refine z_callSNv (host := "BarrierFlow") (As := [.ref v10, .ref v11]) (F0 := 2) (L0 := 85) C (mX9_copyRow l D Ca B En C.2.2.2.2.2.2.2.1 c9 N v10 v11 _ hc12) hRm kw_297 kw_1 (by decide) kw_296 hyX9_copyRow (Nat.le_of_ble_eq_true rfl) (Nat.le_of_ble_eq_true rfl) rfl rfl (Nat.le_of_ble_eq_true rfl) dX3_copyFrom_41 ?_
  cases hf
  exact hq _ _ dX3_copyFrom_44

theorem mX3_copyFrom (l : Launch) (D : va_G) (Ca : Nat → ClassId) (B : Nat) (En : State → Prop) (hE : zEk B En) (σ : zS) (N : Nat) (x0 : Nat) (x1 : Nat) (X : zS) (hf : fX3_copyFrom σ x0 x1 = some X) : zMv l D Ca B En yX3_copyFrom cX3_copyFrom 2 (Option.none : Option Jvm.ClassFile.FieldType) 2 85 [.ref x0, .ref x1] σ N X () :=
  zMet_v (own := RX3) hE (by decide +kernel) rfl (Nat.le_of_ble_eq_true rfl) (fun p e s m args below meth c C hr hRm => wfX3_copyFrom C hRm σ x0 x1 X hf (fun pc lv hd => zfin_v (r := ()) C hr hd))
theorem dX0_copyFrom_0 : decode cX0_copyFrom 0 = .ok (.aload_n 0, 1) := by decide +kernel
theorem dX0_copyFrom_1 : decode cX0_copyFrom 1 = .ok (.aload_n 1, 1) := by decide +kernel
theorem dX0_copyFrom_2 : decode cX0_copyFrom 2 = .ok (.getfield 28, 3) := by decide +kernel
theorem dX0_copyFrom_5 : decode cX0_copyFrom 5 = .ok (.putfield 28, 3) := by decide +kernel
theorem dX0_copyFrom_8 : decode cX0_copyFrom 8 = .ok (.aload_n 0, 1) := by decide +kernel
theorem dX0_copyFrom_9 : decode cX0_copyFrom 9 = .ok (.getfield 28, 3) := by decide +kernel
theorem dX0_copyFrom_12 : decode cX0_copyFrom 12 = .ok (.ifCond .ne 4, 3) := by decide +kernel
theorem dX0_copyFrom_15 : decode cX0_copyFrom 15 = .ok (.return_, 1) := by decide +kernel
theorem dX0_copyFrom_16 : decode cX0_copyFrom 16 = .ok (.aload_n 0, 1) := by decide +kernel
theorem dX0_copyFrom_17 : decode cX0_copyFrom 17 = .ok (.aload_n 1, 1) := by decide +kernel
theorem dX0_copyFrom_18 : decode cX0_copyFrom 18 = .ok (.getfield 40, 3) := by decide +kernel
theorem dX0_copyFrom_21 : decode cX0_copyFrom 21 = .ok (.putfield 40, 3) := by decide +kernel
theorem dX0_copyFrom_24 : decode cX0_copyFrom 24 = .ok (.aload_n 0, 1) := by decide +kernel
theorem dX0_copyFrom_25 : decode cX0_copyFrom 25 = .ok (.aload_n 1, 1) := by decide +kernel
theorem dX0_copyFrom_26 : decode cX0_copyFrom 26 = .ok (.getfield 43, 3) := by decide +kernel
theorem dX0_copyFrom_29 : decode cX0_copyFrom 29 = .ok (.putfield 43, 3) := by decide +kernel
theorem dX0_copyFrom_32 : decode cX0_copyFrom 32 = .ok (.aload_n 0, 1) := by decide +kernel
theorem dX0_copyFrom_33 : decode cX0_copyFrom 33 = .ok (.aload_n 1, 1) := by decide +kernel
theorem dX0_copyFrom_34 : decode cX0_copyFrom 34 = .ok (.getfield 36, 3) := by decide +kernel
theorem dX0_copyFrom_37 : decode cX0_copyFrom 37 = .ok (.putfield 36, 3) := by decide +kernel
theorem dX0_copyFrom_40 : decode cX0_copyFrom 40 = .ok (.aload_n 0, 1) := by decide +kernel
theorem dX0_copyFrom_41 : decode cX0_copyFrom 41 = .ok (.aload_n 1, 1) := by decide +kernel
theorem dX0_copyFrom_42 : decode cX0_copyFrom 42 = .ok (.getfield 46, 3) := by decide +kernel
theorem dX0_copyFrom_45 : decode cX0_copyFrom 45 = .ok (.putfield 46, 3) := by decide +kernel
theorem dX0_copyFrom_48 : decode cX0_copyFrom 48 = .ok (.aload_n 0, 1) := by decide +kernel
theorem dX0_copyFrom_49 : decode cX0_copyFrom 49 = .ok (.aload_n 1, 1) := by decide +kernel
theorem dX0_copyFrom_50 : decode cX0_copyFrom 50 = .ok (.getfield 49, 3) := by decide +kernel
theorem dX0_copyFrom_53 : decode cX0_copyFrom 53 = .ok (.putfield 49, 3) := by decide +kernel
theorem dX0_copyFrom_56 : decode cX0_copyFrom 56 = .ok (.aload_n 0, 1) := by decide +kernel
theorem dX0_copyFrom_57 : decode cX0_copyFrom 57 = .ok (.aload_n 1, 1) := by decide +kernel
theorem dX0_copyFrom_58 : decode cX0_copyFrom 58 = .ok (.getfield 52, 3) := by decide +kernel
theorem dX0_copyFrom_61 : decode cX0_copyFrom 61 = .ok (.putfield 52, 3) := by decide +kernel
theorem dX0_copyFrom_64 : decode cX0_copyFrom 64 = .ok (.aload_n 1, 1) := by decide +kernel
theorem dX0_copyFrom_65 : decode cX0_copyFrom 65 = .ok (.getfield 9, 3) := by decide +kernel
theorem dX0_copyFrom_68 : decode cX0_copyFrom 68 = .ok (.aload_n 0, 1) := by decide +kernel
theorem dX0_copyFrom_69 : decode cX0_copyFrom 69 = .ok (.getfield 9, 3) := by decide +kernel
theorem dX0_copyFrom_72 : decode cX0_copyFrom 72 = .ok (.invokestatic 62, 3) := by decide +kernel
theorem dX0_copyFrom_75 : decode cX0_copyFrom 75 = .ok (.aload_n 1, 1) := by decide +kernel
theorem dX0_copyFrom_76 : decode cX0_copyFrom 76 = .ok (.getfield 15, 3) := by decide +kernel
theorem dX0_copyFrom_79 : decode cX0_copyFrom 79 = .ok (.aload_n 0, 1) := by decide +kernel
theorem dX0_copyFrom_80 : decode cX0_copyFrom 80 = .ok (.getfield 15, 3) := by decide +kernel
theorem dX0_copyFrom_83 : decode cX0_copyFrom 83 = .ok (.invokestatic 62, 3) := by decide +kernel
theorem dX0_copyFrom_86 : decode cX0_copyFrom 86 = .ok (.aload_n 1, 1) := by decide +kernel
theorem dX0_copyFrom_87 : decode cX0_copyFrom 87 = .ok (.getfield 18, 3) := by decide +kernel
theorem dX0_copyFrom_90 : decode cX0_copyFrom 90 = .ok (.aload_n 0, 1) := by decide +kernel
theorem dX0_copyFrom_91 : decode cX0_copyFrom 91 = .ok (.getfield 18, 3) := by decide +kernel
theorem dX0_copyFrom_94 : decode cX0_copyFrom 94 = .ok (.invokestatic 62, 3) := by decide +kernel
theorem dX0_copyFrom_97 : decode cX0_copyFrom 97 = .ok (.aload_n 0, 1) := by decide +kernel
theorem dX0_copyFrom_98 : decode cX0_copyFrom 98 = .ok (.getfield 24, 3) := by decide +kernel
theorem dX0_copyFrom_101 : decode cX0_copyFrom 101 = .ok (.aload_n 1, 1) := by decide +kernel
theorem dX0_copyFrom_102 : decode cX0_copyFrom 102 = .ok (.getfield 24, 3) := by decide +kernel
theorem dX0_copyFrom_105 : decode cX0_copyFrom 105 = .ok (.invokevirtual 66, 3) := by decide +kernel
theorem dX0_copyFrom_108 : decode cX0_copyFrom 108 = .ok (.return_, 1) := by decide +kernel
theorem hyX0_copyFrom : yX0_copyFrom.cls ≠ "java/lang/invoke/MethodHandle" ∧ yX0_copyFrom.cls ≠ "java/lang/invoke/VarHandle" ∧ (parseMethodDescriptor yX0_copyFrom.desc).map (fun d => d.parameters.length) = some 1 := ⟨by decide +kernel, by decide +kernel, by decide +kernel⟩
set_option maxRecDepth 100000 in
set_option maxHeartbeats 4000000 in
theorem wfX0_copyFrom (C : zC p s m args meth c cX0_copyFrom RX0 2 D Ca B En) (hRm : zRm R 3 106 cells slots) (σ : zS) (x0 : Nat) (x1 : Nat) (τ : zS) (hf : fX0_copyFrom σ x0 x1 = some τ) (hq : ∀ (pc : Nat) (lv : List (Nat × Value)), decode cX0_copyFrom pc = .ok (.return_, 1) → zW p l e R s m args below meth c cells slots Q D Ca B 2 τ N pc lv []) : zW p l e R s m args below meth c cells slots Q D Ca B 2 σ N 0 [(0, .ref x0), (1, .ref x1)] [] := by
  unfold fX0_copyFrom at hf
  refine z_aload_n C dX0_copyFrom_0 rfl 0 rfl ?_
  refine z_aload_n C dX0_copyFrom_1 rfl 1 rfl ?_
  obtain ⟨v1, hv1, hf⟩ := zbind hf
  refine gf_RX0_28 C hv1 dX0_copyFrom_2 ?_
  obtain ⟨σ2, hσ2, hf⟩ := zbind hf
  refine gp_RX0_28 C hσ2 dX0_copyFrom_5 ?_
  refine z_aload_n C dX0_copyFrom_8 rfl 0 rfl ?_
  obtain ⟨v3, hv3, hf⟩ := zbind hf
  refine gf_RX0_28 C hv3 dX0_copyFrom_9 ?_
  refine z_if_ne C 16 dX0_copyFrom_12 (by decide) (fun q28 => ?_) (fun q28 => ?_)
  · rw [if_neg q28] at hf
    refine z_aload_n C dX0_copyFrom_16 rfl 0 rfl ?_
    refine z_aload_n C dX0_copyFrom_17 rfl 1 rfl ?_
    obtain ⟨v4, hv4, hf⟩ := zbind hf
    refine gf_RX0_40 C hv4 dX0_copyFrom_18 ?_
    obtain ⟨σ5, hσ5, hf⟩ := zbind hf
    refine gp_RX0_40 C hσ5 dX0_copyFrom_21 ?_
    refine z_aload_n C dX0_copyFrom_24 rfl 0 rfl ?_
    refine z_aload_n C dX0_copyFrom_25 rfl 1 rfl ?_
    obtain ⟨v6, hv6, hf⟩ := zbind hf
    refine gf_RX0_43 C hv6 dX0_copyFrom_26 ?_
    obtain ⟨σ7, hσ7, hf⟩ := zbind hf
    refine gp_RX0_43 C hσ7 dX0_copyFrom_29 ?_
    refine z_aload_n C dX0_copyFrom_32 rfl 0 rfl ?_
    refine z_aload_n C dX0_copyFrom_33 rfl 1 rfl ?_
    obtain ⟨v8, hv8, hf⟩ := zbind hf
    refine gf_RX0_36 C hv8 dX0_copyFrom_34 ?_
    obtain ⟨σ9, hσ9, hf⟩ := zbind hf
    refine gp_RX0_36 C hσ9 dX0_copyFrom_37 ?_
    refine z_aload_n C dX0_copyFrom_40 rfl 0 rfl ?_
    refine z_aload_n C dX0_copyFrom_41 rfl 1 rfl ?_
    obtain ⟨v10, hv10, hf⟩ := zbind hf
    refine gf_RX0_46 C hv10 dX0_copyFrom_42 ?_
    obtain ⟨σ11, hσ11, hf⟩ := zbind hf
    refine gp_RX0_46 C hσ11 dX0_copyFrom_45 ?_
    refine z_aload_n C dX0_copyFrom_48 rfl 0 rfl ?_
    refine z_aload_n C dX0_copyFrom_49 rfl 1 rfl ?_
    obtain ⟨v12, hv12, hf⟩ := zbind hf
    refine gf_RX0_49 C hv12 dX0_copyFrom_50 ?_
    obtain ⟨σ13, hσ13, hf⟩ := zbind hf
    refine gp_RX0_49 C hσ13 dX0_copyFrom_53 ?_
    refine z_aload_n C dX0_copyFrom_56 rfl 0 rfl ?_
    refine z_aload_n C dX0_copyFrom_57 rfl 1 rfl ?_
    obtain ⟨v14, hv14, hf⟩ := zbind hf
    refine gf_RX0_52 C hv14 dX0_copyFrom_58 ?_
    obtain ⟨σ15, hσ15, hf⟩ := zbind hf
    refine gp_RX0_52 C hσ15 dX0_copyFrom_61 ?_
    refine z_aload_n C dX0_copyFrom_64 rfl 1 rfl ?_
    obtain ⟨v16, hv16, hf⟩ := zbind hf
    refine gf_RX0_9 C hv16 dX0_copyFrom_65 ?_
    refine z_aload_n C dX0_copyFrom_68 rfl 0 rfl ?_
    obtain ⟨v17, hv17, hf⟩ := zbind hf
    refine gf_RX0_9 C hv17 dX0_copyFrom_69 ?_
    obtain ⟨c18, hc18, hf⟩ := zbind hf
    refine z_callSNv (host := "BarrierFlow") (As := [.ref v16, .ref v17]) (F0 := 3) (L0 := 106) C (mX9_copyRow l D Ca B En C.2.2.2.2.2.2.2.1 σ15 N v16 v17 _ hc18) hRm kw_297 kw_1 (by decide) kw_296 hyX9_copyRow (Nat.le_of_ble_eq_true rfl) (Nat.le_of_ble_eq_true rfl) rfl rfl (Nat.le_of_ble_eq_true rfl) dX0_copyFrom_72 ?_
    refine z_aload_n C dX0_copyFrom_75 rfl 1 rfl ?_
    obtain ⟨v19, hv19, hf⟩ := zbind hf
    refine gf_RX0_15 C hv19 dX0_copyFrom_76 ?_
    refine z_aload_n C dX0_copyFrom_79 rfl 0 rfl ?_
    obtain ⟨v20, hv20, hf⟩ := zbind hf
    refine gf_RX0_15 C hv20 dX0_copyFrom_80 ?_
    obtain ⟨c21, hc21, hf⟩ := zbind hf
    refine z_callSNv (host := "BarrierFlow") (As := [.ref v19, .ref v20]) (F0 := 3) (L0 := 106) C (mX9_copyRow l D Ca B En C.2.2.2.2.2.2.2.1 c18 N v19 v20 _ hc21) hRm kw_297 kw_1 (by decide) kw_296 hyX9_copyRow (Nat.le_of_ble_eq_true rfl) (Nat.le_of_ble_eq_true rfl) rfl rfl (Nat.le_of_ble_eq_true rfl) dX0_copyFrom_83 ?_
    refine z_aload_n C dX0_copyFrom_86 rfl 1 rfl ?_
    obtain ⟨v22, hv22, hf⟩ := zbind hf
    refine gf_RX0_18 C hv22 dX0_copyFrom_87 ?_
    refine z_aload_n C dX0_copyFrom_90 rfl 0 rfl ?_
    obtain ⟨v23, hv23, hf⟩ := zbind hf
    refine gf_RX0_18 C hv23 dX0_copyFrom_91 ?_
    obtain ⟨c24, hc24, hf⟩ := zbind hf
    refine z_callSNv (host := "BarrierFlow") (As := [.ref v22, .ref v23]) (F0 := 3) (L0 := 106) C (mX9_copyRow l D Ca B En C.2.2.2.2.2.2.2.1 c21 N v22 v23 _ hc24) hRm kw_297 kw_1 (by decide) kw_296 hyX9_copyRow (Nat.le_of_ble_eq_true rfl) (Nat.le_of_ble_eq_true rfl) rfl rfl (Nat.le_of_ble_eq_true rfl) dX0_copyFrom_94 ?_
    refine z_aload_n C dX0_copyFrom_97 rfl 0 rfl ?_
    obtain ⟨v25, hv25, hf⟩ := zbind hf
    refine gf_RX0_24 C hv25 dX0_copyFrom_98 ?_
    refine z_aload_n C dX0_copyFrom_101 rfl 1 rfl ?_
    obtain ⟨v26, hv26, hf⟩ := zbind hf
    refine gf_RX0_24 C hv26 dX0_copyFrom_102 ?_
    obtain ⟨c27, hc27, hf⟩ := zbind hf
    obtain ⟨kc27, hc27⟩ := zck_ok hc27
    refine z_callVv (As := [.ref v26]) (F0 := 3) (L0 := 106) C (mX3_copyFrom l D Ca B En C.2.2.2.2.2.2.2.1 c24 N v25 v26 _ hc27) hRm kc27 rfl kw_597 kw_9 kw_604 kw_595 kw_596 hyX3_copyFrom (Nat.le_of_ble_eq_true rfl) (Nat.le_of_ble_eq_true rfl) rfl rfl (Nat.le_of_ble_eq_true rfl) dX0_copyFrom_105 ?_
    cases hf
    exact hq _ _ dX0_copyFrom_108
  · rw [if_pos q28] at hf
    cases hf
    exact hq _ _ dX0_copyFrom_15

theorem mX0_copyFrom (l : Launch) (D : va_G) (Ca : Nat → ClassId) (B : Nat) (En : State → Prop) (hE : zEk B En) (σ : zS) (N : Nat) (x0 : Nat) (x1 : Nat) (X : zS) (hf : fX0_copyFrom σ x0 x1 = some X) : zMv l D Ca B En yX0_copyFrom cX0_copyFrom 2 (Option.none : Option Jvm.ClassFile.FieldType) 3 106 [.ref x0, .ref x1] σ N X () :=
  zMet_v (own := RX0) hE (by decide +kernel) rfl (Nat.le_of_ble_eq_true rfl) (fun p e s m args below meth c C hr hRm => wfX0_copyFrom C hRm σ x0 x1 X hf (fun pc lv hd => zfin_v (r := ()) C hr hd))
theorem dJ6_bitCount_0f7a4_0 : decode cJ6_bitCount_0f7a4 0 = .ok (.iload_n 0, 1) := by decide +kernel
theorem dJ6_bitCount_0f7a4_1 : decode cJ6_bitCount_0f7a4 1 = .ok (.iload_n 0, 1) := by decide +kernel
theorem dJ6_bitCount_0f7a4_2 : decode cJ6_bitCount_0f7a4 2 = .ok (.iconst 1, 1) := by decide +kernel
theorem dJ6_bitCount_0f7a4_3 : decode cJ6_bitCount_0f7a4 3 = .ok (.iushr, 1) := by decide +kernel
theorem dJ6_bitCount_0f7a4_4 : decode cJ6_bitCount_0f7a4 4 = .ok (.ldc_w 265, 3) := by decide +kernel
theorem dJ6_bitCount_0f7a4_7 : decode cJ6_bitCount_0f7a4 7 = .ok (.iand, 1) := by decide +kernel
theorem dJ6_bitCount_0f7a4_8 : decode cJ6_bitCount_0f7a4 8 = .ok (.isub, 1) := by decide +kernel
theorem dJ6_bitCount_0f7a4_9 : decode cJ6_bitCount_0f7a4 9 = .ok (.istore_n 0, 1) := by decide +kernel
theorem dJ6_bitCount_0f7a4_10 : decode cJ6_bitCount_0f7a4 10 = .ok (.iload_n 0, 1) := by decide +kernel
theorem dJ6_bitCount_0f7a4_11 : decode cJ6_bitCount_0f7a4 11 = .ok (.ldc_w 266, 3) := by decide +kernel
theorem dJ6_bitCount_0f7a4_14 : decode cJ6_bitCount_0f7a4 14 = .ok (.iand, 1) := by decide +kernel
theorem dJ6_bitCount_0f7a4_15 : decode cJ6_bitCount_0f7a4 15 = .ok (.iload_n 0, 1) := by decide +kernel
theorem dJ6_bitCount_0f7a4_16 : decode cJ6_bitCount_0f7a4 16 = .ok (.iconst 2, 1) := by decide +kernel
theorem dJ6_bitCount_0f7a4_17 : decode cJ6_bitCount_0f7a4 17 = .ok (.iushr, 1) := by decide +kernel
theorem dJ6_bitCount_0f7a4_18 : decode cJ6_bitCount_0f7a4 18 = .ok (.ldc_w 266, 3) := by decide +kernel
theorem dJ6_bitCount_0f7a4_21 : decode cJ6_bitCount_0f7a4 21 = .ok (.iand, 1) := by decide +kernel
theorem dJ6_bitCount_0f7a4_22 : decode cJ6_bitCount_0f7a4 22 = .ok (.iadd, 1) := by decide +kernel
theorem dJ6_bitCount_0f7a4_23 : decode cJ6_bitCount_0f7a4 23 = .ok (.istore_n 0, 1) := by decide +kernel
theorem dJ6_bitCount_0f7a4_24 : decode cJ6_bitCount_0f7a4 24 = .ok (.iload_n 0, 1) := by decide +kernel
theorem dJ6_bitCount_0f7a4_25 : decode cJ6_bitCount_0f7a4 25 = .ok (.iload_n 0, 1) := by decide +kernel
theorem dJ6_bitCount_0f7a4_26 : decode cJ6_bitCount_0f7a4 26 = .ok (.iconst 4, 1) := by decide +kernel
theorem dJ6_bitCount_0f7a4_27 : decode cJ6_bitCount_0f7a4 27 = .ok (.iushr, 1) := by decide +kernel
theorem dJ6_bitCount_0f7a4_28 : decode cJ6_bitCount_0f7a4 28 = .ok (.iadd, 1) := by decide +kernel
theorem dJ6_bitCount_0f7a4_29 : decode cJ6_bitCount_0f7a4 29 = .ok (.ldc_w 267, 3) := by decide +kernel
theorem dJ6_bitCount_0f7a4_32 : decode cJ6_bitCount_0f7a4 32 = .ok (.iand, 1) := by decide +kernel
theorem dJ6_bitCount_0f7a4_33 : decode cJ6_bitCount_0f7a4 33 = .ok (.istore_n 0, 1) := by decide +kernel
theorem dJ6_bitCount_0f7a4_34 : decode cJ6_bitCount_0f7a4 34 = .ok (.iload_n 0, 1) := by decide +kernel
theorem dJ6_bitCount_0f7a4_35 : decode cJ6_bitCount_0f7a4 35 = .ok (.iload_n 0, 1) := by decide +kernel
theorem dJ6_bitCount_0f7a4_36 : decode cJ6_bitCount_0f7a4 36 = .ok (.bipush 8, 2) := by decide +kernel
theorem dJ6_bitCount_0f7a4_38 : decode cJ6_bitCount_0f7a4 38 = .ok (.iushr, 1) := by decide +kernel
theorem dJ6_bitCount_0f7a4_39 : decode cJ6_bitCount_0f7a4 39 = .ok (.iadd, 1) := by decide +kernel
theorem dJ6_bitCount_0f7a4_40 : decode cJ6_bitCount_0f7a4 40 = .ok (.istore_n 0, 1) := by decide +kernel
theorem dJ6_bitCount_0f7a4_41 : decode cJ6_bitCount_0f7a4 41 = .ok (.iload_n 0, 1) := by decide +kernel
theorem dJ6_bitCount_0f7a4_42 : decode cJ6_bitCount_0f7a4 42 = .ok (.iload_n 0, 1) := by decide +kernel
theorem dJ6_bitCount_0f7a4_43 : decode cJ6_bitCount_0f7a4 43 = .ok (.bipush 16, 2) := by decide +kernel
theorem dJ6_bitCount_0f7a4_45 : decode cJ6_bitCount_0f7a4 45 = .ok (.iushr, 1) := by decide +kernel
theorem dJ6_bitCount_0f7a4_46 : decode cJ6_bitCount_0f7a4 46 = .ok (.iadd, 1) := by decide +kernel
theorem dJ6_bitCount_0f7a4_47 : decode cJ6_bitCount_0f7a4 47 = .ok (.istore_n 0, 1) := by decide +kernel
theorem dJ6_bitCount_0f7a4_48 : decode cJ6_bitCount_0f7a4 48 = .ok (.iload_n 0, 1) := by decide +kernel
theorem dJ6_bitCount_0f7a4_49 : decode cJ6_bitCount_0f7a4 49 = .ok (.bipush 63, 2) := by decide +kernel
theorem dJ6_bitCount_0f7a4_51 : decode cJ6_bitCount_0f7a4 51 = .ok (.iand, 1) := by decide +kernel
theorem dJ6_bitCount_0f7a4_52 : decode cJ6_bitCount_0f7a4 52 = .ok (.ireturn, 1) := by decide +kernel
theorem hyJ6_bitCount_0f7a4 : yJ6_bitCount_0f7a4.cls ≠ "java/lang/invoke/MethodHandle" ∧ yJ6_bitCount_0f7a4.cls ≠ "java/lang/invoke/VarHandle" ∧ (parseMethodDescriptor yJ6_bitCount_0f7a4.desc).map (fun d => d.parameters.length) = some 1 := ⟨by decide +kernel, by decide +kernel, by decide +kernel⟩
set_option maxRecDepth 100000 in
set_option maxHeartbeats 4000000 in
theorem wfJ6_bitCount_0f7a4 (C : zC p s m args meth c cJ6_bitCount_0f7a4 RJ6 1 D Ca B En) (hRm : zRm R 0 0 cells slots) (σ : zS) (x0 : Int32) (τ : zS) (r : Int32) (hf : fJ6_bitCount_0f7a4 σ x0 = some (τ, r)) (hq : ∀ (pc : Nat) (lv : List (Nat × Value)), decode cJ6_bitCount_0f7a4 pc = .ok (.ireturn, 1) → zW p l e R s m args below meth c cells slots Q D Ca B 1 τ N pc lv [.int r]) : zW p l e R s m args below meth c cells slots Q D Ca B 1 σ N 0 [(0, .int x0)] [] := by
  unfold fJ6_bitCount_0f7a4 at hf
  refine z_iload_n C dJ6_bitCount_0f7a4_0 rfl 0 rfl ?_
  refine z_iload_n C dJ6_bitCount_0f7a4_1 rfl 0 rfl ?_
  refine z_iconst C (zi 1) dJ6_bitCount_0f7a4_2 (by decide) ?_
  refine z_iushr C dJ6_bitCount_0f7a4_3 ?_
  refine z_ldcw C kw_554 (zi 1431655765) (by decide) dJ6_bitCount_0f7a4_4 ?_
  refine z_iand C dJ6_bitCount_0f7a4_7 ?_
  refine z_isub C dJ6_bitCount_0f7a4_8 ?_
  refine z_istore_n (lv2 := [(0, .int (x0 - (((x0.toUInt32 >>> (((zi 1) : Int32).toUInt32 &&& Int32.toUInt32 31)).toInt32) &&& ((zi 1431655765)))))]) C dJ6_bitCount_0f7a4_9 rfl (by decide) rfl ?_
  refine z_iload_n C dJ6_bitCount_0f7a4_10 rfl 0 rfl ?_
  refine z_ldcw C kw_555 (zi 858993459) (by decide) dJ6_bitCount_0f7a4_11 ?_
  refine z_iand C dJ6_bitCount_0f7a4_14 ?_
  refine z_iload_n C dJ6_bitCount_0f7a4_15 rfl 0 rfl ?_
  refine z_iconst C (zi 2) dJ6_bitCount_0f7a4_16 (by decide) ?_
  refine z_iushr C dJ6_bitCount_0f7a4_17 ?_
  refine z_ldcw C kw_555 (zi 858993459) (by decide) dJ6_bitCount_0f7a4_18 ?_
  refine z_iand C dJ6_bitCount_0f7a4_21 ?_
  refine z_iadd C dJ6_bitCount_0f7a4_22 ?_
  refine z_istore_n (lv2 := [(0, .int (((x0 - (((x0.toUInt32 >>> (((zi 1) : Int32).toUInt32 &&& Int32.toUInt32 31)).toInt32) &&& ((zi 1431655765)))) &&& ((zi 858993459))) + ((((x0 - (((x0.toUInt32 >>> (((zi 1) : Int32).toUInt32 &&& Int32.toUInt32 31)).toInt32) &&& ((zi 1431655765))) : Int32).toUInt32 >>> (((zi 2) : Int32).toUInt32 &&& Int32.toUInt32 31)).toInt32) &&& ((zi 858993459)))))]) C dJ6_bitCount_0f7a4_23 rfl (by decide) rfl ?_
  refine z_iload_n C dJ6_bitCount_0f7a4_24 rfl 0 rfl ?_
  refine z_iload_n C dJ6_bitCount_0f7a4_25 rfl 0 rfl ?_
  refine z_iconst C (zi 4) dJ6_bitCount_0f7a4_26 (by decide) ?_
  refine z_iushr C dJ6_bitCount_0f7a4_27 ?_
  refine z_iadd C dJ6_bitCount_0f7a4_28 ?_
  refine z_ldcw C kw_556 (zi 252645135) (by decide) dJ6_bitCount_0f7a4_29 ?_
  refine z_iand C dJ6_bitCount_0f7a4_32 ?_
  refine z_istore_n (lv2 := [(0, .int (((((x0 - (((x0.toUInt32 >>> (((zi 1) : Int32).toUInt32 &&& Int32.toUInt32 31)).toInt32) &&& ((zi 1431655765)))) &&& ((zi 858993459))) + ((((x0 - (((x0.toUInt32 >>> (((zi 1) : Int32).toUInt32 &&& Int32.toUInt32 31)).toInt32) &&& ((zi 1431655765))) : Int32).toUInt32 >>> (((zi 2) : Int32).toUInt32 &&& Int32.toUInt32 31)).toInt32) &&& ((zi 858993459)))) + (((((x0 - (((x0.toUInt32 >>> (((zi 1) : Int32).toUInt32 &&& Int32.toUInt32 31)).toInt32) &&& ((zi 1431655765)))) &&& ((zi 858993459))) + ((((x0 - (((x0.toUInt32 >>> (((zi 1) : Int32).toUInt32 &&& Int32.toUInt32 31)).toInt32) &&& ((zi 1431655765))) : Int32).toUInt32 >>> (((zi 2) : Int32).toUInt32 &&& Int32.toUInt32 31)).toInt32) &&& ((zi 858993459))) : Int32).toUInt32 >>> (((zi 4) : Int32).toUInt32 &&& Int32.toUInt32 31)).toInt32)) &&& ((zi 252645135))))]) C dJ6_bitCount_0f7a4_33 rfl (by decide) rfl ?_
  refine z_iload_n C dJ6_bitCount_0f7a4_34 rfl 0 rfl ?_
  refine z_iload_n C dJ6_bitCount_0f7a4_35 rfl 0 rfl ?_
  refine z_bipush C (zi 8) dJ6_bitCount_0f7a4_36 (by decide) ?_
  refine z_iushr C dJ6_bitCount_0f7a4_38 ?_
  refine z_iadd C dJ6_bitCount_0f7a4_39 ?_
  refine z_istore_n (lv2 := [(0, .int ((((((x0 - (((x0.toUInt32 >>> (((zi 1) : Int32).toUInt32 &&& Int32.toUInt32 31)).toInt32) &&& ((zi 1431655765)))) &&& ((zi 858993459))) + ((((x0 - (((x0.toUInt32 >>> (((zi 1) : Int32).toUInt32 &&& Int32.toUInt32 31)).toInt32) &&& ((zi 1431655765))) : Int32).toUInt32 >>> (((zi 2) : Int32).toUInt32 &&& Int32.toUInt32 31)).toInt32) &&& ((zi 858993459)))) + (((((x0 - (((x0.toUInt32 >>> (((zi 1) : Int32).toUInt32 &&& Int32.toUInt32 31)).toInt32) &&& ((zi 1431655765)))) &&& ((zi 858993459))) + ((((x0 - (((x0.toUInt32 >>> (((zi 1) : Int32).toUInt32 &&& Int32.toUInt32 31)).toInt32) &&& ((zi 1431655765))) : Int32).toUInt32 >>> (((zi 2) : Int32).toUInt32 &&& Int32.toUInt32 31)).toInt32) &&& ((zi 858993459))) : Int32).toUInt32 >>> (((zi 4) : Int32).toUInt32 &&& Int32.toUInt32 31)).toInt32)) &&& ((zi 252645135))) + (((((((x0 - (((x0.toUInt32 >>> (((zi 1) : Int32).toUInt32 &&& Int32.toUInt32 31)).toInt32) &&& ((zi 1431655765)))) &&& ((zi 858993459))) + ((((x0 - (((x0.toUInt32 >>> (((zi 1) : Int32).toUInt32 &&& Int32.toUInt32 31)).toInt32) &&& ((zi 1431655765))) : Int32).toUInt32 >>> (((zi 2) : Int32).toUInt32 &&& Int32.toUInt32 31)).toInt32) &&& ((zi 858993459)))) + (((((x0 - (((x0.toUInt32 >>> (((zi 1) : Int32).toUInt32 &&& Int32.toUInt32 31)).toInt32) &&& ((zi 1431655765)))) &&& ((zi 858993459))) + ((((x0 - (((x0.toUInt32 >>> (((zi 1) : Int32).toUInt32 &&& Int32.toUInt32 31)).toInt32) &&& ((zi 1431655765))) : Int32).toUInt32 >>> (((zi 2) : Int32).toUInt32 &&& Int32.toUInt32 31)).toInt32) &&& ((zi 858993459))) : Int32).toUInt32 >>> (((zi 4) : Int32).toUInt32 &&& Int32.toUInt32 31)).toInt32)) &&& ((zi 252645135)) : Int32).toUInt32 >>> (((zi 8) : Int32).toUInt32 &&& Int32.toUInt32 31)).toInt32)))]) C dJ6_bitCount_0f7a4_40 rfl (by decide) rfl ?_
  refine z_iload_n C dJ6_bitCount_0f7a4_41 rfl 0 rfl ?_
  refine z_iload_n C dJ6_bitCount_0f7a4_42 rfl 0 rfl ?_
  refine z_bipush C (zi 16) dJ6_bitCount_0f7a4_43 (by decide) ?_
  refine z_iushr C dJ6_bitCount_0f7a4_45 ?_
  refine z_iadd C dJ6_bitCount_0f7a4_46 ?_
  refine z_istore_n (lv2 := [(0, .int (((((((x0 - (((x0.toUInt32 >>> (((zi 1) : Int32).toUInt32 &&& Int32.toUInt32 31)).toInt32) &&& ((zi 1431655765)))) &&& ((zi 858993459))) + ((((x0 - (((x0.toUInt32 >>> (((zi 1) : Int32).toUInt32 &&& Int32.toUInt32 31)).toInt32) &&& ((zi 1431655765))) : Int32).toUInt32 >>> (((zi 2) : Int32).toUInt32 &&& Int32.toUInt32 31)).toInt32) &&& ((zi 858993459)))) + (((((x0 - (((x0.toUInt32 >>> (((zi 1) : Int32).toUInt32 &&& Int32.toUInt32 31)).toInt32) &&& ((zi 1431655765)))) &&& ((zi 858993459))) + ((((x0 - (((x0.toUInt32 >>> (((zi 1) : Int32).toUInt32 &&& Int32.toUInt32 31)).toInt32) &&& ((zi 1431655765))) : Int32).toUInt32 >>> (((zi 2) : Int32).toUInt32 &&& Int32.toUInt32 31)).toInt32) &&& ((zi 858993459))) : Int32).toUInt32 >>> (((zi 4) : Int32).toUInt32 &&& Int32.toUInt32 31)).toInt32)) &&& ((zi 252645135))) + (((((((x0 - (((x0.toUInt32 >>> (((zi 1) : Int32).toUInt32 &&& Int32.toUInt32 31)).toInt32) &&& ((zi 1431655765)))) &&& ((zi 858993459))) + ((((x0 - (((x0.toUInt32 >>> (((zi 1) : Int32).toUInt32 &&& Int32.toUInt32 31)).toInt32) &&& ((zi 1431655765))) : Int32).toUInt32 >>> (((zi 2) : Int32).toUInt32 &&& Int32.toUInt32 31)).toInt32) &&& ((zi 858993459)))) + (((((x0 - (((x0.toUInt32 >>> (((zi 1) : Int32).toUInt32 &&& Int32.toUInt32 31)).toInt32) &&& ((zi 1431655765)))) &&& ((zi 858993459))) + ((((x0 - (((x0.toUInt32 >>> (((zi 1) : Int32).toUInt32 &&& Int32.toUInt32 31)).toInt32) &&& ((zi 1431655765))) : Int32).toUInt32 >>> (((zi 2) : Int32).toUInt32 &&& Int32.toUInt32 31)).toInt32) &&& ((zi 858993459))) : Int32).toUInt32 >>> (((zi 4) : Int32).toUInt32 &&& Int32.toUInt32 31)).toInt32)) &&& ((zi 252645135)) : Int32).toUInt32 >>> (((zi 8) : Int32).toUInt32 &&& Int32.toUInt32 31)).toInt32)) + ((((((((x0 - (((x0.toUInt32 >>> (((zi 1) : Int32).toUInt32 &&& Int32.toUInt32 31)).toInt32) &&& ((zi 1431655765)))) &&& ((zi 858993459))) + ((((x0 - (((x0.toUInt32 >>> (((zi 1) : Int32).toUInt32 &&& Int32.toUInt32 31)).toInt32) &&& ((zi 1431655765))) : Int32).toUInt32 >>> (((zi 2) : Int32).toUInt32 &&& Int32.toUInt32 31)).toInt32) &&& ((zi 858993459)))) + (((((x0 - (((x0.toUInt32 >>> (((zi 1) : Int32).toUInt32 &&& Int32.toUInt32 31)).toInt32) &&& ((zi 1431655765)))) &&& ((zi 858993459))) + ((((x0 - (((x0.toUInt32 >>> (((zi 1) : Int32).toUInt32 &&& Int32.toUInt32 31)).toInt32) &&& ((zi 1431655765))) : Int32).toUInt32 >>> (((zi 2) : Int32).toUInt32 &&& Int32.toUInt32 31)).toInt32) &&& ((zi 858993459))) : Int32).toUInt32 >>> (((zi 4) : Int32).toUInt32 &&& Int32.toUInt32 31)).toInt32)) &&& ((zi 252645135))) + (((((((x0 - (((x0.toUInt32 >>> (((zi 1) : Int32).toUInt32 &&& Int32.toUInt32 31)).toInt32) &&& ((zi 1431655765)))) &&& ((zi 858993459))) + ((((x0 - (((x0.toUInt32 >>> (((zi 1) : Int32).toUInt32 &&& Int32.toUInt32 31)).toInt32) &&& ((zi 1431655765))) : Int32).toUInt32 >>> (((zi 2) : Int32).toUInt32 &&& Int32.toUInt32 31)).toInt32) &&& ((zi 858993459)))) + (((((x0 - (((x0.toUInt32 >>> (((zi 1) : Int32).toUInt32 &&& Int32.toUInt32 31)).toInt32) &&& ((zi 1431655765)))) &&& ((zi 858993459))) + ((((x0 - (((x0.toUInt32 >>> (((zi 1) : Int32).toUInt32 &&& Int32.toUInt32 31)).toInt32) &&& ((zi 1431655765))) : Int32).toUInt32 >>> (((zi 2) : Int32).toUInt32 &&& Int32.toUInt32 31)).toInt32) &&& ((zi 858993459))) : Int32).toUInt32 >>> (((zi 4) : Int32).toUInt32 &&& Int32.toUInt32 31)).toInt32)) &&& ((zi 252645135)) : Int32).toUInt32 >>> (((zi 8) : Int32).toUInt32 &&& Int32.toUInt32 31)).toInt32) : Int32).toUInt32 >>> (((zi 16) : Int32).toUInt32 &&& Int32.toUInt32 31)).toInt32)))]) C dJ6_bitCount_0f7a4_47 rfl (by decide) rfl ?_
  refine z_iload_n C dJ6_bitCount_0f7a4_48 rfl 0 rfl ?_
  refine z_bipush C (zi 63) dJ6_bitCount_0f7a4_49 (by decide) ?_
  refine z_iand C dJ6_bitCount_0f7a4_51 ?_
  cases hf
  exact hq _ _ dJ6_bitCount_0f7a4_52

theorem mJ6_bitCount_0f7a4 (l : Launch) (D : va_G) (Ca : Nat → ClassId) (B : Nat) (En : State → Prop) (hE : zEk B En) (σ : zS) (N : Nat) (x0 : Int32) (X : zS × Int32) (hf : fJ6_bitCount_0f7a4 σ x0 = some X) : zMi l D Ca B En yJ6_bitCount_0f7a4 cJ6_bitCount_0f7a4 1 (Option.some Jvm.ClassFile.FieldType.int) 0 0 [.int x0] σ N X.1 X.2 :=
  zMet_i (own := RJ6) hE (by decide +kernel) rfl (Nat.le_of_ble_eq_true rfl) (fun p e s m args below meth c C hr hRm => wfJ6_bitCount_0f7a4 C hRm σ x0 X.1 X.2 hf (fun pc lv hd => zfin_i C hr hd))
theorem dX0_arrivedFrom_0 : decode cX0_arrivedFrom 0 = .ok (.iconst 0, 1) := by decide +kernel
theorem dX0_arrivedFrom_1 : decode cX0_arrivedFrom 1 = .ok (.istore_n 3, 1) := by decide +kernel
theorem dX0_arrivedFrom_2 : decode cX0_arrivedFrom 2 = .ok (.iload_n 1, 1) := by decide +kernel
theorem dX0_arrivedFrom_3 : decode cX0_arrivedFrom 3 = .ok (.istore 4, 2) := by decide +kernel
theorem dX0_arrivedFrom_5 : decode cX0_arrivedFrom 5 = .ok (.iload 4, 2) := by decide +kernel
theorem dX0_arrivedFrom_7 : decode cX0_arrivedFrom 7 = .ok (.iload_n 2, 1) := by decide +kernel
theorem dX0_arrivedFrom_8 : decode cX0_arrivedFrom 8 = .ok (.if_icmp .ge 29, 3) := by decide +kernel
theorem dX0_arrivedFrom_11 : decode cX0_arrivedFrom 11 = .ok (.iload 4, 2) := by decide +kernel
theorem dX0_arrivedFrom_13 : decode cX0_arrivedFrom 13 = .ok (.bipush 6, 2) := by decide +kernel
theorem dX0_arrivedFrom_15 : decode cX0_arrivedFrom 15 = .ok (.if_icmp .ge 22, 3) := by decide +kernel
theorem dX0_arrivedFrom_18 : decode cX0_arrivedFrom 18 = .ok (.iload_n 3, 1) := by decide +kernel
theorem dX0_arrivedFrom_19 : decode cX0_arrivedFrom 19 = .ok (.aload_n 0, 1) := by decide +kernel
theorem dX0_arrivedFrom_20 : decode cX0_arrivedFrom 20 = .ok (.getfield 9, 3) := by decide +kernel
theorem dX0_arrivedFrom_23 : decode cX0_arrivedFrom 23 = .ok (.iload 4, 2) := by decide +kernel
theorem dX0_arrivedFrom_25 : decode cX0_arrivedFrom 25 = .ok (.iaload, 1) := by decide +kernel
theorem dX0_arrivedFrom_26 : decode cX0_arrivedFrom 26 = .ok (.invokestatic 70, 3) := by decide +kernel
theorem dX0_arrivedFrom_29 : decode cX0_arrivedFrom 29 = .ok (.iadd, 1) := by decide +kernel
theorem dX0_arrivedFrom_30 : decode cX0_arrivedFrom 30 = .ok (.istore_n 3, 1) := by decide +kernel
theorem dX0_arrivedFrom_31 : decode cX0_arrivedFrom 31 = .ok (.iinc 4 1, 3) := by decide +kernel
theorem dX0_arrivedFrom_34 : decode cX0_arrivedFrom 34 = .ok (.goto (-29), 3) := by decide +kernel
theorem dX0_arrivedFrom_37 : decode cX0_arrivedFrom 37 = .ok (.iload_n 3, 1) := by decide +kernel
theorem dX0_arrivedFrom_38 : decode cX0_arrivedFrom 38 = .ok (.ireturn, 1) := by decide +kernel
theorem hyX0_arrivedFrom : yX0_arrivedFrom.cls ≠ "java/lang/invoke/MethodHandle" ∧ yX0_arrivedFrom.cls ≠ "java/lang/invoke/VarHandle" ∧ (parseMethodDescriptor yX0_arrivedFrom.desc).map (fun d => d.parameters.length) = some 2 := ⟨by decide +kernel, by decide +kernel, by decide +kernel⟩
set_option maxRecDepth 100000 in
set_option maxHeartbeats 4000000 in
theorem wsX0_arrivedFrom_5b (C : zC p s m args meth c cX0_arrivedFrom RX0 5 D Ca B En) (hRm : zRm R 1 20 cells slots) (x0 : Nat) (x2 : Int32) (σ : zS) (u3 : Int32) (u4 : Int32) (y : (zS × Int32 × Int32) ⊕ (zS × Int32)) (hf : sX0_arrivedFrom_5b x0 x2 σ u3 u4 = some y) (hk : (∀ z : (zS × Int32 × Int32), y = .inl z → zW p l e R s m args below meth c cells slots Q D Ca B 5 z.1 N 5 [(0, .ref x0), (2, .int x2), (3, .int z.2.1), (4, .int z.2.2)] []) ∧ (∀ z : (zS × Int32), y = .inr z → zW p l e R s m args below meth c cells slots Q D Ca B 5 z.1 N 37 [(3, .int z.2)] [])) : zW p l e R s m args below meth c cells slots Q D Ca B 5 σ N 5 [(0, .ref x0), (2, .int x2), (3, .int u3), (4, .int u4)] [] := by
  unfold sX0_arrivedFrom_5b at hf
  refine z_iload C dX0_arrivedFrom_5 3 rfl ?_
  refine z_iload_n C dX0_arrivedFrom_7 rfl 1 rfl ?_
  refine z_icmp_ge C 37 dX0_arrivedFrom_8 (by decide) (fun q5 => ?_) (fun q5 => ?_)
  · rw [if_pos q5] at hf
    cases hf
    refine z_sub [2] rfl ?_
    exact hk.2 _ rfl
  · rw [if_neg q5] at hf
    refine z_iload C dX0_arrivedFrom_11 3 rfl ?_
    refine z_bipush C (zi 6) dX0_arrivedFrom_13 (by decide) ?_
    refine z_icmp_ge C 37 dX0_arrivedFrom_15 (by decide) (fun q4 => ?_) (fun q4 => ?_)
    · rw [if_pos q4] at hf
      cases hf
      refine z_sub [2] rfl ?_
      exact hk.2 _ rfl
    · rw [if_neg q4] at hf
      refine z_iload_n C dX0_arrivedFrom_18 rfl 2 rfl ?_
      refine z_aload_n C dX0_arrivedFrom_19 rfl 0 rfl ?_
      obtain ⟨v1, hv1, hf⟩ := zbind hf
      refine gf_RX0_9 C hv1 dX0_arrivedFrom_20 ?_
      refine z_iload C dX0_arrivedFrom_23 3 rfl ?_
      obtain ⟨v2, hv2, hf⟩ := zbind hf
      refine z_aI C hv2 dX0_arrivedFrom_25 ?_
      obtain ⟨c3, hc3, hf⟩ := zbind hf
      refine z_callSi (As := [.int v2]) (F0 := 1) (L0 := 20) C (mJ6_bitCount_0f7a4 l D Ca B En C.2.2.2.2.2.2.2.1 σ N v2 _ hc3) hRm kw_553 kw_23 kw_561 kw_552 hyJ6_bitCount_0f7a4 (Nat.le_of_ble_eq_true rfl) (Nat.le_of_ble_eq_true rfl) rfl rfl (Nat.le_of_ble_eq_true rfl) dX0_arrivedFrom_26 ?_
      refine z_iadd C dX0_arrivedFrom_29 ?_
      refine z_istore_n (lv2 := [(3, .int (u3 + c3.2)), (0, .ref x0), (2, .int x2), (4, .int u4)]) C dX0_arrivedFrom_30 rfl (by decide) rfl ?_
      refine z_iinc (lv2 := [(4, .int (u4 + (zi 1))), (3, .int (u3 + c3.2)), (0, .ref x0), (2, .int x2)]) C (u4 + (zi 1)) dX0_arrivedFrom_31 3 rfl rfl (by decide) rfl ?_
      refine z_goto C 5 dX0_arrivedFrom_34 (by decide) ?_
      cases hf
      refine z_sub [2, 3, 1, 0] rfl ?_
      exact hk.1 _ rfl

theorem wsX0_arrivedFrom_5 (C : zC p s m args meth c cX0_arrivedFrom RX0 5 D Ca B En) (hRm : zRm R 1 20 cells slots) (x0 : Nat) (x2 : Int32) (n : Nat) (z : (zS × Int32 × Int32)) (x : (zS × Int32)) (hf : zloop (sX0_arrivedFrom_5 x0 x2) n z = some x) (hk : (∀ o : (zS × Int32), x = o → zW p l e R s m args below meth c cells slots Q D Ca B 5 o.1 N 37 [(3, .int o.2)] [])) : zW p l e R s m args below meth c cells slots Q D Ca B 5 z.1 N 5 [(0, .ref x0), (2, .int x2), (3, .int z.2.1), (4, .int z.2.2)] [] := by
  refine zloop_W (P := fun z : (zS × Int32 × Int32) => zW p l e R s m args below meth c cells slots Q D Ca B 5 z.1 N 5 [(0, .ref x0), (2, .int x2), (3, .int z.2.1), (4, .int z.2.2)] []) (K := fun x : (zS × Int32) => (∀ o : (zS × Int32), x = o → zW p l e R s m args below meth c cells slots Q D Ca B 5 o.1 N 37 [(3, .int o.2)] [])) ?_ n z x hf hk
  intro z y hy h1 h2
  refine wsX0_arrivedFrom_5b C hRm x0 x2 z.1 z.2.1 z.2.2 y hy ⟨fun z2 e => h1 z2 e, fun o e => (h2 _ e) o rfl⟩
set_option maxRecDepth 100000 in
set_option maxHeartbeats 4000000 in
theorem wfX0_arrivedFrom (C : zC p s m args meth c cX0_arrivedFrom RX0 5 D Ca B En) (hRm : zRm R 1 20 cells slots) (σ : zS) (x0 : Nat) (x1 : Int32) (x2 : Int32) (τ : zS) (r : Int32) (hf : fX0_arrivedFrom σ x0 x1 x2 = some (τ, r)) (hq : ∀ (pc : Nat) (lv : List (Nat × Value)), decode cX0_arrivedFrom pc = .ok (.ireturn, 1) → zW p l e R s m args below meth c cells slots Q D Ca B 5 τ N pc lv [.int r]) : zW p l e R s m args below meth c cells slots Q D Ca B 5 σ N 0 [(0, .ref x0), (1, .int x1), (2, .int x2)] [] := by
  unfold fX0_arrivedFrom at hf
  refine z_iconst C (zi 0) dX0_arrivedFrom_0 (by decide) ?_
  refine z_istore_n (lv2 := [(3, .int ((zi 0))), (0, .ref x0), (1, .int x1), (2, .int x2)]) C dX0_arrivedFrom_1 rfl (by decide) rfl ?_
  refine z_iload_n C dX0_arrivedFrom_2 rfl 2 rfl ?_
  refine z_istore (lv2 := [(4, .int x1), (3, .int ((zi 0))), (0, .ref x0), (1, .int x1), (2, .int x2)]) C dX0_arrivedFrom_3 (by decide) rfl ?_
  obtain ⟨o6, ho6, hf⟩ := zbind hf
  refine z_sub [2, 4, 1, 0] rfl ?_
  refine wsX0_arrivedFrom_5 C hRm _ _ zfuel (σ, (zi 0), x1) o6 ho6 ?_
  intro z9 e9
  subst e9
  refine z_iload_n C dX0_arrivedFrom_37 rfl 0 rfl ?_
  cases hf
  exact hq _ _ dX0_arrivedFrom_38

theorem mX0_arrivedFrom (l : Launch) (D : va_G) (Ca : Nat → ClassId) (B : Nat) (En : State → Prop) (hE : zEk B En) (σ : zS) (N : Nat) (x0 : Nat) (x1 : Int32) (x2 : Int32) (X : zS × Int32) (hf : fX0_arrivedFrom σ x0 x1 x2 = some X) : zMi l D Ca B En yX0_arrivedFrom cX0_arrivedFrom 5 (Option.some Jvm.ClassFile.FieldType.int) 1 20 [.ref x0, .int x1, .int x2] σ N X.1 X.2 :=
  zMet_i (own := RX0) hE (by decide +kernel) rfl (Nat.le_of_ble_eq_true rfl) (fun p e s m args below meth c C hr hRm => wfX0_arrivedFrom C hRm σ x0 x1 x2 X.1 X.2 hf (fun pc lv hd => zfin_i C hr hd))
theorem dX0_hasPut_0 : decode cX0_hasPut 0 = .ok (.aload_n 0, 1) := by decide +kernel
theorem dX0_hasPut_1 : decode cX0_hasPut 1 = .ok (.getfield 49, 3) := by decide +kernel
theorem dX0_hasPut_4 : decode cX0_hasPut 4 = .ok (.iload_n 1, 1) := by decide +kernel
theorem dX0_hasPut_5 : decode cX0_hasPut 5 = .ok (.ishr, 1) := by decide +kernel
theorem dX0_hasPut_6 : decode cX0_hasPut 6 = .ok (.iconst 1, 1) := by decide +kernel
theorem dX0_hasPut_7 : decode cX0_hasPut 7 = .ok (.iand, 1) := by decide +kernel
theorem dX0_hasPut_8 : decode cX0_hasPut 8 = .ok (.iconst 1, 1) := by decide +kernel
theorem dX0_hasPut_9 : decode cX0_hasPut 9 = .ok (.if_icmp .ne 7, 3) := by decide +kernel
theorem dX0_hasPut_12 : decode cX0_hasPut 12 = .ok (.iconst 1, 1) := by decide +kernel
theorem dX0_hasPut_13 : decode cX0_hasPut 13 = .ok (.goto 4, 3) := by decide +kernel
theorem dX0_hasPut_16 : decode cX0_hasPut 16 = .ok (.iconst 0, 1) := by decide +kernel
theorem dX0_hasPut_17 : decode cX0_hasPut 17 = .ok (.ireturn, 1) := by decide +kernel
theorem hyX0_hasPut : yX0_hasPut.cls ≠ "java/lang/invoke/MethodHandle" ∧ yX0_hasPut.cls ≠ "java/lang/invoke/VarHandle" ∧ (parseMethodDescriptor yX0_hasPut.desc).map (fun d => d.parameters.length) = some 1 := ⟨by decide +kernel, by decide +kernel, by decide +kernel⟩
set_option maxRecDepth 100000 in
set_option maxHeartbeats 4000000 in
theorem wfX0_hasPut (C : zC p s m args meth c cX0_hasPut RX0 2 D Ca B En) (hRm : zRm R 0 0 cells slots) (σ : zS) (x0 : Nat) (x1 : Int32) (τ : zS) (r : Int32) (hf : fX0_hasPut σ x0 x1 = some (τ, r)) (hq : ∀ (pc : Nat) (lv : List (Nat × Value)), (r = 0 ∨ r = 1) → decode cX0_hasPut pc = .ok (.ireturn, 1) → zW p l e R s m args below meth c cells slots Q D Ca B 2 τ N pc lv [.int r]) : zW p l e R s m args below meth c cells slots Q D Ca B 2 σ N 0 [(0, .ref x0), (1, .int x1)] [] := by
  unfold fX0_hasPut at hf
  refine z_aload_n C dX0_hasPut_0 rfl 0 rfl ?_
  obtain ⟨v1, hv1, hf⟩ := zbind hf
  refine gf_RX0_49 C hv1 dX0_hasPut_1 ?_
  refine z_iload_n C dX0_hasPut_4 rfl 1 rfl ?_
  refine z_ishr C dX0_hasPut_5 ?_
  refine z_iconst C (zi 1) dX0_hasPut_6 (by decide) ?_
  refine z_iand C dX0_hasPut_7 ?_
  refine z_iconst C (zi 1) dX0_hasPut_8 (by decide) ?_
  refine z_icmp_ne C 16 dX0_hasPut_9 (by decide) (fun q2 => ?_) (fun q2 => ?_)
  · rw [if_neg q2] at hf
    refine z_iconst C (zi 0) dX0_hasPut_16 (by decide) ?_
    obtain ⟨e9, b9⟩ := zrZ_ok hf
    cases e9
    exact hq _ _ b9 dX0_hasPut_17
  · rw [if_pos q2] at hf
    refine z_iconst C (zi 1) dX0_hasPut_12 (by decide) ?_
    refine z_goto C 17 dX0_hasPut_13 (by decide) ?_
    obtain ⟨e9, b9⟩ := zrZ_ok hf
    cases e9
    exact hq _ _ b9 dX0_hasPut_17

theorem mX0_hasPut (l : Launch) (D : va_G) (Ca : Nat → ClassId) (B : Nat) (En : State → Prop) (hE : zEk B En) (σ : zS) (N : Nat) (x0 : Nat) (x1 : Int32) (X : zS × Int32) (hf : fX0_hasPut σ x0 x1 = some X) : zMi l D Ca B En yX0_hasPut cX0_hasPut 2 (Option.some Jvm.ClassFile.FieldType.boolean) 0 0 [.ref x0, .int x1] σ N X.1 X.2 :=
  zMet_i (own := RX0) hE (by decide +kernel) rfl (Nat.le_of_ble_eq_true rfl) (fun p e s m args below meth c C hr hRm => wfX0_hasPut C hRm σ x0 x1 X.1 X.2 hf (fun pc lv hb hd => zfin_z C hb hr hd))
theorem dX0_isOnlyBehind_0 : decode cX0_isOnlyBehind 0 = .ok (.aload_n 0, 1) := by decide +kernel
theorem dX0_isOnlyBehind_1 : decode cX0_isOnlyBehind 1 = .ok (.getfield 9, 3) := by decide +kernel
theorem dX0_isOnlyBehind_4 : decode cX0_isOnlyBehind 4 = .ok (.iload_n 1, 1) := by decide +kernel
theorem dX0_isOnlyBehind_5 : decode cX0_isOnlyBehind 5 = .ok (.iaload, 1) := by decide +kernel
theorem dX0_isOnlyBehind_6 : decode cX0_isOnlyBehind 6 = .ok (.ifCond .eq 20, 3) := by decide +kernel
theorem dX0_isOnlyBehind_9 : decode cX0_isOnlyBehind 9 = .ok (.aload_n 0, 1) := by decide +kernel
theorem dX0_isOnlyBehind_10 : decode cX0_isOnlyBehind 10 = .ok (.getfield 9, 3) := by decide +kernel
theorem dX0_isOnlyBehind_13 : decode cX0_isOnlyBehind 13 = .ok (.iload_n 1, 1) := by decide +kernel
theorem dX0_isOnlyBehind_14 : decode cX0_isOnlyBehind 14 = .ok (.iaload, 1) := by decide +kernel
theorem dX0_isOnlyBehind_15 : decode cX0_isOnlyBehind 15 = .ok (.iload_n 2, 1) := by decide +kernel
theorem dX0_isOnlyBehind_16 : decode cX0_isOnlyBehind 16 = .ok (.ishr, 1) := by decide +kernel
theorem dX0_isOnlyBehind_17 : decode cX0_isOnlyBehind 17 = .ok (.iconst 1, 1) := by decide +kernel
theorem dX0_isOnlyBehind_18 : decode cX0_isOnlyBehind 18 = .ok (.iand, 1) := by decide +kernel
theorem dX0_isOnlyBehind_19 : decode cX0_isOnlyBehind 19 = .ok (.ifCond .ne 7, 3) := by decide +kernel
theorem dX0_isOnlyBehind_22 : decode cX0_isOnlyBehind 22 = .ok (.iconst 1, 1) := by decide +kernel
theorem dX0_isOnlyBehind_23 : decode cX0_isOnlyBehind 23 = .ok (.goto 4, 3) := by decide +kernel
theorem dX0_isOnlyBehind_26 : decode cX0_isOnlyBehind 26 = .ok (.iconst 0, 1) := by decide +kernel
theorem dX0_isOnlyBehind_27 : decode cX0_isOnlyBehind 27 = .ok (.ireturn, 1) := by decide +kernel
theorem hyX0_isOnlyBehind : yX0_isOnlyBehind.cls ≠ "java/lang/invoke/MethodHandle" ∧ yX0_isOnlyBehind.cls ≠ "java/lang/invoke/VarHandle" ∧ (parseMethodDescriptor yX0_isOnlyBehind.desc).map (fun d => d.parameters.length) = some 2 := ⟨by decide +kernel, by decide +kernel, by decide +kernel⟩
set_option maxRecDepth 100000 in
set_option maxHeartbeats 4000000 in
theorem wfX0_isOnlyBehind (C : zC p s m args meth c cX0_isOnlyBehind RX0 3 D Ca B En) (hRm : zRm R 0 0 cells slots) (σ : zS) (x0 : Nat) (x1 : Int32) (x2 : Int32) (τ : zS) (r : Int32) (hf : fX0_isOnlyBehind σ x0 x1 x2 = some (τ, r)) (hq : ∀ (pc : Nat) (lv : List (Nat × Value)), (r = 0 ∨ r = 1) → decode cX0_isOnlyBehind pc = .ok (.ireturn, 1) → zW p l e R s m args below meth c cells slots Q D Ca B 3 τ N pc lv [.int r]) : zW p l e R s m args below meth c cells slots Q D Ca B 3 σ N 0 [(0, .ref x0), (1, .int x1), (2, .int x2)] [] := by
  unfold fX0_isOnlyBehind at hf
  refine z_aload_n C dX0_isOnlyBehind_0 rfl 0 rfl ?_
  obtain ⟨v1, hv1, hf⟩ := zbind hf
  refine gf_RX0_9 C hv1 dX0_isOnlyBehind_1 ?_
  refine z_iload_n C dX0_isOnlyBehind_4 rfl 1 rfl ?_
  obtain ⟨v2, hv2, hf⟩ := zbind hf
  refine z_aI C hv2 dX0_isOnlyBehind_5 ?_
  refine z_if_eq C 26 dX0_isOnlyBehind_6 (by decide) (fun q6 => ?_) (fun q6 => ?_)
  · rw [if_pos q6] at hf
    refine z_iconst C (zi 0) dX0_isOnlyBehind_26 (by decide) ?_
    obtain ⟨e9, b9⟩ := zrZ_ok hf
    cases e9
    exact hq _ _ b9 dX0_isOnlyBehind_27
  · rw [if_neg q6] at hf
    refine z_aload_n C dX0_isOnlyBehind_9 rfl 0 rfl ?_
    obtain ⟨v3, hv3, hf⟩ := zbind hf
    refine gf_RX0_9 C hv3 dX0_isOnlyBehind_10 ?_
    refine z_iload_n C dX0_isOnlyBehind_13 rfl 1 rfl ?_
    obtain ⟨v4, hv4, hf⟩ := zbind hf
    refine z_aI C hv4 dX0_isOnlyBehind_14 ?_
    refine z_iload_n C dX0_isOnlyBehind_15 rfl 2 rfl ?_
    refine z_ishr C dX0_isOnlyBehind_16 ?_
    refine z_iconst C (zi 1) dX0_isOnlyBehind_17 (by decide) ?_
    refine z_iand C dX0_isOnlyBehind_18 ?_
    refine z_if_ne C 26 dX0_isOnlyBehind_19 (by decide) (fun q5 => ?_) (fun q5 => ?_)
    · rw [if_neg q5] at hf
      refine z_iconst C (zi 0) dX0_isOnlyBehind_26 (by decide) ?_
      obtain ⟨e9, b9⟩ := zrZ_ok hf
      cases e9
      exact hq _ _ b9 dX0_isOnlyBehind_27
    · rw [if_pos q5] at hf
      refine z_iconst C (zi 1) dX0_isOnlyBehind_22 (by decide) ?_
      refine z_goto C 27 dX0_isOnlyBehind_23 (by decide) ?_
      obtain ⟨e9, b9⟩ := zrZ_ok hf
      cases e9
      exact hq _ _ b9 dX0_isOnlyBehind_27

theorem mX0_isOnlyBehind (l : Launch) (D : va_G) (Ca : Nat → ClassId) (B : Nat) (En : State → Prop) (hE : zEk B En) (σ : zS) (N : Nat) (x0 : Nat) (x1 : Int32) (x2 : Int32) (X : zS × Int32) (hf : fX0_isOnlyBehind σ x0 x1 x2 = some X) : zMi l D Ca B En yX0_isOnlyBehind cX0_isOnlyBehind 3 (Option.some Jvm.ClassFile.FieldType.boolean) 0 0 [.ref x0, .int x1, .int x2] σ N X.1 X.2 :=
  zMet_i (own := RX0) hE (by decide +kernel) rfl (Nat.le_of_ble_eq_true rfl) (fun p e s m args below meth c C hr hRm => wfX0_isOnlyBehind C hRm σ x0 x1 x2 X.1 X.2 hf (fun pc lv hb hd => zfin_z C hb hr hd))
theorem dX3_isList_0 : decode cX3_isList 0 = .ok (.iload_n 0, 1) := by decide +kernel
theorem dX3_isList_1 : decode cX3_isList 1 = .ok (.ifCond .lt 13, 3) := by decide +kernel
theorem dX3_isList_4 : decode cX3_isList 4 = .ok (.iload_n 0, 1) := by decide +kernel
theorem dX3_isList_5 : decode cX3_isList 5 = .ok (.bipush 30, 2) := by decide +kernel
theorem dX3_isList_7 : decode cX3_isList 7 = .ok (.if_icmp .ge 7, 3) := by decide +kernel
theorem dX3_isList_10 : decode cX3_isList 10 = .ok (.iconst 1, 1) := by decide +kernel
theorem dX3_isList_11 : decode cX3_isList 11 = .ok (.goto 4, 3) := by decide +kernel
theorem dX3_isList_14 : decode cX3_isList 14 = .ok (.iconst 0, 1) := by decide +kernel
theorem dX3_isList_15 : decode cX3_isList 15 = .ok (.ireturn, 1) := by decide +kernel
theorem hyX3_isList : yX3_isList.cls ≠ "java/lang/invoke/MethodHandle" ∧ yX3_isList.cls ≠ "java/lang/invoke/VarHandle" ∧ (parseMethodDescriptor yX3_isList.desc).map (fun d => d.parameters.length) = some 1 := ⟨by decide +kernel, by decide +kernel, by decide +kernel⟩
set_option maxRecDepth 100000 in
set_option maxHeartbeats 4000000 in
theorem wfX3_isList (C : zC p s m args meth c cX3_isList RX3 1 D Ca B En) (hRm : zRm R 0 0 cells slots) (σ : zS) (x0 : Int32) (τ : zS) (r : Int32) (hf : fX3_isList σ x0 = some (τ, r)) (hq : ∀ (pc : Nat) (lv : List (Nat × Value)), (r = 0 ∨ r = 1) → decode cX3_isList pc = .ok (.ireturn, 1) → zW p l e R s m args below meth c cells slots Q D Ca B 1 τ N pc lv [.int r]) : zW p l e R s m args below meth c cells slots Q D Ca B 1 σ N 0 [(0, .int x0)] [] := by
  unfold fX3_isList at hf
  refine z_iload_n C dX3_isList_0 rfl 0 rfl ?_
  refine z_if_lt C 14 dX3_isList_1 (by decide) (fun q2 => ?_) (fun q2 => ?_)
  · rw [if_pos q2] at hf
    refine z_iconst C (zi 0) dX3_isList_14 (by decide) ?_
    obtain ⟨e9, b9⟩ := zrZ_ok hf
    cases e9
    exact hq _ _ b9 dX3_isList_15
  · rw [if_neg q2] at hf
    refine z_iload_n C dX3_isList_4 rfl 0 rfl ?_
    refine z_bipush C (zi 30) dX3_isList_5 (by decide) ?_
    refine z_icmp_ge C 14 dX3_isList_7 (by decide) (fun q1 => ?_) (fun q1 => ?_)
    · rw [if_pos q1] at hf
      refine z_iconst C (zi 0) dX3_isList_14 (by decide) ?_
      obtain ⟨e9, b9⟩ := zrZ_ok hf
      cases e9
      exact hq _ _ b9 dX3_isList_15
    · rw [if_neg q1] at hf
      refine z_iconst C (zi 1) dX3_isList_10 (by decide) ?_
      refine z_goto C 15 dX3_isList_11 (by decide) ?_
      obtain ⟨e9, b9⟩ := zrZ_ok hf
      cases e9
      exact hq _ _ b9 dX3_isList_15

theorem mX3_isList (l : Launch) (D : va_G) (Ca : Nat → ClassId) (B : Nat) (En : State → Prop) (hE : zEk B En) (σ : zS) (N : Nat) (x0 : Int32) (X : zS × Int32) (hf : fX3_isList σ x0 = some X) : zMi l D Ca B En yX3_isList cX3_isList 1 (Option.some Jvm.ClassFile.FieldType.boolean) 0 0 [.int x0] σ N X.1 X.2 :=
  zMet_i (own := RX3) hE (by decide +kernel) rfl (Nat.le_of_ble_eq_true rfl) (fun p e s m args below meth c C hr hRm => wfX3_isList C hRm σ x0 X.1 X.2 hf (fun pc lv hb hd => zfin_z C hb hr hd))
theorem dX3_isRecord_0 : decode cX3_isRecord 0 = .ok (.iload_n 0, 1) := by decide +kernel
theorem dX3_isRecord_1 : decode cX3_isRecord 1 = .ok (.ifCond .lt 14, 3) := by decide +kernel
theorem dX3_isRecord_4 : decode cX3_isRecord 4 = .ok (.iload_n 0, 1) := by decide +kernel
theorem dX3_isRecord_5 : decode cX3_isRecord 5 = .ok (.sipush 800, 3) := by decide +kernel
theorem dX3_isRecord_8 : decode cX3_isRecord 8 = .ok (.if_icmp .ge 7, 3) := by decide +kernel
theorem dX3_isRecord_11 : decode cX3_isRecord 11 = .ok (.iconst 1, 1) := by decide +kernel
theorem dX3_isRecord_12 : decode cX3_isRecord 12 = .ok (.goto 4, 3) := by decide +kernel
theorem dX3_isRecord_15 : decode cX3_isRecord 15 = .ok (.iconst 0, 1) := by decide +kernel
theorem dX3_isRecord_16 : decode cX3_isRecord 16 = .ok (.ireturn, 1) := by decide +kernel
theorem hyX3_isRecord : yX3_isRecord.cls ≠ "java/lang/invoke/MethodHandle" ∧ yX3_isRecord.cls ≠ "java/lang/invoke/VarHandle" ∧ (parseMethodDescriptor yX3_isRecord.desc).map (fun d => d.parameters.length) = some 1 := ⟨by decide +kernel, by decide +kernel, by decide +kernel⟩
set_option maxRecDepth 100000 in
set_option maxHeartbeats 4000000 in
theorem wfX3_isRecord (C : zC p s m args meth c cX3_isRecord RX3 1 D Ca B En) (hRm : zRm R 0 0 cells slots) (σ : zS) (x0 : Int32) (τ : zS) (r : Int32) (hf : fX3_isRecord σ x0 = some (τ, r)) (hq : ∀ (pc : Nat) (lv : List (Nat × Value)), (r = 0 ∨ r = 1) → decode cX3_isRecord pc = .ok (.ireturn, 1) → zW p l e R s m args below meth c cells slots Q D Ca B 1 τ N pc lv [.int r]) : zW p l e R s m args below meth c cells slots Q D Ca B 1 σ N 0 [(0, .int x0)] [] := by
  unfold fX3_isRecord at hf
  refine z_iload_n C dX3_isRecord_0 rfl 0 rfl ?_
  refine z_if_lt C 15 dX3_isRecord_1 (by decide) (fun q2 => ?_) (fun q2 => ?_)
  · rw [if_pos q2] at hf
    refine z_iconst C (zi 0) dX3_isRecord_15 (by decide) ?_
    obtain ⟨e9, b9⟩ := zrZ_ok hf
    cases e9
    exact hq _ _ b9 dX3_isRecord_16
  · rw [if_neg q2] at hf
    refine z_iload_n C dX3_isRecord_4 rfl 0 rfl ?_
    refine z_sipush C (zi 800) dX3_isRecord_5 (by decide) ?_
    refine z_icmp_ge C 15 dX3_isRecord_8 (by decide) (fun q1 => ?_) (fun q1 => ?_)
    · rw [if_pos q1] at hf
      refine z_iconst C (zi 0) dX3_isRecord_15 (by decide) ?_
      obtain ⟨e9, b9⟩ := zrZ_ok hf
      cases e9
      exact hq _ _ b9 dX3_isRecord_16
    · rw [if_neg q1] at hf
      refine z_iconst C (zi 1) dX3_isRecord_11 (by decide) ?_
      refine z_goto C 16 dX3_isRecord_12 (by decide) ?_
      obtain ⟨e9, b9⟩ := zrZ_ok hf
      cases e9
      exact hq _ _ b9 dX3_isRecord_16

theorem mX3_isRecord (l : Launch) (D : va_G) (Ca : Nat → ClassId) (B : Nat) (En : State → Prop) (hE : zEk B En) (σ : zS) (N : Nat) (x0 : Int32) (X : zS × Int32) (hf : fX3_isRecord σ x0 = some X) : zMi l D Ca B En yX3_isRecord cX3_isRecord 1 (Option.some Jvm.ClassFile.FieldType.boolean) 0 0 [.int x0] σ N X.1 X.2 :=
  zMet_i (own := RX3) hE (by decide +kernel) rfl (Nat.le_of_ble_eq_true rfl) (fun p e s m args below meth c C hr hRm => wfX3_isRecord C hRm σ x0 X.1 X.2 hf (fun pc lv hb hd => zfin_z C hb hr hd))
theorem dX3_add_0 : decode cX3_add 0 = .ok (.iload_n 1, 1) := by decide +kernel
theorem dX3_add_1 : decode cX3_add 1 = .ok (.invokestatic 35, 3) := by decide +kernel
theorem dX3_add_4 : decode cX3_add 4 = .ok (.ifCond .eq 10, 3) := by decide +kernel
theorem dX3_add_7 : decode cX3_add 7 = .ok (.iload_n 2, 1) := by decide +kernel
theorem dX3_add_8 : decode cX3_add 8 = .ok (.invokestatic 39, 3) := by decide +kernel
theorem dX3_add_11 : decode cX3_add 11 = .ok (.ifCond .ne 4, 3) := by decide +kernel
theorem dX3_add_14 : decode cX3_add 14 = .ok (.return_, 1) := by decide +kernel
theorem dX3_add_15 : decode cX3_add 15 = .ok (.aload_n 0, 1) := by decide +kernel
theorem dX3_add_16 : decode cX3_add 16 = .ok (.getfield 18, 3) := by decide +kernel
theorem dX3_add_19 : decode cX3_add 19 = .ok (.iload_n 1, 1) := by decide +kernel
theorem dX3_add_20 : decode cX3_add 20 = .ok (.iaload, 1) := by decide +kernel
theorem dX3_add_21 : decode cX3_add 21 = .ok (.istore_n 3, 1) := by decide +kernel
theorem dX3_add_22 : decode cX3_add 22 = .ok (.iload_n 3, 1) := by decide +kernel
theorem dX3_add_23 : decode cX3_add 23 = .ok (.invokestatic 39, 3) := by decide +kernel
theorem dX3_add_26 : decode cX3_add 26 = .ok (.ifCond .eq 13, 3) := by decide +kernel
theorem dX3_add_29 : decode cX3_add 29 = .ok (.aload_n 0, 1) := by decide +kernel
theorem dX3_add_30 : decode cX3_add 30 = .ok (.getfield 9, 3) := by decide +kernel
theorem dX3_add_33 : decode cX3_add 33 = .ok (.iload_n 3, 1) := by decide +kernel
theorem dX3_add_34 : decode cX3_add 34 = .ok (.iload_n 2, 1) := by decide +kernel
theorem dX3_add_35 : decode cX3_add 35 = .ok (.iastore, 1) := by decide +kernel
theorem dX3_add_36 : decode cX3_add 36 = .ok (.goto 10, 3) := by decide +kernel
theorem dX3_add_39 : decode cX3_add 39 = .ok (.aload_n 0, 1) := by decide +kernel
theorem dX3_add_40 : decode cX3_add 40 = .ok (.getfield 15, 3) := by decide +kernel
theorem dX3_add_43 : decode cX3_add 43 = .ok (.iload_n 1, 1) := by decide +kernel
theorem dX3_add_44 : decode cX3_add 44 = .ok (.iload_n 2, 1) := by decide +kernel
theorem dX3_add_45 : decode cX3_add 45 = .ok (.iastore, 1) := by decide +kernel
theorem dX3_add_46 : decode cX3_add 46 = .ok (.aload_n 0, 1) := by decide +kernel
theorem dX3_add_47 : decode cX3_add 47 = .ok (.getfield 9, 3) := by decide +kernel
theorem dX3_add_50 : decode cX3_add 50 = .ok (.iload_n 2, 1) := by decide +kernel
theorem dX3_add_51 : decode cX3_add 51 = .ok (.iconst (-1), 1) := by decide +kernel
theorem dX3_add_52 : decode cX3_add 52 = .ok (.iastore, 1) := by decide +kernel
theorem dX3_add_53 : decode cX3_add 53 = .ok (.aload_n 0, 1) := by decide +kernel
theorem dX3_add_54 : decode cX3_add 54 = .ok (.getfield 18, 3) := by decide +kernel
theorem dX3_add_57 : decode cX3_add 57 = .ok (.iload_n 1, 1) := by decide +kernel
theorem dX3_add_58 : decode cX3_add 58 = .ok (.iload_n 2, 1) := by decide +kernel
theorem dX3_add_59 : decode cX3_add 59 = .ok (.iastore, 1) := by decide +kernel
theorem dX3_add_60 : decode cX3_add 60 = .ok (.aload_n 0, 1) := by decide +kernel
theorem dX3_add_61 : decode cX3_add 61 = .ok (.getfield 21, 3) := by decide +kernel
theorem dX3_add_64 : decode cX3_add 64 = .ok (.iload_n 1, 1) := by decide +kernel
theorem dX3_add_65 : decode cX3_add 65 = .ok (.dup2, 1) := by decide +kernel
theorem dX3_add_66 : decode cX3_add 66 = .ok (.iaload, 1) := by decide +kernel
theorem dX3_add_67 : decode cX3_add 67 = .ok (.iconst 1, 1) := by decide +kernel
theorem dX3_add_68 : decode cX3_add 68 = .ok (.iadd, 1) := by decide +kernel
theorem dX3_add_69 : decode cX3_add 69 = .ok (.iastore, 1) := by decide +kernel
theorem dX3_add_70 : decode cX3_add 70 = .ok (.return_, 1) := by decide +kernel
theorem hyX3_add : yX3_add.cls ≠ "java/lang/invoke/MethodHandle" ∧ yX3_add.cls ≠ "java/lang/invoke/VarHandle" ∧ (parseMethodDescriptor yX3_add.desc).map (fun d => d.parameters.length) = some 2 := ⟨by decide +kernel, by decide +kernel, by decide +kernel⟩
set_option maxRecDepth 100000 in
set_option maxHeartbeats 4000000 in
theorem wjX3_add_46 (C : zC p s m args meth c cX3_add RX3 4 D Ca B En) (hRm : zRm R 1 20 cells slots) (σ : zS) (x0 : Nat) (x1 : Int32) (x2 : Int32)  (τ : zS) (hf : jX3_add_46 σ x0 x1 x2  = some τ) (hq : ∀ (pc : Nat) (lv : List (Nat × Value)), decode cX3_add pc = .ok (.return_, 1) → zW p l e R s m args below meth c cells slots Q D Ca B 4 τ N pc lv []) : zW p l e R s m args below meth c cells slots Q D Ca B 4 σ N 46 [(0, .ref x0), (1, .int x1), (2, .int x2)] [] := by
  unfold jX3_add_46 at hf
  refine z_aload_n C dX3_add_46 rfl 0 rfl ?_
  obtain ⟨v8, hv8, hf⟩ := zbind hf
  refine gf_RX3_9 C hv8 dX3_add_47 ?_
  refine z_iload_n C dX3_add_50 rfl 2 rfl ?_
  refine z_iconst C (zi (-1)) dX3_add_51 (by decide) ?_
  obtain ⟨σ9, hσ9, hf⟩ := zbind hf
  refine z_sI C hσ9 dX3_add_52 ?_
  refine z_aload_n C dX3_add_53 rfl 0 rfl ?_
  obtain ⟨v10, hv10, hf⟩ := zbind hf
  refine gf_RX3_18 C hv10 dX3_add_54 ?_
  refine z_iload_n C dX3_add_57 rfl 1 rfl ?_
  refine z_iload_n C dX3_add_58 rfl 2 rfl ?_
  obtain ⟨σ11, hσ11, hf⟩ := zbind hf
  refine z_sI C hσ11 dX3_add_59 ?_
  refine z_aload_n C dX3_add_60 rfl 0 rfl ?_
  obtain ⟨v12, hv12, hf⟩ := zbind hf
  refine gf_RX3_21 C hv12 dX3_add_61 ?_
  refine z_iload_n C dX3_add_64 rfl 1 rfl ?_
  refine z_dup2 C dX3_add_65 rfl rfl ?_
  obtain ⟨v13, hv13, hf⟩ := zbind hf
  refine z_aI C hv13 dX3_add_66 ?_
  refine z_iconst C (zi 1) dX3_add_67 (by decide) ?_
  refine z_iadd C dX3_add_68 ?_
  obtain ⟨σ14, hσ14, hf⟩ := zbind hf
  refine z_sI C hσ14 dX3_add_69 ?_
  cases hf
  exact hq _ _ dX3_add_70

set_option maxRecDepth 100000 in
set_option maxHeartbeats 4000000 in
theorem wfX3_add (C : zC p s m args meth c cX3_add RX3 4 D Ca B En) (hRm : zRm R 1 20 cells slots) (σ : zS) (x0 : Nat) (x1 : Int32) (x2 : Int32) (τ : zS) (hf : fX3_add σ x0 x1 x2 = some τ) (hq : ∀ (pc : Nat) (lv : List (Nat × Value)), decode cX3_add pc = .ok (.return_, 1) → zW p l e R s m args below meth c cells slots Q D Ca B 4 τ N pc lv []) : zW p l e R s m args below meth c cells slots Q D Ca B 4 σ N 0 [(0, .ref x0), (1, .int x1), (2, .int x2)] [] := by
  unfold fX3_add at hf
  refine z_iload_n C dX3_add_0 rfl 1 rfl ?_
  obtain ⟨c1, hc1, hf⟩ := zbind hf
  refine z_callSi (As := [.int x1]) (F0 := 1) (L0 := 20) C (mX3_isList l D Ca B En C.2.2.2.2.2.2.2.1 σ N x1 _ hc1) hRm kw_323 kw_9 kw_321 kw_322 hyX3_isList (Nat.le_of_ble_eq_true rfl) (Nat.le_of_ble_eq_true rfl) rfl rfl (Nat.le_of_ble_eq_true rfl) dX3_add_1 ?_
  refine z_if_eq C 14 dX3_add_4 (by decide) (fun q19 => ?_) (fun q19 => ?_)
  · rw [if_pos q19] at hf
    cases hf
    exact hq _ _ dX3_add_14
  · rw [if_neg q19] at hf
    refine z_iload_n C dX3_add_7 rfl 2 rfl ?_
    obtain ⟨c2, hc2, hf⟩ := zbind hf
    refine z_callSi (As := [.int x2]) (F0 := 1) (L0 := 20) C (mX3_isRecord l D Ca B En C.2.2.2.2.2.2.2.1 c1.1 N x2 _ hc2) hRm kw_326 kw_9 kw_324 kw_325 hyX3_isRecord (Nat.le_of_ble_eq_true rfl) (Nat.le_of_ble_eq_true rfl) rfl rfl (Nat.le_of_ble_eq_true rfl) dX3_add_8 ?_
    refine z_if_ne C 15 dX3_add_11 (by decide) (fun q18 => ?_) (fun q18 => ?_)
    · rw [if_neg q18] at hf
      refine z_aload_n C dX3_add_15 rfl 0 rfl ?_
      obtain ⟨v3, hv3, hf⟩ := zbind hf
      refine gf_RX3_18 C hv3 dX3_add_16 ?_
      refine z_iload_n C dX3_add_19 rfl 1 rfl ?_
      obtain ⟨v4, hv4, hf⟩ := zbind hf
      refine z_aI C hv4 dX3_add_20 ?_
      refine z_istore_n (lv2 := [(3, .int v4), (0, .ref x0), (1, .int x1), (2, .int x2)]) C dX3_add_21 rfl (by decide) rfl ?_
      refine z_iload_n C dX3_add_22 rfl 0 rfl ?_
      obtain ⟨c5, hc5, hf⟩ := zbind hf
      refine z_callSi (As := [.int v4]) (F0 := 1) (L0 := 20) C (mX3_isRecord l D Ca B En C.2.2.2.2.2.2.2.1 c2.1 N v4 _ hc5) hRm kw_326 kw_9 kw_324 kw_325 hyX3_isRecord (Nat.le_of_ble_eq_true rfl) (Nat.le_of_ble_eq_true rfl) rfl rfl (Nat.le_of_ble_eq_true rfl) dX3_add_23 ?_
      refine z_if_eq C 39 dX3_add_26 (by decide) (fun q17 => ?_) (fun q17 => ?_)
      · rw [if_pos q17] at hf
        refine z_aload_n C dX3_add_39 rfl 1 rfl ?_
        obtain ⟨v6, hv6, hf⟩ := zbind hf
        refine gf_RX3_15 C hv6 dX3_add_40 ?_
        refine z_iload_n C dX3_add_43 rfl 2 rfl ?_
        refine z_iload_n C dX3_add_44 rfl 3 rfl ?_
        obtain ⟨σ7, hσ7, hf⟩ := zbind hf
        refine z_sI C hσ7 dX3_add_45 ?_
        refine z_sub [1, 2, 3] rfl ?_
        exact wjX3_add_46 C hRm _ _ _ _  _ hf hq
      · rw [if_neg q17] at hf
        refine z_aload_n C dX3_add_29 rfl 1 rfl ?_
        obtain ⟨v15, hv15, hf⟩ := zbind hf
        refine gf_RX3_9 C hv15 dX3_add_30 ?_
        refine z_iload_n C dX3_add_33 rfl 0 rfl ?_
        refine z_iload_n C dX3_add_34 rfl 3 rfl ?_
        obtain ⟨σ16, hσ16, hf⟩ := zbind hf
        refine z_sI C hσ16 dX3_add_35 ?_
        refine z_goto C 46 dX3_add_36 (by decide) ?_
        refine z_sub [1, 2, 3] rfl ?_
        exact wjX3_add_46 C hRm _ _ _ _  _ hf hq
    · rw [if_pos q18] at hf
      cases hf
      exact hq _ _ dX3_add_14

theorem mX3_add (l : Launch) (D : va_G) (Ca : Nat → ClassId) (B : Nat) (En : State → Prop) (hE : zEk B En) (σ : zS) (N : Nat) (x0 : Nat) (x1 : Int32) (x2 : Int32) (X : zS) (hf : fX3_add σ x0 x1 x2 = some X) : zMv l D Ca B En yX3_add cX3_add 4 (Option.none : Option Jvm.ClassFile.FieldType) 1 20 [.ref x0, .int x1, .int x2] σ N X () :=
  zMet_v (own := RX3) hE (by decide +kernel) rfl (Nat.le_of_ble_eq_true rfl) (fun p e s m args below meth c C hr hRm => wfX3_add C hRm σ x0 x1 x2 X hf (fun pc lv hd => zfin_v (r := ()) C hr hd))
theorem dX0_keep_0 : decode cX0_keep 0 = .ok (.aload_n 0, 1) := by decide +kernel
theorem dX0_keep_1 : decode cX0_keep 1 = .ok (.getfield 24, 3) := by decide +kernel
theorem dX0_keep_4 : decode cX0_keep 4 = .ok (.iload_n 1, 1) := by decide +kernel
theorem dX0_keep_5 : decode cX0_keep 5 = .ok (.iload_n 2, 1) := by decide +kernel
theorem dX0_keep_6 : decode cX0_keep 6 = .ok (.invokevirtual 76, 3) := by decide +kernel
theorem dX0_keep_9 : decode cX0_keep 9 = .ok (.aload_n 0, 1) := by decide +kernel
theorem dX0_keep_10 : decode cX0_keep 10 = .ok (.dup, 1) := by decide +kernel
theorem dX0_keep_11 : decode cX0_keep 11 = .ok (.getfield 52, 3) := by decide +kernel
theorem dX0_keep_14 : decode cX0_keep 14 = .ok (.iconst 1, 1) := by decide +kernel
theorem dX0_keep_15 : decode cX0_keep 15 = .ok (.iadd, 1) := by decide +kernel
theorem dX0_keep_16 : decode cX0_keep 16 = .ok (.putfield 52, 3) := by decide +kernel
theorem dX0_keep_19 : decode cX0_keep 19 = .ok (.return_, 1) := by decide +kernel
theorem hyX0_keep : yX0_keep.cls ≠ "java/lang/invoke/MethodHandle" ∧ yX0_keep.cls ≠ "java/lang/invoke/VarHandle" ∧ (parseMethodDescriptor yX0_keep.desc).map (fun d => d.parameters.length) = some 2 := ⟨by decide +kernel, by decide +kernel, by decide +kernel⟩
set_option maxRecDepth 100000 in
set_option maxHeartbeats 4000000 in
theorem wfX0_keep (C : zC p s m args meth c cX0_keep RX0 3 D Ca B En) (hRm : zRm R 2 43 cells slots) (σ : zS) (x0 : Nat) (x1 : Int32) (x2 : Int32) (τ : zS) (hf : fX0_keep σ x0 x1 x2 = some τ) (hq : ∀ (pc : Nat) (lv : List (Nat × Value)), decode cX0_keep pc = .ok (.return_, 1) → zW p l e R s m args below meth c cells slots Q D Ca B 3 τ N pc lv []) : zW p l e R s m args below meth c cells slots Q D Ca B 3 σ N 0 [(0, .ref x0), (1, .int x1), (2, .int x2)] [] := by
  unfold fX0_keep at hf
  refine z_aload_n C dX0_keep_0 rfl 0 rfl ?_
  obtain ⟨v1, hv1, hf⟩ := zbind hf
  refine gf_RX0_24 C hv1 dX0_keep_1 ?_
  refine z_iload_n C dX0_keep_4 rfl 1 rfl ?_
  refine z_iload_n C dX0_keep_5 rfl 2 rfl ?_
  obtain ⟨c2, hc2, hf⟩ := zbind hf
  obtain ⟨kc2, hc2⟩ := zck_ok hc2
  refine z_callVv (As := [.int x1, .int x2]) (F0 := 2) (L0 := 43) C (mX3_add l D Ca B En C.2.2.2.2.2.2.2.1 σ N v1 x1 x2 _ hc2) hRm kc2 rfl kw_344 kw_9 kw_701 kw_342 kw_343 hyX3_add (Nat.le_of_ble_eq_true rfl) (Nat.le_of_ble_eq_true rfl) rfl rfl (Nat.le_of_ble_eq_true rfl) dX0_keep_6 ?_
  refine z_aload_n C dX0_keep_9 rfl 0 rfl ?_
  refine z_dup C dX0_keep_10 rfl ?_
  obtain ⟨v3, hv3, hf⟩ := zbind hf
  refine gf_RX0_52 C hv3 dX0_keep_11 ?_
  refine z_iconst C (zi 1) dX0_keep_14 (by decide) ?_
  refine z_iadd C dX0_keep_15 ?_
  obtain ⟨σ4, hσ4, hf⟩ := zbind hf
  refine gp_RX0_52 C hσ4 dX0_keep_16 ?_
  cases hf
  exact hq _ _ dX0_keep_19

theorem mX0_keep (l : Launch) (D : va_G) (Ca : Nat → ClassId) (B : Nat) (En : State → Prop) (hE : zEk B En) (σ : zS) (N : Nat) (x0 : Nat) (x1 : Int32) (x2 : Int32) (X : zS) (hf : fX0_keep σ x0 x1 x2 = some X) : zMv l D Ca B En yX0_keep cX0_keep 3 (Option.none : Option Jvm.ClassFile.FieldType) 2 43 [.ref x0, .int x1, .int x2] σ N X () :=
  zMet_v (own := RX0) hE (by decide +kernel) rfl (Nat.le_of_ble_eq_true rfl) (fun p e s m args below meth c C hr hRm => wfX0_keep C hRm σ x0 x1 x2 X hf (fun pc lv hd => zfin_v (r := ()) C hr hd))
theorem dX9_channel_0 : decode cX9_channel 0 = .ok (.iconst 4, 1) := by decide +kernel
theorem dX9_channel_1 : decode cX9_channel 1 = .ok (.iload_n 0, 1) := by decide +kernel
theorem dX9_channel_2 : decode cX9_channel 2 = .ok (.imul, 1) := by decide +kernel
theorem dX9_channel_3 : decode cX9_channel 3 = .ok (.iload_n 1, 1) := by decide +kernel
theorem dX9_channel_4 : decode cX9_channel 4 = .ok (.iadd, 1) := by decide +kernel
theorem dX9_channel_5 : decode cX9_channel 5 = .ok (.ireturn, 1) := by decide +kernel
theorem hyX9_channel : yX9_channel.cls ≠ "java/lang/invoke/MethodHandle" ∧ yX9_channel.cls ≠ "java/lang/invoke/VarHandle" ∧ (parseMethodDescriptor yX9_channel.desc).map (fun d => d.parameters.length) = some 2 := ⟨by decide +kernel, by decide +kernel, by decide +kernel⟩
set_option maxRecDepth 100000 in
set_option maxHeartbeats 4000000 in
theorem wfX9_channel (C : zC p s m args meth c cX9_channel RX9 2 D Ca B En) (hRm : zRm R 0 0 cells slots) (σ : zS) (x0 : Int32) (x1 : Int32) (τ : zS) (r : Int32) (hf : fX9_channel σ x0 x1 = some (τ, r)) (hq : ∀ (pc : Nat) (lv : List (Nat × Value)), decode cX9_channel pc = .ok (.ireturn, 1) → zW p l e R s m args below meth c cells slots Q D Ca B 2 τ N pc lv [.int r]) : zW p l e R s m args below meth c cells slots Q D Ca B 2 σ N 0 [(0, .int x0), (1, .int x1)] [] := by
  unfold fX9_channel at hf
  refine z_iconst C (zi 4) dX9_channel_0 (by decide) ?_
  refine z_iload_n C dX9_channel_1 rfl 0 rfl ?_
  refine z_imul C dX9_channel_2 ?_
  refine z_iload_n C dX9_channel_3 rfl 1 rfl ?_
  refine z_iadd C dX9_channel_4 ?_
  cases hf
  exact hq _ _ dX9_channel_5

theorem mX9_channel (l : Launch) (D : va_G) (Ca : Nat → ClassId) (B : Nat) (En : State → Prop) (hE : zEk B En) (σ : zS) (N : Nat) (x0 : Int32) (x1 : Int32) (X : zS × Int32) (hf : fX9_channel σ x0 x1 = some X) : zMi l D Ca B En yX9_channel cX9_channel 2 (Option.some Jvm.ClassFile.FieldType.int) 0 0 [.int x0, .int x1] σ N X.1 X.2 :=
  zMet_i (own := RX9) hE (by decide +kernel) rfl (Nat.le_of_ble_eq_true rfl) (fun p e s m args below meth c C hr hRm => wfX9_channel C hRm σ x0 x1 X.1 X.2 hf (fun pc lv hd => zfin_i C hr hd))
theorem dX3_moveAll_0 : decode cX3_moveAll 0 = .ok (.iload_n 1, 1) := by decide +kernel
theorem dX3_moveAll_1 : decode cX3_moveAll 1 = .ok (.invokestatic 35, 3) := by decide +kernel
theorem dX3_moveAll_4 : decode cX3_moveAll 4 = .ok (.ifCond .eq 24, 3) := by decide +kernel
theorem dX3_moveAll_7 : decode cX3_moveAll 7 = .ok (.iload_n 2, 1) := by decide +kernel
theorem dX3_moveAll_8 : decode cX3_moveAll 8 = .ok (.invokestatic 35, 3) := by decide +kernel
theorem dX3_moveAll_11 : decode cX3_moveAll 11 = .ok (.ifCond .eq 17, 3) := by decide +kernel
theorem dX3_moveAll_14 : decode cX3_moveAll 14 = .ok (.iload_n 1, 1) := by decide +kernel
theorem dX3_moveAll_15 : decode cX3_moveAll 15 = .ok (.iload_n 2, 1) := by decide +kernel
theorem dX3_moveAll_16 : decode cX3_moveAll 16 = .ok (.if_icmp .eq 12, 3) := by decide +kernel
theorem dX3_moveAll_19 : decode cX3_moveAll 19 = .ok (.aload_n 0, 1) := by decide +kernel
theorem dX3_moveAll_20 : decode cX3_moveAll 20 = .ok (.getfield 21, 3) := by decide +kernel
theorem dX3_moveAll_23 : decode cX3_moveAll 23 = .ok (.iload_n 1, 1) := by decide +kernel
theorem dX3_moveAll_24 : decode cX3_moveAll 24 = .ok (.iaload, 1) := by decide +kernel
theorem dX3_moveAll_25 : decode cX3_moveAll 25 = .ok (.ifCond .ne 4, 3) := by decide +kernel
theorem dX3_moveAll_28 : decode cX3_moveAll 28 = .ok (.return_, 1) := by decide +kernel
theorem dX3_moveAll_29 : decode cX3_moveAll 29 = .ok (.aload_n 0, 1) := by decide +kernel
theorem dX3_moveAll_30 : decode cX3_moveAll 30 = .ok (.getfield 18, 3) := by decide +kernel
theorem dX3_moveAll_33 : decode cX3_moveAll 33 = .ok (.iload_n 2, 1) := by decide +kernel
theorem dX3_moveAll_34 : decode cX3_moveAll 34 = .ok (.iaload, 1) := by decide +kernel
theorem dX3_moveAll_35 : decode cX3_moveAll 35 = .ok (.istore_n 3, 1) := by decide +kernel
theorem dX3_moveAll_36 : decode cX3_moveAll 36 = .ok (.iload_n 3, 1) := by decide +kernel
theorem dX3_moveAll_37 : decode cX3_moveAll 37 = .ok (.invokestatic 39, 3) := by decide +kernel
theorem dX3_moveAll_40 : decode cX3_moveAll 40 = .ok (.ifCond .eq 18, 3) := by decide +kernel
theorem dX3_moveAll_43 : decode cX3_moveAll 43 = .ok (.aload_n 0, 1) := by decide +kernel
theorem dX3_moveAll_44 : decode cX3_moveAll 44 = .ok (.getfield 9, 3) := by decide +kernel
theorem dX3_moveAll_47 : decode cX3_moveAll 47 = .ok (.iload_n 3, 1) := by decide +kernel
theorem dX3_moveAll_48 : decode cX3_moveAll 48 = .ok (.aload_n 0, 1) := by decide +kernel
theorem dX3_moveAll_49 : decode cX3_moveAll 49 = .ok (.getfield 15, 3) := by decide +kernel
theorem dX3_moveAll_52 : decode cX3_moveAll 52 = .ok (.iload_n 1, 1) := by decide +kernel
theorem dX3_moveAll_53 : decode cX3_moveAll 53 = .ok (.iaload, 1) := by decide +kernel
theorem dX3_moveAll_54 : decode cX3_moveAll 54 = .ok (.iastore, 1) := by decide +kernel
theorem dX3_moveAll_55 : decode cX3_moveAll 55 = .ok (.goto 15, 3) := by decide +kernel
theorem dX3_moveAll_58 : decode cX3_moveAll 58 = .ok (.aload_n 0, 1) := by decide +kernel
theorem dX3_moveAll_59 : decode cX3_moveAll 59 = .ok (.getfield 15, 3) := by decide +kernel
theorem dX3_moveAll_62 : decode cX3_moveAll 62 = .ok (.iload_n 2, 1) := by decide +kernel
theorem dX3_moveAll_63 : decode cX3_moveAll 63 = .ok (.aload_n 0, 1) := by decide +kernel
theorem dX3_moveAll_64 : decode cX3_moveAll 64 = .ok (.getfield 15, 3) := by decide +kernel
theorem dX3_moveAll_67 : decode cX3_moveAll 67 = .ok (.iload_n 1, 1) := by decide +kernel
theorem dX3_moveAll_68 : decode cX3_moveAll 68 = .ok (.iaload, 1) := by decide +kernel
theorem dX3_moveAll_69 : decode cX3_moveAll 69 = .ok (.iastore, 1) := by decide +kernel
theorem dX3_moveAll_70 : decode cX3_moveAll 70 = .ok (.aload_n 0, 1) := by decide +kernel
theorem dX3_moveAll_71 : decode cX3_moveAll 71 = .ok (.getfield 18, 3) := by decide +kernel
theorem dX3_moveAll_74 : decode cX3_moveAll 74 = .ok (.iload_n 2, 1) := by decide +kernel
theorem dX3_moveAll_75 : decode cX3_moveAll 75 = .ok (.aload_n 0, 1) := by decide +kernel
theorem dX3_moveAll_76 : decode cX3_moveAll 76 = .ok (.getfield 18, 3) := by decide +kernel
theorem dX3_moveAll_79 : decode cX3_moveAll 79 = .ok (.iload_n 1, 1) := by decide +kernel
theorem dX3_moveAll_80 : decode cX3_moveAll 80 = .ok (.iaload, 1) := by decide +kernel
theorem dX3_moveAll_81 : decode cX3_moveAll 81 = .ok (.iastore, 1) := by decide +kernel
theorem dX3_moveAll_82 : decode cX3_moveAll 82 = .ok (.aload_n 0, 1) := by decide +kernel
theorem dX3_moveAll_83 : decode cX3_moveAll 83 = .ok (.getfield 21, 3) := by decide +kernel
theorem dX3_moveAll_86 : decode cX3_moveAll 86 = .ok (.iload_n 2, 1) := by decide +kernel
theorem dX3_moveAll_87 : decode cX3_moveAll 87 = .ok (.dup2, 1) := by decide +kernel
theorem dX3_moveAll_88 : decode cX3_moveAll 88 = .ok (.iaload, 1) := by decide +kernel
theorem dX3_moveAll_89 : decode cX3_moveAll 89 = .ok (.aload_n 0, 1) := by decide +kernel
theorem dX3_moveAll_90 : decode cX3_moveAll 90 = .ok (.getfield 21, 3) := by decide +kernel
theorem dX3_moveAll_93 : decode cX3_moveAll 93 = .ok (.iload_n 1, 1) := by decide +kernel
theorem dX3_moveAll_94 : decode cX3_moveAll 94 = .ok (.iaload, 1) := by decide +kernel
theorem dX3_moveAll_95 : decode cX3_moveAll 95 = .ok (.iadd, 1) := by decide +kernel
theorem dX3_moveAll_96 : decode cX3_moveAll 96 = .ok (.iastore, 1) := by decide +kernel
theorem dX3_moveAll_97 : decode cX3_moveAll 97 = .ok (.aload_n 0, 1) := by decide +kernel
theorem dX3_moveAll_98 : decode cX3_moveAll 98 = .ok (.iload_n 1, 1) := by decide +kernel
theorem dX3_moveAll_99 : decode cX3_moveAll 99 = .ok (.invokevirtual 27, 3) := by decide +kernel
theorem dX3_moveAll_102 : decode cX3_moveAll 102 = .ok (.return_, 1) := by decide +kernel
theorem hyX3_moveAll : yX3_moveAll.cls ≠ "java/lang/invoke/MethodHandle" ∧ yX3_moveAll.cls ≠ "java/lang/invoke/VarHandle" ∧ (parseMethodDescriptor yX3_moveAll.desc).map (fun d => d.parameters.length) = some 2 := ⟨by decide +kernel, by decide +kernel, by decide +kernel⟩
set_option maxRecDepth 100000 in
set_option maxHeartbeats 4000000 in
theorem wjX3_moveAll_70 (C : zC p s m args meth c cX3_moveAll RX3 4 D Ca B En) (hRm : zRm R 1 21 cells slots) (σ : zS) (x0 : Nat) (x1 : Int32) (x2 : Int32)  (τ : zS) (hf : jX3_moveAll_70 σ x0 x1 x2  = some τ) (hq : ∀ (pc : Nat) (lv : List (Nat × Value)), decode cX3_moveAll pc = .ok (.return_, 1) → zW p l e R s m args below meth c cells slots Q D Ca B 4 τ N pc lv []) : zW p l e R s m args below meth c cells slots Q D Ca B 4 σ N 70 [(0, .ref x0), (1, .int x1), (2, .int x2)] [] := by
  unfold jX3_moveAll_70 at hf
  refine z_aload_n C dX3_moveAll_70 rfl 0 rfl ?_
  obtain ⟨v12, hv12, hf⟩ := zbind hf
  refine gf_RX3_18 C hv12 dX3_moveAll_71 ?_
  refine z_iload_n C dX3_moveAll_74 rfl 2 rfl ?_
  refine z_aload_n C dX3_moveAll_75 rfl 0 rfl ?_
  obtain ⟨v13, hv13, hf⟩ := zbind hf
  refine gf_RX3_18 C hv13 dX3_moveAll_76 ?_
  refine z_iload_n C dX3_moveAll_79 rfl 1 rfl ?_
  obtain ⟨v14, hv14, hf⟩ := zbind hf
  refine z_aI C hv14 dX3_moveAll_80 ?_
  obtain ⟨σ15, hσ15, hf⟩ := zbind hf
  refine z_sI C hσ15 dX3_moveAll_81 ?_
  refine z_aload_n C dX3_moveAll_82 rfl 0 rfl ?_
  obtain ⟨v16, hv16, hf⟩ := zbind hf
  refine gf_RX3_21 C hv16 dX3_moveAll_83 ?_
  refine z_iload_n C dX3_moveAll_86 rfl 2 rfl ?_
  refine z_dup2 C dX3_moveAll_87 rfl rfl ?_
  obtain ⟨v17, hv17, hf⟩ := zbind hf
  refine z_aI C hv17 dX3_moveAll_88 ?_
  refine z_aload_n C dX3_moveAll_89 rfl 0 rfl ?_
  obtain ⟨v18, hv18, hf⟩ := zbind hf
  refine gf_RX3_21 C hv18 dX3_moveAll_90 ?_
  refine z_iload_n C dX3_moveAll_93 rfl 1 rfl ?_
  obtain ⟨v19, hv19, hf⟩ := zbind hf
  refine z_aI C hv19 dX3_moveAll_94 ?_
  refine z_iadd C dX3_moveAll_95 ?_
  obtain ⟨σ20, hσ20, hf⟩ := zbind hf
  refine z_sI C hσ20 dX3_moveAll_96 ?_
  refine z_aload_n C dX3_moveAll_97 rfl 0 rfl ?_
  refine z_iload_n C dX3_moveAll_98 rfl 1 rfl ?_
  obtain ⟨c21, hc21, hf⟩ := zbind hf
  obtain ⟨kc21, hc21⟩ := zck_ok hc21
  refine z_callVv (As := [.int x1]) (F0 := 1) (L0 := 21) C (mX3_clear l D Ca B En C.2.2.2.2.2.2.2.1 σ20 N x0 x1 _ hc21) hRm kc21 rfl kw_206 kw_9 kw_203 kw_204 kw_205 hyX3_clear (Nat.le_of_ble_eq_true rfl) (Nat.le_of_ble_eq_true rfl) rfl rfl (Nat.le_of_ble_eq_true rfl) dX3_moveAll_99 ?_
  cases hf
  exact hq _ _ dX3_moveAll_102

set_option maxRecDepth 100000 in
set_option maxHeartbeats 4000000 in
theorem wfX3_moveAll (C : zC p s m args meth c cX3_moveAll RX3 4 D Ca B En) (hRm : zRm R 1 21 cells slots) (σ : zS) (x0 : Nat) (x1 : Int32) (x2 : Int32) (τ : zS) (hf : fX3_moveAll σ x0 x1 x2 = some τ) (hq : ∀ (pc : Nat) (lv : List (Nat × Value)), decode cX3_moveAll pc = .ok (.return_, 1) → zW p l e R s m args below meth c cells slots Q D Ca B 4 τ N pc lv []) : zW p l e R s m args below meth c cells slots Q D Ca B 4 σ N 0 [(0, .ref x0), (1, .int x1), (2, .int x2)] [] := by
  unfold fX3_moveAll at hf
  refine z_iload_n C dX3_moveAll_0 rfl 1 rfl ?_
  obtain ⟨c1, hc1, hf⟩ := zbind hf
  refine z_callSi (As := [.int x1]) (F0 := 1) (L0 := 21) C (mX3_isList l D Ca B En C.2.2.2.2.2.2.2.1 σ N x1 _ hc1) hRm kw_323 kw_9 kw_321 kw_322 hyX3_isList (Nat.le_of_ble_eq_true rfl) (Nat.le_of_ble_eq_true rfl) rfl rfl (Nat.le_of_ble_eq_true rfl) dX3_moveAll_1 ?_
  refine z_if_eq C 28 dX3_moveAll_4 (by decide) (fun q30 => ?_) (fun q30 => ?_)
  · rw [if_pos q30] at hf
    cases hf
    exact hq _ _ dX3_moveAll_28
  · rw [if_neg q30] at hf
    refine z_iload_n C dX3_moveAll_7 rfl 2 rfl ?_
    obtain ⟨c2, hc2, hf⟩ := zbind hf
    refine z_callSi (As := [.int x2]) (F0 := 1) (L0 := 21) C (mX3_isList l D Ca B En C.2.2.2.2.2.2.2.1 c1.1 N x2 _ hc2) hRm kw_323 kw_9 kw_321 kw_322 hyX3_isList (Nat.le_of_ble_eq_true rfl) (Nat.le_of_ble_eq_true rfl) rfl rfl (Nat.le_of_ble_eq_true rfl) dX3_moveAll_8 ?_
    refine z_if_eq C 28 dX3_moveAll_11 (by decide) (fun q29 => ?_) (fun q29 => ?_)
    · rw [if_pos q29] at hf
      cases hf
      exact hq _ _ dX3_moveAll_28
    · rw [if_neg q29] at hf
      refine z_iload_n C dX3_moveAll_14 rfl 1 rfl ?_
      refine z_iload_n C dX3_moveAll_15 rfl 2 rfl ?_
      refine z_icmp_eq C 28 dX3_moveAll_16 (by decide) (fun q28 => ?_) (fun q28 => ?_)
      · rw [if_pos q28] at hf
        cases hf
        exact hq _ _ dX3_moveAll_28
      · rw [if_neg q28] at hf
        refine z_aload_n C dX3_moveAll_19 rfl 0 rfl ?_
        obtain ⟨v3, hv3, hf⟩ := zbind hf
        refine gf_RX3_21 C hv3 dX3_moveAll_20 ?_
        refine z_iload_n C dX3_moveAll_23 rfl 1 rfl ?_
        obtain ⟨v4, hv4, hf⟩ := zbind hf
        refine z_aI C hv4 dX3_moveAll_24 ?_
        refine z_if_ne C 29 dX3_moveAll_25 (by decide) (fun q27 => ?_) (fun q27 => ?_)
        · rw [if_neg q27] at hf
          refine z_aload_n C dX3_moveAll_29 rfl 0 rfl ?_
          obtain ⟨v5, hv5, hf⟩ := zbind hf
          refine gf_RX3_18 C hv5 dX3_moveAll_30 ?_
          refine z_iload_n C dX3_moveAll_33 rfl 2 rfl ?_
          obtain ⟨v6, hv6, hf⟩ := zbind hf
          refine z_aI C hv6 dX3_moveAll_34 ?_
          refine z_istore_n (lv2 := [(3, .int v6), (0, .ref x0), (1, .int x1), (2, .int x2)]) C dX3_moveAll_35 rfl (by decide) rfl ?_
          refine z_iload_n C dX3_moveAll_36 rfl 0 rfl ?_
          obtain ⟨c7, hc7, hf⟩ := zbind hf
          refine z_callSi (As := [.int v6]) (F0 := 1) (L0 := 21) C (mX3_isRecord l D Ca B En C.2.2.2.2.2.2.2.1 c2.1 N v6 _ hc7) hRm kw_326 kw_9 kw_324 kw_325 hyX3_isRecord (Nat.le_of_ble_eq_true rfl) (Nat.le_of_ble_eq_true rfl) rfl rfl (Nat.le_of_ble_eq_true rfl) dX3_moveAll_37 ?_
          refine z_if_eq C 58 dX3_moveAll_40 (by decide) (fun q26 => ?_) (fun q26 => ?_)
          · rw [if_pos q26] at hf
            refine z_aload_n C dX3_moveAll_58 rfl 1 rfl ?_
            obtain ⟨v8, hv8, hf⟩ := zbind hf
            refine gf_RX3_15 C hv8 dX3_moveAll_59 ?_
            refine z_iload_n C dX3_moveAll_62 rfl 3 rfl ?_
            refine z_aload_n C dX3_moveAll_63 rfl 1 rfl ?_
            obtain ⟨v9, hv9, hf⟩ := zbind hf
            refine gf_RX3_15 C hv9 dX3_moveAll_64 ?_
            refine z_iload_n C dX3_moveAll_67 rfl 2 rfl ?_
            obtain ⟨v10, hv10, hf⟩ := zbind hf
            refine z_aI C hv10 dX3_moveAll_68 ?_
            obtain ⟨σ11, hσ11, hf⟩ := zbind hf
            refine z_sI C hσ11 dX3_moveAll_69 ?_
            refine z_sub [1, 2, 3] rfl ?_
            exact wjX3_moveAll_70 C hRm _ _ _ _  _ hf hq
          · rw [if_neg q26] at hf
            refine z_aload_n C dX3_moveAll_43 rfl 1 rfl ?_
            obtain ⟨v22, hv22, hf⟩ := zbind hf
            refine gf_RX3_9 C hv22 dX3_moveAll_44 ?_
            refine z_iload_n C dX3_moveAll_47 rfl 0 rfl ?_
            refine z_aload_n C dX3_moveAll_48 rfl 1 rfl ?_
            obtain ⟨v23, hv23, hf⟩ := zbind hf
            refine gf_RX3_15 C hv23 dX3_moveAll_49 ?_
            refine z_iload_n C dX3_moveAll_52 rfl 2 rfl ?_
            obtain ⟨v24, hv24, hf⟩ := zbind hf
            refine z_aI C hv24 dX3_moveAll_53 ?_
            obtain ⟨σ25, hσ25, hf⟩ := zbind hf
            refine z_sI C hσ25 dX3_moveAll_54 ?_
            refine z_goto C 70 dX3_moveAll_55 (by decide) ?_
            refine z_sub [1, 2, 3] rfl ?_
            exact wjX3_moveAll_70 C hRm _ _ _ _  _ hf hq
        · rw [if_pos q27] at hf
          cases hf
          exact hq _ _ dX3_moveAll_28

theorem mX3_moveAll (l : Launch) (D : va_G) (Ca : Nat → ClassId) (B : Nat) (En : State → Prop) (hE : zEk B En) (σ : zS) (N : Nat) (x0 : Nat) (x1 : Int32) (x2 : Int32) (X : zS) (hf : fX3_moveAll σ x0 x1 x2 = some X) : zMv l D Ca B En yX3_moveAll cX3_moveAll 4 (Option.none : Option Jvm.ClassFile.FieldType) 1 21 [.ref x0, .int x1, .int x2] σ N X () :=
  zMet_v (own := RX3) hE (by decide +kernel) rfl (Nat.le_of_ble_eq_true rfl) (fun p e s m args below meth c C hr hRm => wfX3_moveAll C hRm σ x0 x1 x2 X hf (fun pc lv hd => zfin_v (r := ()) C hr hd))
theorem dX3_sizeOf_0 : decode cX3_sizeOf 0 = .ok (.iload_n 1, 1) := by decide +kernel
theorem dX3_sizeOf_1 : decode cX3_sizeOf 1 = .ok (.invokestatic 35, 3) := by decide +kernel
theorem dX3_sizeOf_4 : decode cX3_sizeOf 4 = .ok (.ifCond .eq 12, 3) := by decide +kernel
theorem dX3_sizeOf_7 : decode cX3_sizeOf 7 = .ok (.aload_n 0, 1) := by decide +kernel
theorem dX3_sizeOf_8 : decode cX3_sizeOf 8 = .ok (.getfield 21, 3) := by decide +kernel
theorem dX3_sizeOf_11 : decode cX3_sizeOf 11 = .ok (.iload_n 1, 1) := by decide +kernel
theorem dX3_sizeOf_12 : decode cX3_sizeOf 12 = .ok (.iaload, 1) := by decide +kernel
theorem dX3_sizeOf_13 : decode cX3_sizeOf 13 = .ok (.goto 4, 3) := by decide +kernel
theorem dX3_sizeOf_16 : decode cX3_sizeOf 16 = .ok (.iconst 0, 1) := by decide +kernel
theorem dX3_sizeOf_17 : decode cX3_sizeOf 17 = .ok (.ireturn, 1) := by decide +kernel
theorem hyX3_sizeOf : yX3_sizeOf.cls ≠ "java/lang/invoke/MethodHandle" ∧ yX3_sizeOf.cls ≠ "java/lang/invoke/VarHandle" ∧ (parseMethodDescriptor yX3_sizeOf.desc).map (fun d => d.parameters.length) = some 1 := ⟨by decide +kernel, by decide +kernel, by decide +kernel⟩
set_option maxRecDepth 100000 in
set_option maxHeartbeats 4000000 in
theorem wfX3_sizeOf (C : zC p s m args meth c cX3_sizeOf RX3 2 D Ca B En) (hRm : zRm R 1 20 cells slots) (σ : zS) (x0 : Nat) (x1 : Int32) (τ : zS) (r : Int32) (hf : fX3_sizeOf σ x0 x1 = some (τ, r)) (hq : ∀ (pc : Nat) (lv : List (Nat × Value)), decode cX3_sizeOf pc = .ok (.ireturn, 1) → zW p l e R s m args below meth c cells slots Q D Ca B 2 τ N pc lv [.int r]) : zW p l e R s m args below meth c cells slots Q D Ca B 2 σ N 0 [(0, .ref x0), (1, .int x1)] [] := by
  unfold fX3_sizeOf at hf
  refine z_iload_n C dX3_sizeOf_0 rfl 1 rfl ?_
  obtain ⟨c1, hc1, hf⟩ := zbind hf
  refine z_callSi (As := [.int x1]) (F0 := 1) (L0 := 20) C (mX3_isList l D Ca B En C.2.2.2.2.2.2.2.1 σ N x1 _ hc1) hRm kw_323 kw_9 kw_321 kw_322 hyX3_isList (Nat.le_of_ble_eq_true rfl) (Nat.le_of_ble_eq_true rfl) rfl rfl (Nat.le_of_ble_eq_true rfl) dX3_sizeOf_1 ?_
  refine z_if_eq C 16 dX3_sizeOf_4 (by decide) (fun q4 => ?_) (fun q4 => ?_)
  · rw [if_pos q4] at hf
    refine z_iconst C (zi 0) dX3_sizeOf_16 (by decide) ?_
    cases hf
    exact hq _ _ dX3_sizeOf_17
  · rw [if_neg q4] at hf
    refine z_aload_n C dX3_sizeOf_7 rfl 0 rfl ?_
    obtain ⟨v2, hv2, hf⟩ := zbind hf
    refine gf_RX3_21 C hv2 dX3_sizeOf_8 ?_
    refine z_iload_n C dX3_sizeOf_11 rfl 1 rfl ?_
    obtain ⟨v3, hv3, hf⟩ := zbind hf
    refine z_aI C hv3 dX3_sizeOf_12 ?_
    refine z_goto C 17 dX3_sizeOf_13 (by decide) ?_
    cases hf
    exact hq _ _ dX3_sizeOf_17

theorem mX3_sizeOf (l : Launch) (D : va_G) (Ca : Nat → ClassId) (B : Nat) (En : State → Prop) (hE : zEk B En) (σ : zS) (N : Nat) (x0 : Nat) (x1 : Int32) (X : zS × Int32) (hf : fX3_sizeOf σ x0 x1 = some X) : zMi l D Ca B En yX3_sizeOf cX3_sizeOf 2 (Option.some Jvm.ClassFile.FieldType.int) 1 20 [.ref x0, .int x1] σ N X.1 X.2 :=
  zMet_i (own := RX3) hE (by decide +kernel) rfl (Nat.le_of_ble_eq_true rfl) (fun p e s m args below meth c C hr hRm => wfX3_sizeOf C hRm σ x0 x1 X.1 X.2 hf (fun pc lv hd => zfin_i C hr hd))
theorem dX3_firstOf_0 : decode cX3_firstOf 0 = .ok (.iload_n 1, 1) := by decide +kernel
theorem dX3_firstOf_1 : decode cX3_firstOf 1 = .ok (.invokestatic 35, 3) := by decide +kernel
theorem dX3_firstOf_4 : decode cX3_firstOf 4 = .ok (.ifCond .eq 12, 3) := by decide +kernel
theorem dX3_firstOf_7 : decode cX3_firstOf 7 = .ok (.aload_n 0, 1) := by decide +kernel
theorem dX3_firstOf_8 : decode cX3_firstOf 8 = .ok (.getfield 15, 3) := by decide +kernel
theorem dX3_firstOf_11 : decode cX3_firstOf 11 = .ok (.iload_n 1, 1) := by decide +kernel
theorem dX3_firstOf_12 : decode cX3_firstOf 12 = .ok (.iaload, 1) := by decide +kernel
theorem dX3_firstOf_13 : decode cX3_firstOf 13 = .ok (.goto 4, 3) := by decide +kernel
theorem dX3_firstOf_16 : decode cX3_firstOf 16 = .ok (.iconst (-1), 1) := by decide +kernel
theorem dX3_firstOf_17 : decode cX3_firstOf 17 = .ok (.ireturn, 1) := by decide +kernel
theorem hyX3_firstOf : yX3_firstOf.cls ≠ "java/lang/invoke/MethodHandle" ∧ yX3_firstOf.cls ≠ "java/lang/invoke/VarHandle" ∧ (parseMethodDescriptor yX3_firstOf.desc).map (fun d => d.parameters.length) = some 1 := ⟨by decide +kernel, by decide +kernel, by decide +kernel⟩
set_option maxRecDepth 100000 in
set_option maxHeartbeats 4000000 in
theorem wfX3_firstOf (C : zC p s m args meth c cX3_firstOf RX3 2 D Ca B En) (hRm : zRm R 1 20 cells slots) (σ : zS) (x0 : Nat) (x1 : Int32) (τ : zS) (r : Int32) (hf : fX3_firstOf σ x0 x1 = some (τ, r)) (hq : ∀ (pc : Nat) (lv : List (Nat × Value)), decode cX3_firstOf pc = .ok (.ireturn, 1) → zW p l e R s m args below meth c cells slots Q D Ca B 2 τ N pc lv [.int r]) : zW p l e R s m args below meth c cells slots Q D Ca B 2 σ N 0 [(0, .ref x0), (1, .int x1)] [] := by
  unfold fX3_firstOf at hf
  refine z_iload_n C dX3_firstOf_0 rfl 1 rfl ?_
  obtain ⟨c1, hc1, hf⟩ := zbind hf
  refine z_callSi (As := [.int x1]) (F0 := 1) (L0 := 20) C (mX3_isList l D Ca B En C.2.2.2.2.2.2.2.1 σ N x1 _ hc1) hRm kw_323 kw_9 kw_321 kw_322 hyX3_isList (Nat.le_of_ble_eq_true rfl) (Nat.le_of_ble_eq_true rfl) rfl rfl (Nat.le_of_ble_eq_true rfl) dX3_firstOf_1 ?_
  refine z_if_eq C 16 dX3_firstOf_4 (by decide) (fun q4 => ?_) (fun q4 => ?_)
  · rw [if_pos q4] at hf
    refine z_iconst C (zi (-1)) dX3_firstOf_16 (by decide) ?_
    cases hf
    exact hq _ _ dX3_firstOf_17
  · rw [if_neg q4] at hf
    refine z_aload_n C dX3_firstOf_7 rfl 0 rfl ?_
    obtain ⟨v2, hv2, hf⟩ := zbind hf
    refine gf_RX3_15 C hv2 dX3_firstOf_8 ?_
    refine z_iload_n C dX3_firstOf_11 rfl 1 rfl ?_
    obtain ⟨v3, hv3, hf⟩ := zbind hf
    refine z_aI C hv3 dX3_firstOf_12 ?_
    refine z_goto C 17 dX3_firstOf_13 (by decide) ?_
    cases hf
    exact hq _ _ dX3_firstOf_17

theorem mX3_firstOf (l : Launch) (D : va_G) (Ca : Nat → ClassId) (B : Nat) (En : State → Prop) (hE : zEk B En) (σ : zS) (N : Nat) (x0 : Nat) (x1 : Int32) (X : zS × Int32) (hf : fX3_firstOf σ x0 x1 = some X) : zMi l D Ca B En yX3_firstOf cX3_firstOf 2 (Option.some Jvm.ClassFile.FieldType.int) 1 20 [.ref x0, .int x1] σ N X.1 X.2 :=
  zMet_i (own := RX3) hE (by decide +kernel) rfl (Nat.le_of_ble_eq_true rfl) (fun p e s m args below meth c C hr hRm => wfX3_firstOf C hRm σ x0 x1 X.1 X.2 hf (fun pc lv hd => zfin_i C hr hd))
theorem dX3_takeFirst_0 : decode cX3_takeFirst 0 = .ok (.aload_n 0, 1) := by decide +kernel
theorem dX3_takeFirst_1 : decode cX3_takeFirst 1 = .ok (.iload_n 1, 1) := by decide +kernel
theorem dX3_takeFirst_2 : decode cX3_takeFirst 2 = .ok (.invokevirtual 46, 3) := by decide +kernel
theorem dX3_takeFirst_5 : decode cX3_takeFirst 5 = .ok (.istore_n 2, 1) := by decide +kernel
theorem dX3_takeFirst_6 : decode cX3_takeFirst 6 = .ok (.iload_n 1, 1) := by decide +kernel
theorem dX3_takeFirst_7 : decode cX3_takeFirst 7 = .ok (.invokestatic 35, 3) := by decide +kernel
theorem dX3_takeFirst_10 : decode cX3_takeFirst 10 = .ok (.ifCond .eq 10, 3) := by decide +kernel
theorem dX3_takeFirst_13 : decode cX3_takeFirst 13 = .ok (.iload_n 2, 1) := by decide +kernel
theorem dX3_takeFirst_14 : decode cX3_takeFirst 14 = .ok (.invokestatic 39, 3) := by decide +kernel
theorem dX3_takeFirst_17 : decode cX3_takeFirst 17 = .ok (.ifCond .ne 5, 3) := by decide +kernel
theorem dX3_takeFirst_20 : decode cX3_takeFirst 20 = .ok (.iconst (-1), 1) := by decide +kernel
theorem dX3_takeFirst_21 : decode cX3_takeFirst 21 = .ok (.ireturn, 1) := by decide +kernel
theorem dX3_takeFirst_22 : decode cX3_takeFirst 22 = .ok (.aload_n 0, 1) := by decide +kernel
theorem dX3_takeFirst_23 : decode cX3_takeFirst 23 = .ok (.getfield 15, 3) := by decide +kernel
theorem dX3_takeFirst_26 : decode cX3_takeFirst 26 = .ok (.iload_n 1, 1) := by decide +kernel
theorem dX3_takeFirst_27 : decode cX3_takeFirst 27 = .ok (.aload_n 0, 1) := by decide +kernel
theorem dX3_takeFirst_28 : decode cX3_takeFirst 28 = .ok (.getfield 9, 3) := by decide +kernel
theorem dX3_takeFirst_31 : decode cX3_takeFirst 31 = .ok (.iload_n 2, 1) := by decide +kernel
theorem dX3_takeFirst_32 : decode cX3_takeFirst 32 = .ok (.iaload, 1) := by decide +kernel
theorem dX3_takeFirst_33 : decode cX3_takeFirst 33 = .ok (.iastore, 1) := by decide +kernel
theorem dX3_takeFirst_34 : decode cX3_takeFirst 34 = .ok (.aload_n 0, 1) := by decide +kernel
theorem dX3_takeFirst_35 : decode cX3_takeFirst 35 = .ok (.getfield 21, 3) := by decide +kernel
theorem dX3_takeFirst_38 : decode cX3_takeFirst 38 = .ok (.iload_n 1, 1) := by decide +kernel
theorem dX3_takeFirst_39 : decode cX3_takeFirst 39 = .ok (.dup2, 1) := by decide +kernel
theorem dX3_takeFirst_40 : decode cX3_takeFirst 40 = .ok (.iaload, 1) := by decide +kernel
theorem dX3_takeFirst_41 : decode cX3_takeFirst 41 = .ok (.iconst 1, 1) := by decide +kernel
theorem dX3_takeFirst_42 : decode cX3_takeFirst 42 = .ok (.isub, 1) := by decide +kernel
theorem dX3_takeFirst_43 : decode cX3_takeFirst 43 = .ok (.iastore, 1) := by decide +kernel
theorem dX3_takeFirst_44 : decode cX3_takeFirst 44 = .ok (.aload_n 0, 1) := by decide +kernel
theorem dX3_takeFirst_45 : decode cX3_takeFirst 45 = .ok (.getfield 21, 3) := by decide +kernel
theorem dX3_takeFirst_48 : decode cX3_takeFirst 48 = .ok (.iload_n 1, 1) := by decide +kernel
theorem dX3_takeFirst_49 : decode cX3_takeFirst 49 = .ok (.iaload, 1) := by decide +kernel
theorem dX3_takeFirst_50 : decode cX3_takeFirst 50 = .ok (.ifCond .ne 8, 3) := by decide +kernel
theorem dX3_takeFirst_53 : decode cX3_takeFirst 53 = .ok (.aload_n 0, 1) := by decide +kernel
theorem dX3_takeFirst_54 : decode cX3_takeFirst 54 = .ok (.iload_n 1, 1) := by decide +kernel
theorem dX3_takeFirst_55 : decode cX3_takeFirst 55 = .ok (.invokevirtual 27, 3) := by decide +kernel
theorem dX3_takeFirst_58 : decode cX3_takeFirst 58 = .ok (.iload_n 2, 1) := by decide +kernel
theorem dX3_takeFirst_59 : decode cX3_takeFirst 59 = .ok (.ireturn, 1) := by decide +kernel
theorem hyX3_takeFirst : yX3_takeFirst.cls ≠ "java/lang/invoke/MethodHandle" ∧ yX3_takeFirst.cls ≠ "java/lang/invoke/VarHandle" ∧ (parseMethodDescriptor yX3_takeFirst.desc).map (fun d => d.parameters.length) = some 1 := ⟨by decide +kernel, by decide +kernel, by decide +kernel⟩
set_option maxRecDepth 100000 in
set_option maxHeartbeats 4000000 in
theorem wfX3_takeFirst (C : zC p s m args meth c cX3_takeFirst RX3 3 D Ca B En) (hRm : zRm R 2 41 cells slots) (σ : zS) (x0 : Nat) (x1 : Int32) (τ : zS) (r : Int32) (hf : fX3_takeFirst σ x0 x1 = some (τ, r)) (hq : ∀ (pc : Nat) (lv : List (Nat × Value)), decode cX3_takeFirst pc = .ok (.ireturn, 1) → zW p l e R s m args below meth c cells slots Q D Ca B 3 τ N pc lv [.int r]) : zW p l e R s m args below meth c cells slots Q D Ca B 3 σ N 0 [(0, .ref x0), (1, .int x1)] [] := by
  unfold fX3_takeFirst at hf
  refine z_aload_n C dX3_takeFirst_0 rfl 0 rfl ?_
  refine z_iload_n C dX3_takeFirst_1 rfl 1 rfl ?_
  obtain ⟨c1, hc1, hf⟩ := zbind hf
  obtain ⟨kc1, hc1⟩ := zck_ok hc1
  refine z_callVi (As := [.int x1]) (F0 := 2) (L0 := 41) C (mX3_firstOf l D Ca B En C.2.2.2.2.2.2.2.1 σ N x0 x1 _ hc1) hRm kc1 rfl kw_336 kw_9 kw_692 kw_334 kw_335 hyX3_firstOf (Nat.le_of_ble_eq_true rfl) (Nat.le_of_ble_eq_true rfl) rfl rfl (Nat.le_of_ble_eq_true rfl) dX3_takeFirst_2 ?_
  refine z_istore_n (lv2 := [(2, .int c1.2), (0, .ref x0), (1, .int x1)]) C dX3_takeFirst_5 rfl (by decide) rfl ?_
  refine z_iload_n C dX3_takeFirst_6 rfl 2 rfl ?_
  obtain ⟨c2, hc2, hf⟩ := zbind hf
  refine z_callSi (As := [.int x1]) (F0 := 2) (L0 := 41) C (mX3_isList l D Ca B En C.2.2.2.2.2.2.2.1 c1.1 N x1 _ hc2) hRm kw_323 kw_9 kw_321 kw_322 hyX3_isList (Nat.le_of_ble_eq_true rfl) (Nat.le_of_ble_eq_true rfl) rfl rfl (Nat.le_of_ble_eq_true rfl) dX3_takeFirst_7 ?_
  refine z_if_eq C 20 dX3_takeFirst_10 (by decide) (fun q16 => ?_) (fun q16 => ?_)
  · rw [if_pos q16] at hf
    refine z_iconst C (zi (-1)) dX3_takeFirst_20 (by decide) ?_
    cases hf
    exact hq _ _ dX3_takeFirst_21
  · rw [if_neg q16] at hf
    refine z_iload_n C dX3_takeFirst_13 rfl 0 rfl ?_
    obtain ⟨c3, hc3, hf⟩ := zbind hf
    refine z_callSi (As := [.int c1.2]) (F0 := 2) (L0 := 41) C (mX3_isRecord l D Ca B En C.2.2.2.2.2.2.2.1 c2.1 N c1.2 _ hc3) hRm kw_326 kw_9 kw_324 kw_325 hyX3_isRecord (Nat.le_of_ble_eq_true rfl) (Nat.le_of_ble_eq_true rfl) rfl rfl (Nat.le_of_ble_eq_true rfl) dX3_takeFirst_14 ?_
    refine z_if_ne C 22 dX3_takeFirst_17 (by decide) (fun q15 => ?_) (fun q15 => ?_)
    · rw [if_neg q15] at hf
      refine z_aload_n C dX3_takeFirst_22 rfl 1 rfl ?_
      obtain ⟨v4, hv4, hf⟩ := zbind hf
      refine gf_RX3_15 C hv4 dX3_takeFirst_23 ?_
      refine z_iload_n C dX3_takeFirst_26 rfl 2 rfl ?_
      refine z_aload_n C dX3_takeFirst_27 rfl 1 rfl ?_
      obtain ⟨v5, hv5, hf⟩ := zbind hf
      refine gf_RX3_9 C hv5 dX3_takeFirst_28 ?_
      refine z_iload_n C dX3_takeFirst_31 rfl 0 rfl ?_
      obtain ⟨v6, hv6, hf⟩ := zbind hf
      refine z_aI C hv6 dX3_takeFirst_32 ?_
      obtain ⟨σ7, hσ7, hf⟩ := zbind hf
      refine z_sI C hσ7 dX3_takeFirst_33 ?_
      refine z_aload_n C dX3_takeFirst_34 rfl 1 rfl ?_
      obtain ⟨v8, hv8, hf⟩ := zbind hf
      refine gf_RX3_21 C hv8 dX3_takeFirst_35 ?_
      refine z_iload_n C dX3_takeFirst_38 rfl 2 rfl ?_
      refine z_dup2 C dX3_takeFirst_39 rfl rfl ?_
      obtain ⟨v9, hv9, hf⟩ := zbind hf
      refine z_aI C hv9 dX3_takeFirst_40 ?_
      refine z_iconst C (zi 1) dX3_takeFirst_41 (by decide) ?_
      refine z_isub C dX3_takeFirst_42 ?_
      obtain ⟨σ10, hσ10, hf⟩ := zbind hf
      refine z_sI C hσ10 dX3_takeFirst_43 ?_
      refine z_aload_n C dX3_takeFirst_44 rfl 1 rfl ?_
      obtain ⟨v11, hv11, hf⟩ := zbind hf
      refine gf_RX3_21 C hv11 dX3_takeFirst_45 ?_
      refine z_iload_n C dX3_takeFirst_48 rfl 2 rfl ?_
      obtain ⟨v12, hv12, hf⟩ := zbind hf
      refine z_aI C hv12 dX3_takeFirst_49 ?_
      refine z_if_ne C 58 dX3_takeFirst_50 (by decide) (fun q14 => ?_) (fun q14 => ?_)
      · rw [if_neg q14] at hf
        refine z_iload_n C dX3_takeFirst_58 rfl 0 rfl ?_
        cases hf
        exact hq _ _ dX3_takeFirst_59
      · rw [if_pos q14] at hf
        refine z_aload_n C dX3_takeFirst_53 rfl 1 rfl ?_
        refine z_iload_n C dX3_takeFirst_54 rfl 2 rfl ?_
        obtain ⟨c13, hc13, hf⟩ := zbind hf
        obtain ⟨kc13, hc13⟩ := zck_ok hc13
        refine z_callVv (As := [.int x1]) (F0 := 2) (L0 := 41) C (mX3_clear l D Ca B En C.2.2.2.2.2.2.2.1 σ10 N x0 x1 _ hc13) hRm kc13 rfl kw_206 kw_9 kw_203 kw_204 kw_205 hyX3_clear (Nat.le_of_ble_eq_true rfl) (Nat.le_of_ble_eq_true rfl) rfl rfl (Nat.le_of_ble_eq_true rfl) dX3_takeFirst_55 ?_
        refine z_iload_n C dX3_takeFirst_58 rfl 0 rfl ?_
        cases hf
        exact hq _ _ dX3_takeFirst_59
    · rw [if_pos q15] at hf
      refine z_iconst C (zi (-1)) dX3_takeFirst_20 (by decide) ?_
      cases hf
      exact hq _ _ dX3_takeFirst_21

theorem mX3_takeFirst (l : Launch) (D : va_G) (Ca : Nat → ClassId) (B : Nat) (En : State → Prop) (hE : zEk B En) (σ : zS) (N : Nat) (x0 : Nat) (x1 : Int32) (X : zS × Int32) (hf : fX3_takeFirst σ x0 x1 = some X) : zMi l D Ca B En yX3_takeFirst cX3_takeFirst 3 (Option.some Jvm.ClassFile.FieldType.int) 2 41 [.ref x0, .int x1] σ N X.1 X.2 :=
  zMet_i (own := RX3) hE (by decide +kernel) rfl (Nat.le_of_ble_eq_true rfl) (fun p e s m args below meth c C hr hRm => wfX3_takeFirst C hRm σ x0 x1 X.1 X.2 hf (fun pc lv hd => zfin_i C hr hd))
theorem dX7_keyOf_0 : decode cX7_keyOf 0 = .ok (.iload_n 1, 1) := by decide +kernel
theorem dX7_keyOf_1 : decode cX7_keyOf 1 = .ok (.ifCond .lt 19, 3) := by decide +kernel
theorem dX7_keyOf_4 : decode cX7_keyOf 4 = .ok (.iload_n 1, 1) := by decide +kernel
theorem dX7_keyOf_5 : decode cX7_keyOf 5 = .ok (.sipush 800, 3) := by decide +kernel
theorem dX7_keyOf_8 : decode cX7_keyOf 8 = .ok (.if_icmp .ge 12, 3) := by decide +kernel
theorem dX7_keyOf_11 : decode cX7_keyOf 11 = .ok (.aload_n 0, 1) := by decide +kernel
theorem dX7_keyOf_12 : decode cX7_keyOf 12 = .ok (.getfield 31, 3) := by decide +kernel
theorem dX7_keyOf_15 : decode cX7_keyOf 15 = .ok (.iload_n 1, 1) := by decide +kernel
theorem dX7_keyOf_16 : decode cX7_keyOf 16 = .ok (.iaload, 1) := by decide +kernel
theorem dX7_keyOf_17 : decode cX7_keyOf 17 = .ok (.goto 4, 3) := by decide +kernel
theorem dX7_keyOf_20 : decode cX7_keyOf 20 = .ok (.iconst 0, 1) := by decide +kernel
theorem dX7_keyOf_21 : decode cX7_keyOf 21 = .ok (.ireturn, 1) := by decide +kernel
theorem hyX7_keyOf : yX7_keyOf.cls ≠ "java/lang/invoke/MethodHandle" ∧ yX7_keyOf.cls ≠ "java/lang/invoke/VarHandle" ∧ (parseMethodDescriptor yX7_keyOf.desc).map (fun d => d.parameters.length) = some 1 := ⟨by decide +kernel, by decide +kernel, by decide +kernel⟩
set_option maxRecDepth 100000 in
set_option maxHeartbeats 4000000 in
theorem wfX7_keyOf (C : zC p s m args meth c cX7_keyOf RX7 2 D Ca B En) (hRm : zRm R 0 0 cells slots) (σ : zS) (x0 : Nat) (x1 : Int32) (τ : zS) (r : Int32) (hf : fX7_keyOf σ x0 x1 = some (τ, r)) (hq : ∀ (pc : Nat) (lv : List (Nat × Value)), decode cX7_keyOf pc = .ok (.ireturn, 1) → zW p l e R s m args below meth c cells slots Q D Ca B 2 τ N pc lv [.int r]) : zW p l e R s m args below meth c cells slots Q D Ca B 2 σ N 0 [(0, .ref x0), (1, .int x1)] [] := by
  unfold fX7_keyOf at hf
  refine z_iload_n C dX7_keyOf_0 rfl 1 rfl ?_
  refine z_if_lt C 20 dX7_keyOf_1 (by decide) (fun q4 => ?_) (fun q4 => ?_)
  · rw [if_pos q4] at hf
    refine z_iconst C (zi 0) dX7_keyOf_20 (by decide) ?_
    cases hf
    exact hq _ _ dX7_keyOf_21
  · rw [if_neg q4] at hf
    refine z_iload_n C dX7_keyOf_4 rfl 1 rfl ?_
    refine z_sipush C (zi 800) dX7_keyOf_5 (by decide) ?_
    refine z_icmp_ge C 20 dX7_keyOf_8 (by decide) (fun q3 => ?_) (fun q3 => ?_)
    · rw [if_pos q3] at hf
      refine z_iconst C (zi 0) dX7_keyOf_20 (by decide) ?_
      cases hf
      exact hq _ _ dX7_keyOf_21
    · rw [if_neg q3] at hf
      refine z_aload_n C dX7_keyOf_11 rfl 0 rfl ?_
      obtain ⟨v1, hv1, hf⟩ := zbind hf
      refine gf_RX7_31 C hv1 dX7_keyOf_12 ?_
      refine z_iload_n C dX7_keyOf_15 rfl 1 rfl ?_
      obtain ⟨v2, hv2, hf⟩ := zbind hf
      refine z_aI C hv2 dX7_keyOf_16 ?_
      refine z_goto C 21 dX7_keyOf_17 (by decide) ?_
      cases hf
      exact hq _ _ dX7_keyOf_21

theorem mX7_keyOf (l : Launch) (D : va_G) (Ca : Nat → ClassId) (B : Nat) (En : State → Prop) (hE : zEk B En) (σ : zS) (N : Nat) (x0 : Nat) (x1 : Int32) (X : zS × Int32) (hf : fX7_keyOf σ x0 x1 = some X) : zMi l D Ca B En yX7_keyOf cX7_keyOf 2 (Option.some Jvm.ClassFile.FieldType.int) 0 0 [.ref x0, .int x1] σ N X.1 X.2 :=
  zMet_i (own := RX7) hE (by decide +kernel) rfl (Nat.le_of_ble_eq_true rfl) (fun p e s m args below meth c C hr hRm => wfX7_keyOf C hRm σ x0 x1 X.1 X.2 hf (fun pc lv hd => zfin_i C hr hd))
theorem dX9_ownerOf_0 : decode cX9_ownerOf 0 = .ok (.iload_n 0, 1) := by decide +kernel
theorem dX9_ownerOf_1 : decode cX9_ownerOf 1 = .ok (.bipush 8, 2) := by decide +kernel
theorem dX9_ownerOf_3 : decode cX9_ownerOf 3 = .ok (.irem, 1) := by decide +kernel
theorem dX9_ownerOf_4 : decode cX9_ownerOf 4 = .ok (.iload_n 1, 1) := by decide +kernel
theorem dX9_ownerOf_5 : decode cX9_ownerOf 5 = .ok (.imul, 1) := by decide +kernel
theorem dX9_ownerOf_6 : decode cX9_ownerOf 6 = .ok (.bipush 8, 2) := by decide +kernel
theorem dX9_ownerOf_8 : decode cX9_ownerOf 8 = .ok (.idiv, 1) := by decide +kernel
theorem dX9_ownerOf_9 : decode cX9_ownerOf 9 = .ok (.ireturn, 1) := by decide +kernel
theorem hyX9_ownerOf : yX9_ownerOf.cls ≠ "java/lang/invoke/MethodHandle" ∧ yX9_ownerOf.cls ≠ "java/lang/invoke/VarHandle" ∧ (parseMethodDescriptor yX9_ownerOf.desc).map (fun d => d.parameters.length) = some 2 := ⟨by decide +kernel, by decide +kernel, by decide +kernel⟩
set_option maxRecDepth 100000 in
set_option maxHeartbeats 4000000 in
theorem wfX9_ownerOf (C : zC p s m args meth c cX9_ownerOf RX9 2 D Ca B En) (hRm : zRm R 0 0 cells slots) (σ : zS) (x0 : Int32) (x1 : Int32) (τ : zS) (r : Int32) (hf : fX9_ownerOf σ x0 x1 = some (τ, r)) (hq : ∀ (pc : Nat) (lv : List (Nat × Value)), decode cX9_ownerOf pc = .ok (.ireturn, 1) → zW p l e R s m args below meth c cells slots Q D Ca B 2 τ N pc lv [.int r]) : zW p l e R s m args below meth c cells slots Q D Ca B 2 σ N 0 [(0, .int x0), (1, .int x1)] [] := by
  unfold fX9_ownerOf at hf
  refine z_iload_n C dX9_ownerOf_0 rfl 0 rfl ?_
  refine z_bipush C (zi 8) dX9_ownerOf_1 (by decide) ?_
  refine z_irem C dX9_ownerOf_3 (by decide) ?_
  refine z_iload_n C dX9_ownerOf_4 rfl 1 rfl ?_
  refine z_imul C dX9_ownerOf_5 ?_
  refine z_bipush C (zi 8) dX9_ownerOf_6 (by decide) ?_
  refine z_idiv C dX9_ownerOf_8 (by decide) ?_
  cases hf
  exact hq _ _ dX9_ownerOf_9

theorem mX9_ownerOf (l : Launch) (D : va_G) (Ca : Nat → ClassId) (B : Nat) (En : State → Prop) (hE : zEk B En) (σ : zS) (N : Nat) (x0 : Int32) (x1 : Int32) (X : zS × Int32) (hf : fX9_ownerOf σ x0 x1 = some X) : zMi l D Ca B En yX9_ownerOf cX9_ownerOf 2 (Option.some Jvm.ClassFile.FieldType.int) 0 0 [.int x0, .int x1] σ N X.1 X.2 :=
  zMet_i (own := RX9) hE (by decide +kernel) rfl (Nat.le_of_ble_eq_true rfl) (fun p e s m args below meth c C hr hRm => wfX9_ownerOf C hRm σ x0 x1 X.1 X.2 hf (fun pc lv hd => zfin_i C hr hd))
theorem dX0_spread_0 : decode cX0_spread 0 = .ok (.iconst 0, 1) := by decide +kernel
theorem dX0_spread_1 : decode cX0_spread 1 = .ok (.istore 4, 2) := by decide +kernel
theorem dX0_spread_3 : decode cX0_spread 3 = .ok (.iload 4, 2) := by decide +kernel
theorem dX0_spread_5 : decode cX0_spread 5 = .ok (.aload_n 1, 1) := by decide +kernel
theorem dX0_spread_6 : decode cX0_spread 6 = .ok (.getfield 80, 3) := by decide +kernel
theorem dX0_spread_9 : decode cX0_spread 9 = .ok (.if_icmp .ge 97, 3) := by decide +kernel
theorem dX0_spread_12 : decode cX0_spread 12 = .ok (.iconst 0, 1) := by decide +kernel
theorem dX0_spread_13 : decode cX0_spread 13 = .ok (.istore 5, 2) := by decide +kernel
theorem dX0_spread_15 : decode cX0_spread 15 = .ok (.iload 5, 2) := by decide +kernel
theorem dX0_spread_17 : decode cX0_spread 17 = .ok (.iload_n 2, 1) := by decide +kernel
theorem dX0_spread_18 : decode cX0_spread 18 = .ok (.if_icmp .ge 25, 3) := by decide +kernel
theorem dX0_spread_21 : decode cX0_spread 21 = .ok (.aload_n 0, 1) := by decide +kernel
theorem dX0_spread_22 : decode cX0_spread 22 = .ok (.getfield 24, 3) := by decide +kernel
theorem dX0_spread_25 : decode cX0_spread 25 = .ok (.iload 5, 2) := by decide +kernel
theorem dX0_spread_27 : decode cX0_spread 27 = .ok (.iload 4, 2) := by decide +kernel
theorem dX0_spread_29 : decode cX0_spread 29 = .ok (.invokestatic 85, 3) := by decide +kernel
theorem dX0_spread_32 : decode cX0_spread 32 = .ok (.bipush 24, 2) := by decide +kernel
theorem dX0_spread_34 : decode cX0_spread 34 = .ok (.invokevirtual 89, 3) := by decide +kernel
theorem dX0_spread_37 : decode cX0_spread 37 = .ok (.iinc 5 1, 3) := by decide +kernel
theorem dX0_spread_40 : decode cX0_spread 40 = .ok (.goto (-25), 3) := by decide +kernel
theorem dX0_spread_43 : decode cX0_spread 43 = .ok (.aload_n 0, 1) := by decide +kernel
theorem dX0_spread_44 : decode cX0_spread 44 = .ok (.getfield 24, 3) := by decide +kernel
theorem dX0_spread_47 : decode cX0_spread 47 = .ok (.bipush 24, 2) := by decide +kernel
theorem dX0_spread_49 : decode cX0_spread 49 = .ok (.invokevirtual 92, 3) := by decide +kernel
theorem dX0_spread_52 : decode cX0_spread 52 = .ok (.istore 5, 2) := by decide +kernel
theorem dX0_spread_54 : decode cX0_spread 54 = .ok (.iload 5, 2) := by decide +kernel
theorem dX0_spread_56 : decode cX0_spread 56 = .ok (.ifCond .le 44, 3) := by decide +kernel
theorem dX0_spread_59 : decode cX0_spread 59 = .ok (.aload_n 0, 1) := by decide +kernel
theorem dX0_spread_60 : decode cX0_spread 60 = .ok (.getfield 24, 3) := by decide +kernel
theorem dX0_spread_63 : decode cX0_spread 63 = .ok (.bipush 24, 2) := by decide +kernel
theorem dX0_spread_65 : decode cX0_spread 65 = .ok (.invokevirtual 95, 3) := by decide +kernel
theorem dX0_spread_68 : decode cX0_spread 68 = .ok (.istore 6, 2) := by decide +kernel
theorem dX0_spread_70 : decode cX0_spread 70 = .ok (.aload_n 0, 1) := by decide +kernel
theorem dX0_spread_71 : decode cX0_spread 71 = .ok (.getfield 24, 3) := by decide +kernel
theorem dX0_spread_74 : decode cX0_spread 74 = .ok (.aload_n 1, 1) := by decide +kernel
theorem dX0_spread_75 : decode cX0_spread 75 = .ok (.iload 6, 2) := by decide +kernel
theorem dX0_spread_77 : decode cX0_spread 77 = .ok (.invokevirtual 98, 3) := by decide +kernel
theorem dX0_spread_80 : decode cX0_spread 80 = .ok (.iload_n 3, 1) := by decide +kernel
theorem dX0_spread_81 : decode cX0_spread 81 = .ok (.invokestatic 101, 3) := by decide +kernel
theorem dX0_spread_84 : decode cX0_spread 84 = .ok (.iload 4, 2) := by decide +kernel
theorem dX0_spread_86 : decode cX0_spread 86 = .ok (.invokestatic 85, 3) := by decide +kernel
theorem dX0_spread_89 : decode cX0_spread 89 = .ok (.iload 6, 2) := by decide +kernel
theorem dX0_spread_91 : decode cX0_spread 91 = .ok (.invokevirtual 76, 3) := by decide +kernel
theorem dX0_spread_94 : decode cX0_spread 94 = .ok (.iinc 5 (-1), 3) := by decide +kernel
theorem dX0_spread_97 : decode cX0_spread 97 = .ok (.goto (-43), 3) := by decide +kernel
theorem dX0_spread_100 : decode cX0_spread 100 = .ok (.iinc 4 1, 3) := by decide +kernel
theorem dX0_spread_103 : decode cX0_spread 103 = .ok (.goto (-100), 3) := by decide +kernel
theorem dX0_spread_106 : decode cX0_spread 106 = .ok (.iconst 0, 1) := by decide +kernel
theorem dX0_spread_107 : decode cX0_spread 107 = .ok (.istore 4, 2) := by decide +kernel
theorem dX0_spread_109 : decode cX0_spread 109 = .ok (.iload 4, 2) := by decide +kernel
theorem dX0_spread_111 : decode cX0_spread 111 = .ok (.aload_n 1, 1) := by decide +kernel
theorem dX0_spread_112 : decode cX0_spread 112 = .ok (.getfield 104, 3) := by decide +kernel
theorem dX0_spread_115 : decode cX0_spread 115 = .ok (.if_icmp .ge 101, 3) := by decide +kernel
theorem dX0_spread_118 : decode cX0_spread 118 = .ok (.iconst 0, 1) := by decide +kernel
theorem dX0_spread_119 : decode cX0_spread 119 = .ok (.istore 5, 2) := by decide +kernel
theorem dX0_spread_121 : decode cX0_spread 121 = .ok (.iload 5, 2) := by decide +kernel
theorem dX0_spread_123 : decode cX0_spread 123 = .ok (.iload_n 2, 1) := by decide +kernel
theorem dX0_spread_124 : decode cX0_spread 124 = .ok (.if_icmp .ge 27, 3) := by decide +kernel
theorem dX0_spread_127 : decode cX0_spread 127 = .ok (.aload_n 0, 1) := by decide +kernel
theorem dX0_spread_128 : decode cX0_spread 128 = .ok (.getfield 24, 3) := by decide +kernel
theorem dX0_spread_131 : decode cX0_spread 131 = .ok (.iconst 4, 1) := by decide +kernel
theorem dX0_spread_132 : decode cX0_spread 132 = .ok (.iload 4, 2) := by decide +kernel
theorem dX0_spread_134 : decode cX0_spread 134 = .ok (.iadd, 1) := by decide +kernel
theorem dX0_spread_135 : decode cX0_spread 135 = .ok (.iload 5, 2) := by decide +kernel
theorem dX0_spread_137 : decode cX0_spread 137 = .ok (.invokestatic 85, 3) := by decide +kernel
theorem dX0_spread_140 : decode cX0_spread 140 = .ok (.bipush 24, 2) := by decide +kernel
theorem dX0_spread_142 : decode cX0_spread 142 = .ok (.invokevirtual 89, 3) := by decide +kernel
theorem dX0_spread_145 : decode cX0_spread 145 = .ok (.iinc 5 1, 3) := by decide +kernel
theorem dX0_spread_148 : decode cX0_spread 148 = .ok (.goto (-27), 3) := by decide +kernel
theorem dX0_spread_151 : decode cX0_spread 151 = .ok (.aload_n 0, 1) := by decide +kernel
theorem dX0_spread_152 : decode cX0_spread 152 = .ok (.getfield 24, 3) := by decide +kernel
theorem dX0_spread_155 : decode cX0_spread 155 = .ok (.bipush 24, 2) := by decide +kernel
theorem dX0_spread_157 : decode cX0_spread 157 = .ok (.invokevirtual 92, 3) := by decide +kernel
theorem dX0_spread_160 : decode cX0_spread 160 = .ok (.istore 5, 2) := by decide +kernel
theorem dX0_spread_162 : decode cX0_spread 162 = .ok (.iload 5, 2) := by decide +kernel
theorem dX0_spread_164 : decode cX0_spread 164 = .ok (.ifCond .le 46, 3) := by decide +kernel
theorem dX0_spread_167 : decode cX0_spread 167 = .ok (.aload_n 0, 1) := by decide +kernel
theorem dX0_spread_168 : decode cX0_spread 168 = .ok (.getfield 24, 3) := by decide +kernel
theorem dX0_spread_171 : decode cX0_spread 171 = .ok (.bipush 24, 2) := by decide +kernel
theorem dX0_spread_173 : decode cX0_spread 173 = .ok (.invokevirtual 95, 3) := by decide +kernel
theorem dX0_spread_176 : decode cX0_spread 176 = .ok (.istore 6, 2) := by decide +kernel
theorem dX0_spread_178 : decode cX0_spread 178 = .ok (.aload_n 0, 1) := by decide +kernel
theorem dX0_spread_179 : decode cX0_spread 179 = .ok (.getfield 24, 3) := by decide +kernel
theorem dX0_spread_182 : decode cX0_spread 182 = .ok (.iconst 4, 1) := by decide +kernel
theorem dX0_spread_183 : decode cX0_spread 183 = .ok (.iload 4, 2) := by decide +kernel
theorem dX0_spread_185 : decode cX0_spread 185 = .ok (.iadd, 1) := by decide +kernel
theorem dX0_spread_186 : decode cX0_spread 186 = .ok (.aload_n 1, 1) := by decide +kernel
theorem dX0_spread_187 : decode cX0_spread 187 = .ok (.iload 6, 2) := by decide +kernel
theorem dX0_spread_189 : decode cX0_spread 189 = .ok (.invokevirtual 98, 3) := by decide +kernel
theorem dX0_spread_192 : decode cX0_spread 192 = .ok (.iload_n 3, 1) := by decide +kernel
theorem dX0_spread_193 : decode cX0_spread 193 = .ok (.invokestatic 101, 3) := by decide +kernel
theorem dX0_spread_196 : decode cX0_spread 196 = .ok (.invokestatic 85, 3) := by decide +kernel
theorem dX0_spread_199 : decode cX0_spread 199 = .ok (.iload 6, 2) := by decide +kernel
theorem dX0_spread_201 : decode cX0_spread 201 = .ok (.invokevirtual 76, 3) := by decide +kernel
theorem dX0_spread_204 : decode cX0_spread 204 = .ok (.iinc 5 (-1), 3) := by decide +kernel
theorem dX0_spread_207 : decode cX0_spread 207 = .ok (.goto (-45), 3) := by decide +kernel
theorem dX0_spread_210 : decode cX0_spread 210 = .ok (.iinc 4 1, 3) := by decide +kernel
theorem dX0_spread_213 : decode cX0_spread 213 = .ok (.goto (-104), 3) := by decide +kernel
theorem dX0_spread_216 : decode cX0_spread 216 = .ok (.return_, 1) := by decide +kernel
theorem hyX0_spread : yX0_spread.cls ≠ "java/lang/invoke/MethodHandle" ∧ yX0_spread.cls ≠ "java/lang/invoke/VarHandle" ∧ (parseMethodDescriptor yX0_spread.desc).map (fun d => d.parameters.length) = some 3 := ⟨by decide +kernel, by decide +kernel, by decide +kernel⟩
set_option maxRecDepth 100000 in
set_option maxHeartbeats 4000000 in
theorem wsX0_spread_15b (C : zC p s m args meth c cX0_spread RX0 7 D Ca B En) (hRm : zRm R 3 63 cells slots) (x0 : Nat) (x1 : Nat) (x2 : Int32) (x3 : Int32) (x4 : Int32) (σ : zS) (u5 : Int32) (y : (zS × Int32) ⊕ zS) (hf : sX0_spread_15b x0 x1 x2 x3 x4 σ u5 = some y) (hk : (∀ z : (zS × Int32), y = .inl z → zW p l e R s m args below meth c cells slots Q D Ca B 7 z.1 N 15 [(0, .ref x0), (1, .ref x1), (2, .int x2), (3, .int x3), (4, .int x4), (5, .int z.2)] []) ∧ (∀ z : zS, y = .inr z → zW p l e R s m args below meth c cells slots Q D Ca B 7 z N 43 [(0, .ref x0), (1, .ref x1), (2, .int x2), (3, .int x3), (4, .int x4)] [])) : zW p l e R s m args below meth c cells slots Q D Ca B 7 σ N 15 [(0, .ref x0), (1, .ref x1), (2, .int x2), (3, .int x3), (4, .int x4), (5, .int u5)] [] := by
  unfold sX0_spread_15b at hf
  refine z_iload C dX0_spread_15 5 rfl ?_
  refine z_iload_n C dX0_spread_17 rfl 2 rfl ?_
  refine z_icmp_ge C 43 dX0_spread_18 (by decide) (fun q5 => ?_) (fun q5 => ?_)
  · rw [if_pos q5] at hf
    cases hf
    refine z_sub [0, 1, 2, 3, 4] rfl ?_
    exact hk.2 _ rfl
  · rw [if_neg q5] at hf
    refine z_aload_n C dX0_spread_21 rfl 0 rfl ?_
    obtain ⟨v2, hv2, hf⟩ := zbind hf
    refine gf_RX0_24 C hv2 dX0_spread_22 ?_
    refine z_iload C dX0_spread_25 5 rfl ?_
    refine z_iload C dX0_spread_27 4 rfl ?_
    obtain ⟨c3, hc3, hf⟩ := zbind hf
    refine z_callSNi (host := "BarrierFlow") (As := [.int u5, .int x4]) (F0 := 3) (L0 := 63) C (mX9_channel l D Ca B En C.2.2.2.2.2.2.2.1 σ N u5 x4 _ hc3) hRm kw_629 kw_1 (by decide) kw_628 hyX9_channel (Nat.le_of_ble_eq_true rfl) (Nat.le_of_ble_eq_true rfl) rfl rfl (Nat.le_of_ble_eq_true rfl) dX0_spread_29 ?_
    refine z_bipush C (zi 24) dX0_spread_32 (by decide) ?_
    obtain ⟨c4, hc4, hf⟩ := zbind hf
    obtain ⟨kc4, hc4⟩ := zck_ok hc4
    refine z_callVv (As := [.int c3.2, .int ((zi 24))]) (F0 := 3) (L0 := 63) C (mX3_moveAll l D Ca B En C.2.2.2.2.2.2.2.1 c3.1 N v2 c3.2 ((zi 24)) _ hc4) hRm kc4 rfl kw_320 kw_9 kw_1204 kw_318 kw_319 hyX3_moveAll (Nat.le_of_ble_eq_true rfl) (Nat.le_of_ble_eq_true rfl) rfl rfl (Nat.le_of_ble_eq_true rfl) dX0_spread_34 ?_
    refine z_iinc (lv2 := [(5, .int (u5 + (zi 1))), (0, .ref x0), (1, .ref x1), (2, .int x2), (3, .int x3), (4, .int x4)]) C (u5 + (zi 1)) dX0_spread_37 5 rfl rfl (by decide) rfl ?_
    refine z_goto C 15 dX0_spread_40 (by decide) ?_
    cases hf
    refine z_sub [1, 2, 3, 4, 5, 0] rfl ?_
    exact hk.1 _ rfl

theorem wsX0_spread_15 (C : zC p s m args meth c cX0_spread RX0 7 D Ca B En) (hRm : zRm R 3 63 cells slots) (x0 : Nat) (x1 : Nat) (x2 : Int32) (x3 : Int32) (x4 : Int32) (n : Nat) (z : (zS × Int32)) (x : zS) (hf : zloop (sX0_spread_15 x0 x1 x2 x3 x4) n z = some x) (hk : (∀ o : zS, x = o → zW p l e R s m args below meth c cells slots Q D Ca B 7 o N 43 [(0, .ref x0), (1, .ref x1), (2, .int x2), (3, .int x3), (4, .int x4)] [])) : zW p l e R s m args below meth c cells slots Q D Ca B 7 z.1 N 15 [(0, .ref x0), (1, .ref x1), (2, .int x2), (3, .int x3), (4, .int x4), (5, .int z.2)] [] := by
  refine zloop_W (P := fun z : (zS × Int32) => zW p l e R s m args below meth c cells slots Q D Ca B 7 z.1 N 15 [(0, .ref x0), (1, .ref x1), (2, .int x2), (3, .int x3), (4, .int x4), (5, .int z.2)] []) (K := fun x : zS => (∀ o : zS, x = o → zW p l e R s m args below meth c cells slots Q D Ca B 7 o N 43 [(0, .ref x0), (1, .ref x1), (2, .int x2), (3, .int x3), (4, .int x4)] [])) ?_ n z x hf hk
  intro z y hy h1 h2
  refine wsX0_spread_15b C hRm x0 x1 x2 x3 x4 z.1 z.2 y hy ⟨fun z2 e => h1 z2 e, fun o e => (h2 _ e) o rfl⟩
set_option maxRecDepth 100000 in
set_option maxHeartbeats 4000000 in
theorem wsX0_spread_54b (C : zC p s m args meth c cX0_spread RX0 7 D Ca B En) (hRm : zRm R 3 63 cells slots) (x0 : Nat) (x1 : Nat) (x2 : Int32) (x3 : Int32) (x4 : Int32) (σ : zS) (u5 : Int32) (y : (zS × Int32) ⊕ zS) (hf : sX0_spread_54b x0 x1 x2 x3 x4 σ u5 = some y) (hk : (∀ z : (zS × Int32), y = .inl z → zW p l e R s m args below meth c cells slots Q D Ca B 7 z.1 N 54 [(0, .ref x0), (1, .ref x1), (2, .int x2), (3, .int x3), (4, .int x4), (5, .int z.2)] []) ∧ (∀ z : zS, y = .inr z → zW p l e R s m args below meth c cells slots Q D Ca B 7 z N 100 [(0, .ref x0), (1, .ref x1), (2, .int x2), (3, .int x3), (4, .int x4)] [])) : zW p l e R s m args below meth c cells slots Q D Ca B 7 σ N 54 [(0, .ref x0), (1, .ref x1), (2, .int x2), (3, .int x3), (4, .int x4), (5, .int u5)] [] := by
  unfold sX0_spread_54b at hf
  refine z_iload C dX0_spread_54 5 rfl ?_
  refine z_if_le C 100 dX0_spread_56 (by decide) (fun q16 => ?_) (fun q16 => ?_)
  · rw [if_pos q16] at hf
    cases hf
    refine z_sub [0, 1, 2, 3, 4] rfl ?_
    exact hk.2 _ rfl
  · rw [if_neg q16] at hf
    refine z_aload_n C dX0_spread_59 rfl 0 rfl ?_
    obtain ⟨v9, hv9, hf⟩ := zbind hf
    refine gf_RX0_24 C hv9 dX0_spread_60 ?_
    refine z_bipush C (zi 24) dX0_spread_63 (by decide) ?_
    obtain ⟨c10, hc10, hf⟩ := zbind hf
    obtain ⟨kc10, hc10⟩ := zck_ok hc10
    refine z_callVi (As := [.int ((zi 24))]) (F0 := 3) (L0 := 63) C (mX3_takeFirst l D Ca B En C.2.2.2.2.2.2.2.1 σ N v9 ((zi 24)) _ hc10) hRm kc10 rfl kw_691 kw_9 kw_1206 kw_689 kw_690 hyX3_takeFirst (Nat.le_of_ble_eq_true rfl) (Nat.le_of_ble_eq_true rfl) rfl rfl (Nat.le_of_ble_eq_true rfl) dX0_spread_65 ?_
    refine z_istore (lv2 := [(6, .int c10.2), (0, .ref x0), (1, .ref x1), (2, .int x2), (3, .int x3), (4, .int x4), (5, .int u5)]) C dX0_spread_68 (by decide) rfl ?_
    refine z_aload_n C dX0_spread_70 rfl 1 rfl ?_
    obtain ⟨v11, hv11, hf⟩ := zbind hf
    refine gf_RX0_24 C hv11 dX0_spread_71 ?_
    refine z_aload_n C dX0_spread_74 rfl 2 rfl ?_
    refine z_iload C dX0_spread_75 0 rfl ?_
    obtain ⟨c12, hc12, hf⟩ := zbind hf
    obtain ⟨kc12, hc12⟩ := zck_ok hc12
    refine z_callVi (As := [.int c10.2]) (F0 := 3) (L0 := 63) C (mX7_keyOf l D Ca B En C.2.2.2.2.2.2.2.1 c10.1 N x1 c10.2 _ hc12) hRm kc12 rfl kw_638 kw_5 kw_1207 kw_636 kw_637 hyX7_keyOf (Nat.le_of_ble_eq_true rfl) (Nat.le_of_ble_eq_true rfl) rfl rfl (Nat.le_of_ble_eq_true rfl) dX0_spread_77 ?_
    refine z_iload_n C dX0_spread_80 rfl 4 rfl ?_
    obtain ⟨c13, hc13, hf⟩ := zbind hf
    refine z_callSNi (host := "BarrierFlow") (As := [.int c12.2, .int x3]) (F0 := 3) (L0 := 63) C (mX9_ownerOf l D Ca B En C.2.2.2.2.2.2.2.1 c12.1 N c12.2 x3 _ hc13) hRm kw_641 kw_1 (by decide) kw_640 hyX9_ownerOf (Nat.le_of_ble_eq_true rfl) (Nat.le_of_ble_eq_true rfl) rfl rfl (Nat.le_of_ble_eq_true rfl) dX0_spread_81 ?_
    refine z_iload C dX0_spread_84 5 rfl ?_
    obtain ⟨c14, hc14, hf⟩ := zbind hf
    refine z_callSNi (host := "BarrierFlow") (As := [.int c13.2, .int x4]) (F0 := 3) (L0 := 63) C (mX9_channel l D Ca B En C.2.2.2.2.2.2.2.1 c13.1 N c13.2 x4 _ hc14) hRm kw_629 kw_1 (by decide) kw_628 hyX9_channel (Nat.le_of_ble_eq_true rfl) (Nat.le_of_ble_eq_true rfl) rfl rfl (Nat.le_of_ble_eq_true rfl) dX0_spread_86 ?_
    refine z_iload C dX0_spread_89 0 rfl ?_
    obtain ⟨c15, hc15, hf⟩ := zbind hf
    obtain ⟨kc15, hc15⟩ := zck_ok hc15
    refine z_callVv (As := [.int c14.2, .int c10.2]) (F0 := 3) (L0 := 63) C (mX3_add l D Ca B En C.2.2.2.2.2.2.2.1 c14.1 N v11 c14.2 c10.2 _ hc15) hRm kc15 rfl kw_344 kw_9 kw_701 kw_342 kw_343 hyX3_add (Nat.le_of_ble_eq_true rfl) (Nat.le_of_ble_eq_true rfl) rfl rfl (Nat.le_of_ble_eq_true rfl) dX0_spread_91 ?_
    refine z_iinc (lv2 := [(5, .int (u5 + (zi (-1)))), (6, .int c10.2), (0, .ref x0), (1, .ref x1), (2, .int x2), (3, .int x3), (4, .int x4)]) C (u5 + (zi (-1))) dX0_spread_94 6 rfl rfl (by decide) rfl ?_
    refine z_goto C 54 dX0_spread_97 (by decide) ?_
    cases hf
    refine z_sub [2, 3, 4, 5, 6, 0] rfl ?_
    exact hk.1 _ rfl

theorem wsX0_spread_54 (C : zC p s m args meth c cX0_spread RX0 7 D Ca B En) (hRm : zRm R 3 63 cells slots) (x0 : Nat) (x1 : Nat) (x2 : Int32) (x3 : Int32) (x4 : Int32) (n : Nat) (z : (zS × Int32)) (x : zS) (hf : zloop (sX0_spread_54 x0 x1 x2 x3 x4) n z = some x) (hk : (∀ o : zS, x = o → zW p l e R s m args below meth c cells slots Q D Ca B 7 o N 100 [(0, .ref x0), (1, .ref x1), (2, .int x2), (3, .int x3), (4, .int x4)] [])) : zW p l e R s m args below meth c cells slots Q D Ca B 7 z.1 N 54 [(0, .ref x0), (1, .ref x1), (2, .int x2), (3, .int x3), (4, .int x4), (5, .int z.2)] [] := by
  refine zloop_W (P := fun z : (zS × Int32) => zW p l e R s m args below meth c cells slots Q D Ca B 7 z.1 N 54 [(0, .ref x0), (1, .ref x1), (2, .int x2), (3, .int x3), (4, .int x4), (5, .int z.2)] []) (K := fun x : zS => (∀ o : zS, x = o → zW p l e R s m args below meth c cells slots Q D Ca B 7 o N 100 [(0, .ref x0), (1, .ref x1), (2, .int x2), (3, .int x3), (4, .int x4)] [])) ?_ n z x hf hk
  intro z y hy h1 h2
  refine wsX0_spread_54b C hRm x0 x1 x2 x3 x4 z.1 z.2 y hy ⟨fun z2 e => h1 z2 e, fun o e => (h2 _ e) o rfl⟩
set_option maxRecDepth 100000 in
set_option maxHeartbeats 4000000 in
theorem wsX0_spread_3b (C : zC p s m args meth c cX0_spread RX0 7 D Ca B En) (hRm : zRm R 3 63 cells slots) (x0 : Nat) (x1 : Nat) (x2 : Int32) (x3 : Int32) (σ : zS) (u4 : Int32) (y : (zS × Int32) ⊕ zS) (hf : sX0_spread_3b x0 x1 x2 x3 σ u4 = some y) (hk : (∀ z : (zS × Int32), y = .inl z → zW p l e R s m args below meth c cells slots Q D Ca B 7 z.1 N 3 [(0, .ref x0), (1, .ref x1), (2, .int x2), (3, .int x3), (4, .int z.2)] []) ∧ (∀ z : zS, y = .inr z → zW p l e R s m args below meth c cells slots Q D Ca B 7 z N 106 [(0, .ref x0), (1, .ref x1), (2, .int x2), (3, .int x3)] [])) : zW p l e R s m args below meth c cells slots Q D Ca B 7 σ N 3 [(0, .ref x0), (1, .ref x1), (2, .int x2), (3, .int x3), (4, .int u4)] [] := by
  unfold sX0_spread_3b at hf
  refine z_iload C dX0_spread_3 4 rfl ?_
  refine z_aload_n C dX0_spread_5 rfl 1 rfl ?_
  obtain ⟨v1, hv1, hf⟩ := zbind hf
  refine gf_RX0_80 C hv1 dX0_spread_6 ?_
  refine z_icmp_ge C 106 dX0_spread_9 (by decide) (fun q18 => ?_) (fun q18 => ?_)
  · rw [if_pos q18] at hf
    cases hf
    refine z_sub [0, 1, 2, 3] rfl ?_
    exact hk.2 _ rfl
  · rw [if_neg q18] at hf
    refine z_iconst C (zi 0) dX0_spread_12 (by decide) ?_
    refine z_istore (lv2 := [(5, .int ((zi 0))), (0, .ref x0), (1, .ref x1), (2, .int x2), (3, .int x3), (4, .int u4)]) C dX0_spread_13 (by decide) rfl ?_
    obtain ⟨o6, ho6, hf⟩ := zbind hf
    refine z_sub [1, 2, 3, 4, 5, 0] rfl ?_
    refine wsX0_spread_15 C hRm _ _ _ _ _ zfuel (σ, (zi 0)) o6 ho6 ?_
    intro z9 e9
    subst e9
    refine z_aload_n C dX0_spread_43 rfl 0 rfl ?_
    obtain ⟨v7, hv7, hf⟩ := zbind hf
    refine gf_RX0_24 C hv7 dX0_spread_44 ?_
    refine z_bipush C (zi 24) dX0_spread_47 (by decide) ?_
    obtain ⟨c8, hc8, hf⟩ := zbind hf
    obtain ⟨kc8, hc8⟩ := zck_ok hc8
    refine z_callVi (As := [.int ((zi 24))]) (F0 := 3) (L0 := 63) C (mX3_sizeOf l D Ca B En C.2.2.2.2.2.2.2.1 o6 N v7 ((zi 24)) _ hc8) hRm kc8 rfl kw_340 kw_9 kw_1205 kw_338 kw_339 hyX3_sizeOf (Nat.le_of_ble_eq_true rfl) (Nat.le_of_ble_eq_true rfl) rfl rfl (Nat.le_of_ble_eq_true rfl) dX0_spread_49 ?_
    refine z_istore (lv2 := [(5, .int c8.2), (0, .ref x0), (1, .ref x1), (2, .int x2), (3, .int x3), (4, .int u4)]) C dX0_spread_52 (by decide) rfl ?_
    obtain ⟨o17, ho17, hf⟩ := zbind hf
    refine z_sub [1, 2, 3, 4, 5, 0] rfl ?_
    refine wsX0_spread_54 C hRm _ _ _ _ _ zfuel (c8.1, c8.2) o17 ho17 ?_
    intro z9 e9
    subst e9
    refine z_iinc (lv2 := [(4, .int (u4 + (zi 1))), (0, .ref x0), (1, .ref x1), (2, .int x2), (3, .int x3)]) C (u4 + (zi 1)) dX0_spread_100 4 rfl rfl (by decide) rfl ?_
    refine z_goto C 3 dX0_spread_103 (by decide) ?_
    cases hf
    refine z_sub [1, 2, 3, 4, 0] rfl ?_
    exact hk.1 _ rfl

theorem wsX0_spread_3 (C : zC p s m args meth c cX0_spread RX0 7 D Ca B En) (hRm : zRm R 3 63 cells slots) (x0 : Nat) (x1 : Nat) (x2 : Int32) (x3 : Int32) (n : Nat) (z : (zS × Int32)) (x : zS) (hf : zloop (sX0_spread_3 x0 x1 x2 x3) n z = some x) (hk : (∀ o : zS, x = o → zW p l e R s m args below meth c cells slots Q D Ca B 7 o N 106 [(0, .ref x0), (1, .ref x1), (2, .int x2), (3, .int x3)] [])) : zW p l e R s m args below meth c cells slots Q D Ca B 7 z.1 N 3 [(0, .ref x0), (1, .ref x1), (2, .int x2), (3, .int x3), (4, .int z.2)] [] := by
  refine zloop_W (P := fun z : (zS × Int32) => zW p l e R s m args below meth c cells slots Q D Ca B 7 z.1 N 3 [(0, .ref x0), (1, .ref x1), (2, .int x2), (3, .int x3), (4, .int z.2)] []) (K := fun x : zS => (∀ o : zS, x = o → zW p l e R s m args below meth c cells slots Q D Ca B 7 o N 106 [(0, .ref x0), (1, .ref x1), (2, .int x2), (3, .int x3)] [])) ?_ n z x hf hk
  intro z y hy h1 h2
  refine wsX0_spread_3b C hRm x0 x1 x2 x3 z.1 z.2 y hy ⟨fun z2 e => h1 z2 e, fun o e => (h2 _ e) o rfl⟩
set_option maxRecDepth 100000 in
set_option maxHeartbeats 4000000 in
theorem wsX0_spread_121b (C : zC p s m args meth c cX0_spread RX0 7 D Ca B En) (hRm : zRm R 3 63 cells slots) (x0 : Nat) (x1 : Nat) (x2 : Int32) (x3 : Int32) (x4 : Int32) (σ : zS) (u5 : Int32) (y : (zS × Int32) ⊕ zS) (hf : sX0_spread_121b x0 x1 x2 x3 x4 σ u5 = some y) (hk : (∀ z : (zS × Int32), y = .inl z → zW p l e R s m args below meth c cells slots Q D Ca B 7 z.1 N 121 [(0, .ref x0), (1, .ref x1), (2, .int x2), (3, .int x3), (4, .int x4), (5, .int z.2)] []) ∧ (∀ z : zS, y = .inr z → zW p l e R s m args below meth c cells slots Q D Ca B 7 z N 151 [(0, .ref x0), (1, .ref x1), (2, .int x2), (3, .int x3), (4, .int x4)] [])) : zW p l e R s m args below meth c cells slots Q D Ca B 7 σ N 121 [(0, .ref x0), (1, .ref x1), (2, .int x2), (3, .int x3), (4, .int x4), (5, .int u5)] [] := by
  unfold sX0_spread_121b at hf
  refine z_iload C dX0_spread_121 5 rfl ?_
  refine z_iload_n C dX0_spread_123 rfl 2 rfl ?_
  refine z_icmp_ge C 151 dX0_spread_124 (by decide) (fun q24 => ?_) (fun q24 => ?_)
  · rw [if_pos q24] at hf
    cases hf
    refine z_sub [0, 1, 2, 3, 4] rfl ?_
    exact hk.2 _ rfl
  · rw [if_neg q24] at hf
    refine z_aload_n C dX0_spread_127 rfl 0 rfl ?_
    obtain ⟨v21, hv21, hf⟩ := zbind hf
    refine gf_RX0_24 C hv21 dX0_spread_128 ?_
    refine z_iconst C (zi 4) dX0_spread_131 (by decide) ?_
    refine z_iload C dX0_spread_132 4 rfl ?_
    refine z_iadd C dX0_spread_134 ?_
    refine z_iload C dX0_spread_135 5 rfl ?_
    obtain ⟨c22, hc22, hf⟩ := zbind hf
    refine z_callSNi (host := "BarrierFlow") (As := [.int (((zi 4)) + x4), .int u5]) (F0 := 3) (L0 := 63) C (mX9_channel l D Ca B En C.2.2.2.2.2.2.2.1 σ N (((zi 4)) + x4) u5 _ hc22) hRm kw_629 kw_1 (by decide) kw_628 hyX9_channel (Nat.le_of_ble_eq_true rfl) (Nat.le_of_ble_eq_true rfl) rfl rfl (Nat.le_of_ble_eq_true rfl) dX0_spread_137 ?_
    refine z_bipush C (zi 24) dX0_spread_140 (by decide) ?_
    obtain ⟨c23, hc23, hf⟩ := zbind hf
    obtain ⟨kc23, hc23⟩ := zck_ok hc23
    refine z_callVv (As := [.int c22.2, .int ((zi 24))]) (F0 := 3) (L0 := 63) C (mX3_moveAll l D Ca B En C.2.2.2.2.2.2.2.1 c22.1 N v21 c22.2 ((zi 24)) _ hc23) hRm kc23 rfl kw_320 kw_9 kw_1204 kw_318 kw_319 hyX3_moveAll (Nat.le_of_ble_eq_true rfl) (Nat.le_of_ble_eq_true rfl) rfl rfl (Nat.le_of_ble_eq_true rfl) dX0_spread_142 ?_
    refine z_iinc (lv2 := [(5, .int (u5 + (zi 1))), (0, .ref x0), (1, .ref x1), (2, .int x2), (3, .int x3), (4, .int x4)]) C (u5 + (zi 1)) dX0_spread_145 5 rfl rfl (by decide) rfl ?_
    refine z_goto C 121 dX0_spread_148 (by decide) ?_
    cases hf
    refine z_sub [1, 2, 3, 4, 5, 0] rfl ?_
    exact hk.1 _ rfl

theorem wsX0_spread_121 (C : zC p s m args meth c cX0_spread RX0 7 D Ca B En) (hRm : zRm R 3 63 cells slots) (x0 : Nat) (x1 : Nat) (x2 : Int32) (x3 : Int32) (x4 : Int32) (n : Nat) (z : (zS × Int32)) (x : zS) (hf : zloop (sX0_spread_121 x0 x1 x2 x3 x4) n z = some x) (hk : (∀ o : zS, x = o → zW p l e R s m args below meth c cells slots Q D Ca B 7 o N 151 [(0, .ref x0), (1, .ref x1), (2, .int x2), (3, .int x3), (4, .int x4)] [])) : zW p l e R s m args below meth c cells slots Q D Ca B 7 z.1 N 121 [(0, .ref x0), (1, .ref x1), (2, .int x2), (3, .int x3), (4, .int x4), (5, .int z.2)] [] := by
  refine zloop_W (P := fun z : (zS × Int32) => zW p l e R s m args below meth c cells slots Q D Ca B 7 z.1 N 121 [(0, .ref x0), (1, .ref x1), (2, .int x2), (3, .int x3), (4, .int x4), (5, .int z.2)] []) (K := fun x : zS => (∀ o : zS, x = o → zW p l e R s m args below meth c cells slots Q D Ca B 7 o N 151 [(0, .ref x0), (1, .ref x1), (2, .int x2), (3, .int x3), (4, .int x4)] [])) ?_ n z x hf hk
  intro z y hy h1 h2
  refine wsX0_spread_121b C hRm x0 x1 x2 x3 x4 z.1 z.2 y hy ⟨fun z2 e => h1 z2 e, fun o e => (h2 _ e) o rfl⟩
set_option maxRecDepth 100000 in
set_option maxHeartbeats 4000000 in
theorem wsX0_spread_162b (C : zC p s m args meth c cX0_spread RX0 7 D Ca B En) (hRm : zRm R 3 63 cells slots) (x0 : Nat) (x1 : Nat) (x2 : Int32) (x3 : Int32) (x4 : Int32) (σ : zS) (u5 : Int32) (y : (zS × Int32) ⊕ zS) (hf : sX0_spread_162b x0 x1 x2 x3 x4 σ u5 = some y) (hk : (∀ z : (zS × Int32), y = .inl z → zW p l e R s m args below meth c cells slots Q D Ca B 7 z.1 N 162 [(0, .ref x0), (1, .ref x1), (2, .int x2), (3, .int x3), (4, .int x4), (5, .int z.2)] []) ∧ (∀ z : zS, y = .inr z → zW p l e R s m args below meth c cells slots Q D Ca B 7 z N 210 [(0, .ref x0), (1, .ref x1), (2, .int x2), (3, .int x3), (4, .int x4)] [])) : zW p l e R s m args below meth c cells slots Q D Ca B 7 σ N 162 [(0, .ref x0), (1, .ref x1), (2, .int x2), (3, .int x3), (4, .int x4), (5, .int u5)] [] := by
  unfold sX0_spread_162b at hf
  refine z_iload C dX0_spread_162 5 rfl ?_
  refine z_if_le C 210 dX0_spread_164 (by decide) (fun q35 => ?_) (fun q35 => ?_)
  · rw [if_pos q35] at hf
    cases hf
    refine z_sub [0, 1, 2, 3, 4] rfl ?_
    exact hk.2 _ rfl
  · rw [if_neg q35] at hf
    refine z_aload_n C dX0_spread_167 rfl 0 rfl ?_
    obtain ⟨v28, hv28, hf⟩ := zbind hf
    refine gf_RX0_24 C hv28 dX0_spread_168 ?_
    refine z_bipush C (zi 24) dX0_spread_171 (by decide) ?_
    obtain ⟨c29, hc29, hf⟩ := zbind hf
    obtain ⟨kc29, hc29⟩ := zck_ok hc29
    refine z_callVi (As := [.int ((zi 24))]) (F0 := 3) (L0 := 63) C (mX3_takeFirst l D Ca B En C.2.2.2.2.2.2.2.1 σ N v28 ((zi 24)) _ hc29) hRm kc29 rfl kw_691 kw_9 kw_1206 kw_689 kw_690 hyX3_takeFirst (Nat.le_of_ble_eq_true rfl) (Nat.le_of_ble_eq_true rfl) rfl rfl (Nat.le_of_ble_eq_true rfl) dX0_spread_173 ?_
    refine z_istore (lv2 := [(6, .int c29.2), (0, .ref x0), (1, .ref x1), (2, .int x2), (3, .int x3), (4, .int x4), (5, .int u5)]) C dX0_spread_176 (by decide) rfl ?_
    refine z_aload_n C dX0_spread_178 rfl 1 rfl ?_
    obtain ⟨v30, hv30, hf⟩ := zbind hf
    refine gf_RX0_24 C hv30 dX0_spread_179 ?_
    refine z_iconst C (zi 4) dX0_spread_182 (by decide) ?_
    refine z_iload C dX0_spread_183 5 rfl ?_
    refine z_iadd C dX0_spread_185 ?_
    refine z_aload_n C dX0_spread_186 rfl 2 rfl ?_
    refine z_iload C dX0_spread_187 0 rfl ?_
    obtain ⟨c31, hc31, hf⟩ := zbind hf
    obtain ⟨kc31, hc31⟩ := zck_ok hc31
    refine z_callVi (As := [.int c29.2]) (F0 := 3) (L0 := 63) C (mX7_keyOf l D Ca B En C.2.2.2.2.2.2.2.1 c29.1 N x1 c29.2 _ hc31) hRm kc31 rfl kw_638 kw_5 kw_1207 kw_636 kw_637 hyX7_keyOf (Nat.le_of_ble_eq_true rfl) (Nat.le_of_ble_eq_true rfl) rfl rfl (Nat.le_of_ble_eq_true rfl) dX0_spread_189 ?_
    refine z_iload_n C dX0_spread_192 rfl 4 rfl ?_
    obtain ⟨c32, hc32, hf⟩ := zbind hf
    refine z_callSNi (host := "BarrierFlow") (As := [.int c31.2, .int x3]) (F0 := 3) (L0 := 63) C (mX9_ownerOf l D Ca B En C.2.2.2.2.2.2.2.1 c31.1 N c31.2 x3 _ hc32) hRm kw_641 kw_1 (by decide) kw_640 hyX9_ownerOf (Nat.le_of_ble_eq_true rfl) (Nat.le_of_ble_eq_true rfl) rfl rfl (Nat.le_of_ble_eq_true rfl) dX0_spread_193 ?_
    obtain ⟨c33, hc33, hf⟩ := zbind hf
    refine z_callSNi (host := "BarrierFlow") (As := [.int (((zi 4)) + x4), .int c32.2]) (F0 := 3) (L0 := 63) C (mX9_channel l D Ca B En C.2.2.2.2.2.2.2.1 c32.1 N (((zi 4)) + x4) c32.2 _ hc33) hRm kw_629 kw_1 (by decide) kw_628 hyX9_channel (Nat.le_of_ble_eq_true rfl) (Nat.le_of_ble_eq_true rfl) rfl rfl (Nat.le_of_ble_eq_true rfl) dX0_spread_196 ?_
    refine z_iload C dX0_spread_199 0 rfl ?_
    obtain ⟨c34, hc34, hf⟩ := zbind hf
    obtain ⟨kc34, hc34⟩ := zck_ok hc34
    refine z_callVv (As := [.int c33.2, .int c29.2]) (F0 := 3) (L0 := 63) C (mX3_add l D Ca B En C.2.2.2.2.2.2.2.1 c33.1 N v30 c33.2 c29.2 _ hc34) hRm kc34 rfl kw_344 kw_9 kw_701 kw_342 kw_343 hyX3_add (Nat.le_of_ble_eq_true rfl) (Nat.le_of_ble_eq_true rfl) rfl rfl (Nat.le_of_ble_eq_true rfl) dX0_spread_201 ?_
    refine z_iinc (lv2 := [(5, .int (u5 + (zi (-1)))), (6, .int c29.2), (0, .ref x0), (1, .ref x1), (2, .int x2), (3, .int x3), (4, .int x4)]) C (u5 + (zi (-1))) dX0_spread_204 6 rfl rfl (by decide) rfl ?_
    refine z_goto C 162 dX0_spread_207 (by decide) ?_
    cases hf
    refine z_sub [2, 3, 4, 5, 6, 0] rfl ?_
    exact hk.1 _ rfl

theorem wsX0_spread_162 (C : zC p s m args meth c cX0_spread RX0 7 D Ca B En) (hRm : zRm R 3 63 cells slots) (x0 : Nat) (x1 : Nat) (x2 : Int32) (x3 : Int32) (x4 : Int32) (n : Nat) (z : (zS × Int32)) (x : zS) (hf : zloop (sX0_spread_162 x0 x1 x2 x3 x4) n z = some x) (hk : (∀ o : zS, x = o → zW p l e R s m args below meth c cells slots Q D Ca B 7 o N 210 [(0, .ref x0), (1, .ref x1), (2, .int x2), (3, .int x3), (4, .int x4)] [])) : zW p l e R s m args below meth c cells slots Q D Ca B 7 z.1 N 162 [(0, .ref x0), (1, .ref x1), (2, .int x2), (3, .int x3), (4, .int x4), (5, .int z.2)] [] := by
  refine zloop_W (P := fun z : (zS × Int32) => zW p l e R s m args below meth c cells slots Q D Ca B 7 z.1 N 162 [(0, .ref x0), (1, .ref x1), (2, .int x2), (3, .int x3), (4, .int x4), (5, .int z.2)] []) (K := fun x : zS => (∀ o : zS, x = o → zW p l e R s m args below meth c cells slots Q D Ca B 7 o N 210 [(0, .ref x0), (1, .ref x1), (2, .int x2), (3, .int x3), (4, .int x4)] [])) ?_ n z x hf hk
  intro z y hy h1 h2
  refine wsX0_spread_162b C hRm x0 x1 x2 x3 x4 z.1 z.2 y hy ⟨fun z2 e => h1 z2 e, fun o e => (h2 _ e) o rfl⟩
set_option maxRecDepth 100000 in
set_option maxHeartbeats 4000000 in
theorem wsX0_spread_109b (C : zC p s m args meth c cX0_spread RX0 7 D Ca B En) (hRm : zRm R 3 63 cells slots) (x0 : Nat) (x1 : Nat) (x2 : Int32) (x3 : Int32) (σ : zS) (u4 : Int32) (y : (zS × Int32) ⊕ zS) (hf : sX0_spread_109b x0 x1 x2 x3 σ u4 = some y) (hk : (∀ z : (zS × Int32), y = .inl z → zW p l e R s m args below meth c cells slots Q D Ca B 7 z.1 N 109 [(0, .ref x0), (1, .ref x1), (2, .int x2), (3, .int x3), (4, .int z.2)] []) ∧ (∀ z : zS, y = .inr z → zW p l e R s m args below meth c cells slots Q D Ca B 7 z N 216 [] [])) : zW p l e R s m args below meth c cells slots Q D Ca B 7 σ N 109 [(0, .ref x0), (1, .ref x1), (2, .int x2), (3, .int x3), (4, .int u4)] [] := by
  unfold sX0_spread_109b at hf
  refine z_iload C dX0_spread_109 4 rfl ?_
  refine z_aload_n C dX0_spread_111 rfl 1 rfl ?_
  obtain ⟨v20, hv20, hf⟩ := zbind hf
  refine gf_RX0_104 C hv20 dX0_spread_112 ?_
  refine z_icmp_ge C 216 dX0_spread_115 (by decide) (fun q37 => ?_) (fun q37 => ?_)
  · rw [if_pos q37] at hf
    cases hf
    refine z_sub [] rfl ?_
    exact hk.2 _ rfl
  · rw [if_neg q37] at hf
    refine z_iconst C (zi 0) dX0_spread_118 (by decide) ?_
    refine z_istore (lv2 := [(5, .int ((zi 0))), (0, .ref x0), (1, .ref x1), (2, .int x2), (3, .int x3), (4, .int u4)]) C dX0_spread_119 (by decide) rfl ?_
    obtain ⟨o25, ho25, hf⟩ := zbind hf
    refine z_sub [1, 2, 3, 4, 5, 0] rfl ?_
    refine wsX0_spread_121 C hRm _ _ _ _ _ zfuel (σ, (zi 0)) o25 ho25 ?_
    intro z9 e9
    subst e9
    refine z_aload_n C dX0_spread_151 rfl 0 rfl ?_
    obtain ⟨v26, hv26, hf⟩ := zbind hf
    refine gf_RX0_24 C hv26 dX0_spread_152 ?_
    refine z_bipush C (zi 24) dX0_spread_155 (by decide) ?_
    obtain ⟨c27, hc27, hf⟩ := zbind hf
    obtain ⟨kc27, hc27⟩ := zck_ok hc27
    refine z_callVi (As := [.int ((zi 24))]) (F0 := 3) (L0 := 63) C (mX3_sizeOf l D Ca B En C.2.2.2.2.2.2.2.1 o25 N v26 ((zi 24)) _ hc27) hRm kc27 rfl kw_340 kw_9 kw_1205 kw_338 kw_339 hyX3_sizeOf (Nat.le_of_ble_eq_true rfl) (Nat.le_of_ble_eq_true rfl) rfl rfl (Nat.le_of_ble_eq_true rfl) dX0_spread_157 ?_
    refine z_istore (lv2 := [(5, .int c27.2), (0, .ref x0), (1, .ref x1), (2, .int x2), (3, .int x3), (4, .int u4)]) C dX0_spread_160 (by decide) rfl ?_
    obtain ⟨o36, ho36, hf⟩ := zbind hf
    refine z_sub [1, 2, 3, 4, 5, 0] rfl ?_
    refine wsX0_spread_162 C hRm _ _ _ _ _ zfuel (c27.1, c27.2) o36 ho36 ?_
    intro z9 e9
    subst e9
    refine z_iinc (lv2 := [(4, .int (u4 + (zi 1))), (0, .ref x0), (1, .ref x1), (2, .int x2), (3, .int x3)]) C (u4 + (zi 1)) dX0_spread_210 4 rfl rfl (by decide) rfl ?_
    refine z_goto C 109 dX0_spread_213 (by decide) ?_
    cases hf
    refine z_sub [1, 2, 3, 4, 0] rfl ?_
    exact hk.1 _ rfl

theorem wsX0_spread_109 (C : zC p s m args meth c cX0_spread RX0 7 D Ca B En) (hRm : zRm R 3 63 cells slots) (x0 : Nat) (x1 : Nat) (x2 : Int32) (x3 : Int32) (n : Nat) (z : (zS × Int32)) (x : zS) (hf : zloop (sX0_spread_109 x0 x1 x2 x3) n z = some x) (hk : (∀ o : zS, x = o → zW p l e R s m args below meth c cells slots Q D Ca B 7 o N 216 [] [])) : zW p l e R s m args below meth c cells slots Q D Ca B 7 z.1 N 109 [(0, .ref x0), (1, .ref x1), (2, .int x2), (3, .int x3), (4, .int z.2)] [] := by
  refine zloop_W (P := fun z : (zS × Int32) => zW p l e R s m args below meth c cells slots Q D Ca B 7 z.1 N 109 [(0, .ref x0), (1, .ref x1), (2, .int x2), (3, .int x3), (4, .int z.2)] []) (K := fun x : zS => (∀ o : zS, x = o → zW p l e R s m args below meth c cells slots Q D Ca B 7 o N 216 [] [])) ?_ n z x hf hk
  intro z y hy h1 h2
  refine wsX0_spread_109b C hRm x0 x1 x2 x3 z.1 z.2 y hy ⟨fun z2 e => h1 z2 e, fun o e => (h2 _ e) o rfl⟩
set_option maxRecDepth 100000 in
set_option maxHeartbeats 4000000 in
theorem wfX0_spread (C : zC p s m args meth c cX0_spread RX0 7 D Ca B En) (hRm : zRm R 3 63 cells slots) (σ : zS) (x0 : Nat) (x1 : Nat) (x2 : Int32) (x3 : Int32) (τ : zS) (hf : fX0_spread σ x0 x1 x2 x3 = some τ) (hq : ∀ (pc : Nat) (lv : List (Nat × Value)), decode cX0_spread pc = .ok (.return_, 1) → zW p l e R s m args below meth c cells slots Q D Ca B 7 τ N pc lv []) : zW p l e R s m args below meth c cells slots Q D Ca B 7 σ N 0 [(0, .ref x0), (1, .ref x1), (2, .int x2), (3, .int x3)] [] := by
  unfold fX0_spread at hf
  refine z_iconst C (zi 0) dX0_spread_0 (by decide) ?_
  refine z_istore (lv2 := [(4, .int ((zi 0))), (0, .ref x0), (1, .ref x1), (2, .int x2), (3, .int x3)]) C dX0_spread_1 (by decide) rfl ?_
  obtain ⟨o19, ho19, hf⟩ := zbind hf
  refine z_sub [1, 2, 3, 4, 0] rfl ?_
  refine wsX0_spread_3 C hRm _ _ _ _ zfuel (σ, (zi 0)) o19 ho19 ?_
  intro z9 e9
  subst e9
  refine z_iconst C (zi 0) dX0_spread_106 (by decide) ?_
  refine z_istore (lv2 := [(4, .int ((zi 0))), (0, .ref x0), (1, .ref x1), (2, .int x2), (3, .int x3)]) C dX0_spread_107 (by decide) rfl ?_
  obtain ⟨o38, ho38, hf⟩ := zbind hf
  refine z_sub [1, 2, 3, 4, 0] rfl ?_
  refine wsX0_spread_109 C hRm _ _ _ _ zfuel (o19, (zi 0)) o38 ho38 ?_
  intro z9 e9
  subst e9
  cases hf
  exact hq _ _ dX0_spread_216

theorem mX0_spread (l : Launch) (D : va_G) (Ca : Nat → ClassId) (B : Nat) (En : State → Prop) (hE : zEk B En) (σ : zS) (N : Nat) (x0 : Nat) (x1 : Nat) (x2 : Int32) (x3 : Int32) (X : zS) (hf : fX0_spread σ x0 x1 x2 x3 = some X) : zMv l D Ca B En yX0_spread cX0_spread 7 (Option.none : Option Jvm.ClassFile.FieldType) 3 63 [.ref x0, .ref x1, .int x2, .int x3] σ N X () :=
  zMet_v (own := RX0) hE (by decide +kernel) rfl (Nat.le_of_ble_eq_true rfl) (fun p e s m args below meth c C hr hRm => wfX0_spread C hRm σ x0 x1 x2 x3 X hf (fun pc lv hd => zfin_v (r := ()) C hr hd))
theorem dX7_chosen_0 : decode cX7_chosen 0 = .ok (.aload_n 1, 1) := by decide +kernel
theorem dX7_chosen_1 : decode cX7_chosen 1 = .ok (.getfield 78, 3) := by decide +kernel
theorem dX7_chosen_4 : decode cX7_chosen 4 = .ok (.istore_n 2, 1) := by decide +kernel
theorem dX7_chosen_5 : decode cX7_chosen 5 = .ok (.iload_n 2, 1) := by decide +kernel
theorem dX7_chosen_6 : decode cX7_chosen 6 = .ok (.ifCond .lt 22, 3) := by decide +kernel
theorem dX7_chosen_9 : decode cX7_chosen 9 = .ok (.iload_n 2, 1) := by decide +kernel
theorem dX7_chosen_10 : decode cX7_chosen 10 = .ok (.aload_n 0, 1) := by decide +kernel
theorem dX7_chosen_11 : decode cX7_chosen 11 = .ok (.getfield 28, 3) := by decide +kernel
theorem dX7_chosen_14 : decode cX7_chosen 14 = .ok (.arraylength, 1) := by decide +kernel
theorem dX7_chosen_15 : decode cX7_chosen 15 = .ok (.if_icmp .ge 13, 3) := by decide +kernel
theorem dX7_chosen_18 : decode cX7_chosen 18 = .ok (.aload_n 0, 1) := by decide +kernel
theorem dX7_chosen_19 : decode cX7_chosen 19 = .ok (.getfield 28, 3) := by decide +kernel
theorem dX7_chosen_22 : decode cX7_chosen 22 = .ok (.iload_n 2, 1) := by decide +kernel
theorem dX7_chosen_23 : decode cX7_chosen 23 = .ok (.iaload, 1) := by decide +kernel
theorem dX7_chosen_24 : decode cX7_chosen 24 = .ok (.iconst (-1), 1) := by decide +kernel
theorem dX7_chosen_25 : decode cX7_chosen 25 = .ok (.if_icmp .ne 8, 3) := by decide +kernel
theorem dX7_chosen_28 : decode cX7_chosen 28 = .ok (.aload_n 1, 1) := by decide +kernel
theorem dX7_chosen_29 : decode cX7_chosen 29 = .ok (.getfield 81, 3) := by decide +kernel
theorem dX7_chosen_32 : decode cX7_chosen 32 = .ok (.ireturn, 1) := by decide +kernel
theorem dX7_chosen_33 : decode cX7_chosen 33 = .ok (.aload_n 0, 1) := by decide +kernel
theorem dX7_chosen_34 : decode cX7_chosen 34 = .ok (.getfield 28, 3) := by decide +kernel
theorem dX7_chosen_37 : decode cX7_chosen 37 = .ok (.iload_n 2, 1) := by decide +kernel
theorem dX7_chosen_38 : decode cX7_chosen 38 = .ok (.iaload, 1) := by decide +kernel
theorem dX7_chosen_39 : decode cX7_chosen 39 = .ok (.ireturn, 1) := by decide +kernel
theorem hyX7_chosen : yX7_chosen.cls ≠ "java/lang/invoke/MethodHandle" ∧ yX7_chosen.cls ≠ "java/lang/invoke/VarHandle" ∧ (parseMethodDescriptor yX7_chosen.desc).map (fun d => d.parameters.length) = some 1 := ⟨by decide +kernel, by decide +kernel, by decide +kernel⟩
set_option maxRecDepth 100000 in
set_option maxHeartbeats 4000000 in
theorem wfX7_chosen (C : zC p s m args meth c cX7_chosen RX7 3 D Ca B En) (hRm : zRm R 0 0 cells slots) (ev : zEv) (hZ : ∀ U : State, En U → zEnv ev B U) (σ : zS) (x0 : Nat) (x1 : Nat) (τ : zS) (r : Int32) (hf : fX7_chosen σ x0 x1 = some (τ, r)) (hq : ∀ (pc : Nat) (lv : List (Nat × Value)), decode cX7_chosen pc = .ok (.ireturn, 1) → zW p l e R s m args below meth c cells slots Q D Ca B 3 τ N pc lv [.int r]) : zW p l e R s m args below meth c cells slots Q D Ca B 3 σ N 0 [(0, .ref x0), (1, .ref (ev.1 x1))] [] := by
  unfold fX7_chosen at hf
  refine z_aload_n C dX7_chosen_0 rfl 1 rfl ?_
  obtain ⟨v1, hv1, hf⟩ := zbind hf
  refine z_gWf C ev hZ hv1 (zwF.getD 0 ("", "", "", [])) (by decide) rfl rfl rfl rfl kw_1371 dX7_chosen_1 ?_
  refine z_istore_n (lv2 := [(2, .int v1), (0, .ref x0), (1, .ref (ev.1 x1))]) C dX7_chosen_4 rfl (by decide) rfl ?_
  refine z_iload_n C dX7_chosen_5 rfl 0 rfl ?_
  refine z_if_lt C 28 dX7_chosen_6 (by decide) (fun q13 => ?_) (fun q13 => ?_)
  · rw [if_pos q13] at hf
    refine z_aload_n C dX7_chosen_28 rfl 2 rfl ?_
    obtain ⟨v2, hv2, hf⟩ := zbind hf
    refine z_gWf C ev hZ hv2 (zwF.getD 1 ("", "", "", [])) (by decide) rfl rfl rfl rfl kw_1372 dX7_chosen_29 ?_
    cases hf
    exact hq _ _ dX7_chosen_32
  · rw [if_neg q13] at hf
    refine z_iload_n C dX7_chosen_9 rfl 0 rfl ?_
    refine z_aload_n C dX7_chosen_10 rfl 1 rfl ?_
    obtain ⟨v3, hv3, hf⟩ := zbind hf
    refine gf_RX7_28 C hv3 dX7_chosen_11 ?_
    obtain ⟨v4, hv4, hf⟩ := zbind hf
    refine z_alen C hv4 dX7_chosen_14 ?_
    refine z_icmp_ge C 28 dX7_chosen_15 (by decide) (fun q12 => ?_) (fun q12 => ?_)
    · rw [if_pos q12] at hf
      refine z_aload_n C dX7_chosen_28 rfl 2 rfl ?_
      obtain ⟨v5, hv5, hf⟩ := zbind hf
      refine z_gWf C ev hZ hv5 (zwF.getD 1 ("", "", "", [])) (by decide) rfl rfl rfl rfl kw_1372 dX7_chosen_29 ?_
      cases hf
      exact hq _ _ dX7_chosen_32
    · rw [if_neg q12] at hf
      refine z_aload_n C dX7_chosen_18 rfl 1 rfl ?_
      obtain ⟨v6, hv6, hf⟩ := zbind hf
      refine gf_RX7_28 C hv6 dX7_chosen_19 ?_
      refine z_iload_n C dX7_chosen_22 rfl 0 rfl ?_
      obtain ⟨v7, hv7, hf⟩ := zbind hf
      refine z_aI C hv7 dX7_chosen_23 ?_
      refine z_iconst C (zi (-1)) dX7_chosen_24 (by decide) ?_
      refine z_icmp_ne C 33 dX7_chosen_25 (by decide) (fun q11 => ?_) (fun q11 => ?_)
      · rw [if_neg q11] at hf
        refine z_aload_n C dX7_chosen_33 rfl 1 rfl ?_
        obtain ⟨v8, hv8, hf⟩ := zbind hf
        refine gf_RX7_28 C hv8 dX7_chosen_34 ?_
        refine z_iload_n C dX7_chosen_37 rfl 0 rfl ?_
        obtain ⟨v9, hv9, hf⟩ := zbind hf
        refine z_aI C hv9 dX7_chosen_38 ?_
        cases hf
        exact hq _ _ dX7_chosen_39
      · rw [if_pos q11] at hf
        refine z_aload_n C dX7_chosen_28 rfl 2 rfl ?_
        obtain ⟨v10, hv10, hf⟩ := zbind hf
        refine z_gWf C ev hZ hv10 (zwF.getD 1 ("", "", "", [])) (by decide) rfl rfl rfl rfl kw_1372 dX7_chosen_29 ?_
        cases hf
        exact hq _ _ dX7_chosen_32

theorem mX7_chosen (l : Launch) (D : va_G) (Ca : Nat → ClassId) (B : Nat) (En : State → Prop) (hE : zEk B En) (ev : zEv) (hZ : ∀ U : State, En U → zEnv ev B U) (σ : zS) (N : Nat) (x0 : Nat) (x1 : Nat) (X : zS × Int32) (hf : fX7_chosen σ x0 x1 = some X) : zMi l D Ca B En yX7_chosen cX7_chosen 3 (Option.some Jvm.ClassFile.FieldType.int) 0 0 [.ref x0, .ref (ev.1 x1)] σ N X.1 X.2 :=
  zMet_i (own := RX7) hE (by decide +kernel) rfl (Nat.le_of_ble_eq_true rfl) (fun p e s m args below meth c C hr hRm => wfX7_chosen C hRm ev hZ σ x0 x1 X.1 X.2 hf (fun pc lv hd => zfin_i C hr hd))
end ZM
