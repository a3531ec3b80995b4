/-! Methods: X1_showLatest, X3_behind, X1_goBackToLatest, X1_recover, X1_start, X1_copyFrom, X1_startCheckpoint, X1_putBarriers, X9_numberOf, X1_sendRecord, X1_sendersTo, X1_cut, X1_keepFirst, X1_letBarrierArrive, X1_letBarriersOvertake, X7_sinkOf -/
section ZM
variable {p : Program} {l : Launch} {e : Env} {R : Room} {s : State} {m : MethodId} {args : Array Value} {below : List Frame} {meth : Method} {c : Code} {cells slots : Nat} {Q : State → Prop} {D : va_G} {Ca : Nat → ClassId} {B : Nat} {En : State → Prop} {N : Nat}
theorem dX1_showLatest_0 : decode cX1_showLatest 0 = .ok (.aload_n 0, 1) := by decide +kernel
theorem dX1_showLatest_1 : decode cX1_showLatest 1 = .ok (.getfield 41, 3) := by decide +kernel
theorem dX1_showLatest_4 : decode cX1_showLatest 4 = .ok (.invokevirtual 129, 3) := by decide +kernel
theorem dX1_showLatest_7 : decode cX1_showLatest 7 = .ok (.ifCond .eq 13, 3) := by decide +kernel
theorem dX1_showLatest_10 : decode cX1_showLatest 10 = .ok (.aload_n 0, 1) := by decide +kernel
theorem dX1_showLatest_11 : decode cX1_showLatest 11 = .ok (.getfield 41, 3) := by decide +kernel
theorem dX1_showLatest_14 : decode cX1_showLatest 14 = .ok (.getfield 173, 3) := by decide +kernel
theorem dX1_showLatest_17 : decode cX1_showLatest 17 = .ok (.ifCond .eq 4, 3) := by decide +kernel
theorem dX1_showLatest_20 : decode cX1_showLatest 20 = .ok (.return_, 1) := by decide +kernel
theorem dX1_showLatest_21 : decode cX1_showLatest 21 = .ok (.iconst 0, 1) := by decide +kernel
theorem dX1_showLatest_22 : decode cX1_showLatest 22 = .ok (.istore_n 1, 1) := by decide +kernel
theorem dX1_showLatest_23 : decode cX1_showLatest 23 = .ok (.iload_n 1, 1) := by decide +kernel
theorem dX1_showLatest_24 : decode cX1_showLatest 24 = .ok (.aload_n 0, 1) := by decide +kernel
theorem dX1_showLatest_25 : decode cX1_showLatest 25 = .ok (.getfield 54, 3) := by decide +kernel
theorem dX1_showLatest_28 : decode cX1_showLatest 28 = .ok (.getfield 161, 3) := by decide +kernel
theorem dX1_showLatest_31 : decode cX1_showLatest 31 = .ok (.if_icmp .ge 24, 3) := by decide +kernel
theorem dX1_showLatest_34 : decode cX1_showLatest 34 = .ok (.aload_n 0, 1) := by decide +kernel
theorem dX1_showLatest_35 : decode cX1_showLatest 35 = .ok (.getfield 30, 3) := by decide +kernel
theorem dX1_showLatest_38 : decode cX1_showLatest 38 = .ok (.bipush 26, 2) := by decide +kernel
theorem dX1_showLatest_40 : decode cX1_showLatest 40 = .ok (.iload_n 1, 1) := by decide +kernel
theorem dX1_showLatest_41 : decode cX1_showLatest 41 = .ok (.iadd, 1) := by decide +kernel
theorem dX1_showLatest_42 : decode cX1_showLatest 42 = .ok (.bipush 28, 2) := by decide +kernel
theorem dX1_showLatest_44 : decode cX1_showLatest 44 = .ok (.iload_n 1, 1) := by decide +kernel
theorem dX1_showLatest_45 : decode cX1_showLatest 45 = .ok (.iadd, 1) := by decide +kernel
theorem dX1_showLatest_46 : decode cX1_showLatest 46 = .ok (.invokevirtual 176, 3) := by decide +kernel
theorem dX1_showLatest_49 : decode cX1_showLatest 49 = .ok (.iinc 1 1, 3) := by decide +kernel
theorem dX1_showLatest_52 : decode cX1_showLatest 52 = .ok (.goto (-29), 3) := by decide +kernel
theorem dX1_showLatest_55 : decode cX1_showLatest 55 = .ok (.aload_n 0, 1) := by decide +kernel
theorem dX1_showLatest_56 : decode cX1_showLatest 56 = .ok (.getfield 41, 3) := by decide +kernel
theorem dX1_showLatest_59 : decode cX1_showLatest 59 = .ok (.iconst 1, 1) := by decide +kernel
theorem dX1_showLatest_60 : decode cX1_showLatest 60 = .ok (.putfield 173, 3) := by decide +kernel
theorem dX1_showLatest_63 : decode cX1_showLatest 63 = .ok (.return_, 1) := by decide +kernel
theorem hyX1_showLatest : yX1_showLatest.cls ≠ "java/lang/invoke/MethodHandle" ∧ yX1_showLatest.cls ≠ "java/lang/invoke/VarHandle" ∧ (parseMethodDescriptor yX1_showLatest.desc).map (fun d => d.parameters.length) = some 0 := ⟨by decide +kernel, by decide +kernel, by decide +kernel⟩
set_option maxRecDepth 100000 in
set_option maxHeartbeats 4000000 in
theorem wsX1_showLatest_23b (C : zC p s m args meth c cX1_showLatest RX1 2 D Ca B En) (hRm : zRm R 2 44 cells slots) (x0 : Nat) (σ : zS) (u1 : Int32) (y : (zS × Int32) ⊕ zS) (hf : sX1_showLatest_23b x0 σ u1 = some y) (hk : (∀ z : (zS × Int32), y = .inl z → zW p l e R s m args below meth c cells slots Q D Ca B 2 z.1 N 23 [(0, .ref x0), (1, .int z.2)] []) ∧ (∀ z : zS, y = .inr z → zW p l e R s m args below meth c cells slots Q D Ca B 2 z N 55 [(0, .ref x0)] [])) : zW p l e R s m args below meth c cells slots Q D Ca B 2 σ N 23 [(0, .ref x0), (1, .int u1)] [] := by
  unfold sX1_showLatest_23b at hf
  refine z_iload_n C dX1_showLatest_23 rfl 1 rfl ?_
  refine z_aload_n C dX1_showLatest_24 rfl 0 rfl ?_
  obtain ⟨v5, hv5, hf⟩ := zbind hf
  refine gf_RX1_54 C hv5 dX1_showLatest_25 ?_
  obtain ⟨v6, hv6, hf⟩ := zbind hf
  refine gf_RX1_161 C hv6 dX1_showLatest_28 ?_
  refine z_icmp_ge C 55 dX1_showLatest_31 (by decide) (fun q9 => ?_) (fun q9 => ?_)
  · rw [if_pos q9] at hf
    cases hf
    refine z_sub [0] rfl ?_
    exact hk.2 _ rfl
  · rw [if_neg q9] at hf
    refine z_aload_n C dX1_showLatest_34 rfl 0 rfl ?_
    obtain ⟨v7, hv7, hf⟩ := zbind hf
    refine gf_RX1_30 C hv7 dX1_showLatest_35 ?_
    refine z_bipush C (zi 26) dX1_showLatest_38 (by decide) ?_
    refine z_iload_n C dX1_showLatest_40 rfl 1 rfl ?_
    refine z_iadd C dX1_showLatest_41 ?_
    refine z_bipush C (zi 28) dX1_showLatest_42 (by decide) ?_
    refine z_iload_n C dX1_showLatest_44 rfl 1 rfl ?_
    refine z_iadd C dX1_showLatest_45 ?_
    obtain ⟨c8, hc8, hf⟩ := zbind hf
    obtain ⟨kc8, hc8⟩ := zck_ok hc8
    refine z_callVv (As := [.int (((zi 26)) + u1), .int (((zi 28)) + u1)]) (F0 := 2) (L0 := 44) C (mX3_moveAll l D Ca B En C.2.2.2.2.2.2.2.1 σ N v7 (((zi 26)) + u1) (((zi 28)) + u1) _ hc8) hRm kc8 rfl kw_320 kw_9 kw_317 kw_318 kw_319 hyX3_moveAll (Nat.le_of_ble_eq_true rfl) (Nat.le_of_ble_eq_true rfl) rfl rfl (Nat.le_of_ble_eq_true rfl) dX1_showLatest_46 ?_
    refine z_iinc (lv2 := [(1, .int (u1 + (zi 1))), (0, .ref x0)]) C (u1 + (zi 1)) dX1_showLatest_49 1 rfl rfl (by decide) rfl ?_
    refine z_goto C 23 dX1_showLatest_52 (by decide) ?_
    cases hf
    refine z_sub [1, 0] rfl ?_
    exact hk.1 _ rfl

theorem wsX1_showLatest_23 (C : zC p s m args meth c cX1_showLatest RX1 2 D Ca B En) (hRm : zRm R 2 44 cells slots) (x0 : Nat) (n : Nat) (z : (zS × Int32)) (x : zS) (hf : zloop (sX1_showLatest_23 x0) n z = some x) (hk : (∀ o : zS, x = o → zW p l e R s m args below meth c cells slots Q D Ca B 2 o N 55 [(0, .ref x0)] [])) : zW p l e R s m args below meth c cells slots Q D Ca B 2 z.1 N 23 [(0, .ref x0), (1, .int z.2)] [] := by
  refine zloop_W (P := fun z : (zS × Int32) => zW p l e R s m args below meth c cells slots Q D Ca B 2 z.1 N 23 [(0, .ref x0), (1, .int z.2)] []) (K := fun x : zS => (∀ o : zS, x = o → zW p l e R s m args below meth c cells slots Q D Ca B 2 o N 55 [(0, .ref x0)] [])) ?_ n z x hf hk
  intro z y hy h1 h2
  refine wsX1_showLatest_23b C hRm x0 z.1 z.2 y hy ⟨fun z2 e => h1 z2 e, fun o e => (h2 _ e) o rfl⟩
set_option maxRecDepth 100000 in
set_option maxHeartbeats 4000000 in
theorem wfX1_showLatest (C : zC p s m args meth c cX1_showLatest RX1 2 D Ca B En) (hRm : zRm R 2 44 cells slots) (σ : zS) (x0 : Nat) (τ : zS) (hf : fX1_showLatest σ x0 = some τ) (hq : ∀ (pc : Nat) (lv : List (Nat × Value)), decode cX1_showLatest pc = .ok (.return_, 1) → zW p l e R s m args below meth c cells slots Q D Ca B 2 τ N pc lv []) : zW p l e R s m args below meth c cells slots Q D Ca B 2 σ N 0 [(0, .ref x0)] [] := by
  unfold fX1_showLatest at hf
  refine z_aload_n C dX1_showLatest_0 rfl 0 rfl ?_
  obtain ⟨v1, hv1, hf⟩ := zbind hf
  refine gf_RX1_41 C hv1 dX1_showLatest_1 ?_
  obtain ⟨c2, hc2, hf⟩ := zbind hf
  obtain ⟨kc2, hc2⟩ := zck_ok hc2
  refine z_callVi (As := []) (F0 := 2) (L0 := 44) C (mX0_exists l D Ca B En C.2.2.2.2.2.2.2.1 σ N v1  _ hc2) hRm kc2 rfl kw_316 kw_10 kw_313 kw_314 kw_315 hyX0_exists (Nat.le_of_ble_eq_true rfl) (Nat.le_of_ble_eq_true rfl) rfl rfl (Nat.le_of_ble_eq_true rfl) dX1_showLatest_4 ?_
  refine z_if_eq C 20 dX1_showLatest_7 (by decide) (fun q14 => ?_) (fun q14 => ?_)
  · rw [if_pos q14] at hf
    cases hf
    exact hq _ _ dX1_showLatest_20
  · rw [if_neg q14] at hf
    refine z_aload_n C dX1_showLatest_10 rfl 0 rfl ?_
    obtain ⟨v3, hv3, hf⟩ := zbind hf
    refine gf_RX1_41 C hv3 dX1_showLatest_11 ?_
    obtain ⟨v4, hv4, hf⟩ := zbind hf
    refine gf_RX1_173 C hv4 dX1_showLatest_14 ?_
    refine z_if_eq C 21 dX1_showLatest_17 (by decide) (fun q13 => ?_) (fun q13 => ?_)
    · rw [if_pos q13] at hf
      refine z_iconst C (zi 0) dX1_showLatest_21 (by decide) ?_
      refine z_istore_n (lv2 := [(1, .int ((zi 0))), (0, .ref x0)]) C dX1_showLatest_22 rfl (by decide) rfl ?_
      obtain ⟨o10, ho10, hf⟩ := zbind hf
      refine z_sub [1, 0] rfl ?_
      refine wsX1_showLatest_23 C hRm _ zfuel (c2.1, (zi 0)) o10 ho10 ?_
      intro z9 e9
      subst e9
      refine z_aload_n C dX1_showLatest_55 rfl 0 rfl ?_
      obtain ⟨v11, hv11, hf⟩ := zbind hf
      refine gf_RX1_41 C hv11 dX1_showLatest_56 ?_
      refine z_iconst C (zi 1) dX1_showLatest_59 (by decide) ?_
      obtain ⟨σ12, hσ12, hf⟩ := zbind hf
      refine gp_RX1_173 C hσ12 dX1_showLatest_60 ?_
      cases hf
      exact hq _ _ dX1_showLatest_63
    · rw [if_neg q13] at hf
      cases hf
      exact hq _ _ dX1_showLatest_20

theorem mX1_showLatest (l : Launch) (D : va_G) (Ca : Nat → ClassId) (B : Nat) (En : State → Prop) (hE : zEk B En) (σ : zS) (N : Nat) (x0 : Nat) (X : zS) (hf : fX1_showLatest σ x0 = some X) : zMv l D Ca B En yX1_showLatest cX1_showLatest 2 (Option.none : Option Jvm.ClassFile.FieldType) 2 44 [.ref x0] σ N X () :=
  zMet_v (own := RX1) hE (by decide +kernel) rfl (Nat.le_of_ble_eq_true rfl) (fun p e s m args below meth c C hr hRm => wfX1_showLatest C hRm σ x0 X hf (fun pc lv hd => zfin_v (r := ()) C hr hd))
theorem dX3_behind_0 : decode cX3_behind 0 = .ok (.iload_n 1, 1) := by decide +kernel
theorem dX3_behind_1 : decode cX3_behind 1 = .ok (.invokestatic 39, 3) := by decide +kernel
theorem dX3_behind_4 : decode cX3_behind 4 = .ok (.ifCond .eq 12, 3) := by decide +kernel
theorem dX3_behind_7 : decode cX3_behind 7 = .ok (.aload_n 0, 1) := by decide +kernel
theorem dX3_behind_8 : decode cX3_behind 8 = .ok (.getfield 9, 3) := by decide +kernel
theorem dX3_behind_11 : decode cX3_behind 11 = .ok (.iload_n 1, 1) := by decide +kernel
theorem dX3_behind_12 : decode cX3_behind 12 = .ok (.iaload, 1) := by decide +kernel
theorem dX3_behind_13 : decode cX3_behind 13 = .ok (.goto 4, 3) := by decide +kernel
theorem dX3_behind_16 : decode cX3_behind 16 = .ok (.iconst (-1), 1) := by decide +kernel
theorem dX3_behind_17 : decode cX3_behind 17 = .ok (.ireturn, 1) := by decide +kernel
theorem hyX3_behind : yX3_behind.cls ≠ "java/lang/invoke/MethodHandle" ∧ yX3_behind.cls ≠ "java/lang/invoke/VarHandle" ∧ (parseMethodDescriptor yX3_behind.desc).map (fun d => d.parameters.length) = some 1 := ⟨by decide +kernel, by decide +kernel, by decide +kernel⟩
set_option maxRecDepth 100000 in
set_option maxHeartbeats 4000000 in
theorem wfX3_behind (C : zC p s m args meth c cX3_behind RX3 2 D Ca B En) (hRm : zRm R 1 20 cells slots) (σ : zS) (x0 : Nat) (x1 : Int32) (τ : zS) (r : Int32) (hf : fX3_behind σ x0 x1 = some (τ, r)) (hq : ∀ (pc : Nat) (lv : List (Nat × Value)), decode cX3_behind pc = .ok (.ireturn, 1) → zW p l e R s m args below meth c cells slots Q D Ca B 2 τ N pc lv [.int r]) : zW p l e R s m args below meth c cells slots Q D Ca B 2 σ N 0 [(0, .ref x0), (1, .int x1)] [] := by
  unfold fX3_behind at hf
  refine z_iload_n C dX3_behind_0 rfl 1 rfl ?_
  obtain ⟨c1, hc1, hf⟩ := zbind hf
  refine z_callSi (As := [.int x1]) (F0 := 1) (L0 := 20) C (mX3_isRecord l D Ca B En C.2.2.2.2.2.2.2.1 σ N x1 _ hc1) hRm kw_326 kw_9 kw_324 kw_325 hyX3_isRecord (Nat.le_of_ble_eq_true rfl) (Nat.le_of_ble_eq_true rfl) rfl rfl (Nat.le_of_ble_eq_true rfl) dX3_behind_1 ?_
  refine z_if_eq C 16 dX3_behind_4 (by decide) (fun q4 => ?_) (fun q4 => ?_)
  · rw [if_pos q4] at hf
    refine z_iconst C (zi (-1)) dX3_behind_16 (by decide) ?_
    cases hf
    exact hq _ _ dX3_behind_17
  · rw [if_neg q4] at hf
    refine z_aload_n C dX3_behind_7 rfl 0 rfl ?_
    obtain ⟨v2, hv2, hf⟩ := zbind hf
    refine gf_RX3_9 C hv2 dX3_behind_8 ?_
    refine z_iload_n C dX3_behind_11 rfl 1 rfl ?_
    obtain ⟨v3, hv3, hf⟩ := zbind hf
    refine z_aI C hv3 dX3_behind_12 ?_
    refine z_goto C 17 dX3_behind_13 (by decide) ?_
    cases hf
    exact hq _ _ dX3_behind_17

theorem mX3_behind (l : Launch) (D : va_G) (Ca : Nat → ClassId) (B : Nat) (En : State → Prop) (hE : zEk B En) (σ : zS) (N : Nat) (x0 : Nat) (x1 : Int32) (X : zS × Int32) (hf : fX3_behind σ x0 x1 = some X) : zMi l D Ca B En yX3_behind cX3_behind 2 (Option.some Jvm.ClassFile.FieldType.int) 1 20 [.ref x0, .int x1] σ N X.1 X.2 :=
  zMet_i (own := RX3) hE (by decide +kernel) rfl (Nat.le_of_ble_eq_true rfl) (fun p e s m args below meth c C hr hRm => wfX3_behind C hRm σ x0 x1 X.1 X.2 hf (fun pc lv hd => zfin_i C hr hd))
theorem dX1_goBackToLatest_0 : decode cX1_goBackToLatest 0 = .ok (.aload_n 0, 1) := by decide +kernel
theorem dX1_goBackToLatest_1 : decode cX1_goBackToLatest 1 = .ok (.getfield 41, 3) := by decide +kernel
theorem dX1_goBackToLatest_4 : decode cX1_goBackToLatest 4 = .ok (.getfield 189, 3) := by decide +kernel
theorem dX1_goBackToLatest_7 : decode cX1_goBackToLatest 7 = .ok (.aload_n 0, 1) := by decide +kernel
theorem dX1_goBackToLatest_8 : decode cX1_goBackToLatest 8 = .ok (.getfield 15, 3) := by decide +kernel
theorem dX1_goBackToLatest_11 : decode cX1_goBackToLatest 11 = .ok (.invokestatic 106, 3) := by decide +kernel
theorem dX1_goBackToLatest_14 : decode cX1_goBackToLatest 14 = .ok (.aload_n 0, 1) := by decide +kernel
theorem dX1_goBackToLatest_15 : decode cX1_goBackToLatest 15 = .ok (.getfield 41, 3) := by decide +kernel
theorem dX1_goBackToLatest_18 : decode cX1_goBackToLatest 18 = .ok (.getfield 273, 3) := by decide +kernel
theorem dX1_goBackToLatest_21 : decode cX1_goBackToLatest 21 = .ok (.aload_n 0, 1) := by decide +kernel
theorem dX1_goBackToLatest_22 : decode cX1_goBackToLatest 22 = .ok (.getfield 18, 3) := by decide +kernel
theorem dX1_goBackToLatest_25 : decode cX1_goBackToLatest 25 = .ok (.invokestatic 106, 3) := by decide +kernel
theorem dX1_goBackToLatest_28 : decode cX1_goBackToLatest 28 = .ok (.iconst 0, 1) := by decide +kernel
theorem dX1_goBackToLatest_29 : decode cX1_goBackToLatest 29 = .ok (.istore_n 1, 1) := by decide +kernel
theorem dX1_goBackToLatest_30 : decode cX1_goBackToLatest 30 = .ok (.iload_n 1, 1) := by decide +kernel
theorem dX1_goBackToLatest_31 : decode cX1_goBackToLatest 31 = .ok (.bipush 24, 2) := by decide +kernel
theorem dX1_goBackToLatest_33 : decode cX1_goBackToLatest 33 = .ok (.if_icmp .ge 64, 3) := by decide +kernel
theorem dX1_goBackToLatest_36 : decode cX1_goBackToLatest 36 = .ok (.aload_n 0, 1) := by decide +kernel
theorem dX1_goBackToLatest_37 : decode cX1_goBackToLatest 37 = .ok (.getfield 41, 3) := by decide +kernel
theorem dX1_goBackToLatest_40 : decode cX1_goBackToLatest 40 = .ok (.getfield 267, 3) := by decide +kernel
theorem dX1_goBackToLatest_43 : decode cX1_goBackToLatest 43 = .ok (.iload_n 1, 1) := by decide +kernel
theorem dX1_goBackToLatest_44 : decode cX1_goBackToLatest 44 = .ok (.invokevirtual 225, 3) := by decide +kernel
theorem dX1_goBackToLatest_47 : decode cX1_goBackToLatest 47 = .ok (.istore_n 2, 1) := by decide +kernel
theorem dX1_goBackToLatest_48 : decode cX1_goBackToLatest 48 = .ok (.aload_n 0, 1) := by decide +kernel
theorem dX1_goBackToLatest_49 : decode cX1_goBackToLatest 49 = .ok (.getfield 41, 3) := by decide +kernel
theorem dX1_goBackToLatest_52 : decode cX1_goBackToLatest 52 = .ok (.getfield 267, 3) := by decide +kernel
theorem dX1_goBackToLatest_55 : decode cX1_goBackToLatest 55 = .ok (.iload_n 1, 1) := by decide +kernel
theorem dX1_goBackToLatest_56 : decode cX1_goBackToLatest 56 = .ok (.invokevirtual 194, 3) := by decide +kernel
theorem dX1_goBackToLatest_59 : decode cX1_goBackToLatest 59 = .ok (.istore_n 3, 1) := by decide +kernel
theorem dX1_goBackToLatest_60 : decode cX1_goBackToLatest 60 = .ok (.iload_n 3, 1) := by decide +kernel
theorem dX1_goBackToLatest_61 : decode cX1_goBackToLatest 61 = .ok (.ifCond .le 30, 3) := by decide +kernel
theorem dX1_goBackToLatest_64 : decode cX1_goBackToLatest 64 = .ok (.aload_n 0, 1) := by decide +kernel
theorem dX1_goBackToLatest_65 : decode cX1_goBackToLatest 65 = .ok (.getfield 30, 3) := by decide +kernel
theorem dX1_goBackToLatest_68 : decode cX1_goBackToLatest 68 = .ok (.iload_n 1, 1) := by decide +kernel
theorem dX1_goBackToLatest_69 : decode cX1_goBackToLatest 69 = .ok (.iload_n 2, 1) := by decide +kernel
theorem dX1_goBackToLatest_70 : decode cX1_goBackToLatest 70 = .ok (.invokevirtual 209, 3) := by decide +kernel
theorem dX1_goBackToLatest_73 : decode cX1_goBackToLatest 73 = .ok (.aload_n 0, 1) := by decide +kernel
theorem dX1_goBackToLatest_74 : decode cX1_goBackToLatest 74 = .ok (.getfield 41, 3) := by decide +kernel
theorem dX1_goBackToLatest_77 : decode cX1_goBackToLatest 77 = .ok (.getfield 267, 3) := by decide +kernel
theorem dX1_goBackToLatest_80 : decode cX1_goBackToLatest 80 = .ok (.iload_n 2, 1) := by decide +kernel
theorem dX1_goBackToLatest_81 : decode cX1_goBackToLatest 81 = .ok (.invokevirtual 270, 3) := by decide +kernel
theorem dX1_goBackToLatest_84 : decode cX1_goBackToLatest 84 = .ok (.istore_n 2, 1) := by decide +kernel
theorem dX1_goBackToLatest_85 : decode cX1_goBackToLatest 85 = .ok (.iinc 3 (-1), 3) := by decide +kernel
theorem dX1_goBackToLatest_88 : decode cX1_goBackToLatest 88 = .ok (.goto (-28), 3) := by decide +kernel
theorem dX1_goBackToLatest_91 : decode cX1_goBackToLatest 91 = .ok (.iinc 1 1, 3) := by decide +kernel
theorem dX1_goBackToLatest_94 : decode cX1_goBackToLatest 94 = .ok (.goto (-64), 3) := by decide +kernel
theorem dX1_goBackToLatest_97 : decode cX1_goBackToLatest 97 = .ok (.return_, 1) := by decide +kernel
theorem hyX1_goBackToLatest : yX1_goBackToLatest.cls ≠ "java/lang/invoke/MethodHandle" ∧ yX1_goBackToLatest.cls ≠ "java/lang/invoke/VarHandle" ∧ (parseMethodDescriptor yX1_goBackToLatest.desc).map (fun d => d.parameters.length) = some 0 := ⟨by decide +kernel, by decide +kernel, by decide +kernel⟩
set_option maxRecDepth 100000 in
set_option maxHeartbeats 4000000 in
theorem wsX1_goBackToLatest_60b (C : zC p s m args meth c cX1_goBackToLatest RX1 4 D Ca B En) (hRm : zRm R 2 85 cells slots) (x0 : Nat) (x1 : Int32) (σ : zS) (u2 : Int32) (u3 : Int32) (y : (zS × Int32 × Int32) ⊕ zS) (hf : sX1_goBackToLatest_60b x0 x1 σ u2 u3 = some y) (hk : (∀ z : (zS × Int32 × Int32), y = .inl z → zW p l e R s m args below meth c cells slots Q D Ca B 4 z.1 N 60 [(0, .ref x0), (1, .int x1), (2, .int z.2.1), (3, .int z.2.2)] []) ∧ (∀ z : zS, y = .inr z → zW p l e R s m args below meth c cells slots Q D Ca B 4 z N 91 [(0, .ref x0), (1, .int x1)] [])) : zW p l e R s m args below meth c cells slots Q D Ca B 4 σ N 60 [(0, .ref x0), (1, .int x1), (2, .int u2), (3, .int u3)] [] := by
  unfold sX1_goBackToLatest_60b at hf
  refine z_iload_n C dX1_goBackToLatest_60 rfl 3 rfl ?_
  refine z_if_le C 91 dX1_goBackToLatest_61 (by decide) (fun q20 => ?_) (fun q20 => ?_)
  · rw [if_pos q20] at hf
    cases hf
    refine z_sub [0, 1] rfl ?_
    exact hk.2 _ rfl
  · rw [if_neg q20] at hf
    refine z_aload_n C dX1_goBackToLatest_64 rfl 0 rfl ?_
    obtain ⟨v15, hv15, hf⟩ := zbind hf
    refine gf_RX1_30 C hv15 dX1_goBackToLatest_65 ?_
    refine z_iload_n C dX1_goBackToLatest_68 rfl 1 rfl ?_
    refine z_iload_n C dX1_goBackToLatest_69 rfl 2 rfl ?_
    obtain ⟨c16, hc16, hf⟩ := zbind hf
    obtain ⟨kc16, hc16⟩ := zck_ok hc16
    refine z_callVv (As := [.int x1, .int u2]) (F0 := 2) (L0 := 85) C (mX3_add l D Ca B En C.2.2.2.2.2.2.2.1 σ N v15 x1 u2 _ hc16) hRm kc16 rfl kw_344 kw_9 kw_341 kw_342 kw_343 hyX3_add (Nat.le_of_ble_eq_true rfl) (Nat.le_of_ble_eq_true rfl) rfl rfl (Nat.le_of_ble_eq_true rfl) dX1_goBackToLatest_70 ?_
    refine z_aload_n C dX1_goBackToLatest_73 rfl 0 rfl ?_
    obtain ⟨v17, hv17, hf⟩ := zbind hf
    refine gf_RX1_41 C hv17 dX1_goBackToLatest_74 ?_
    obtain ⟨v18, hv18, hf⟩ := zbind hf
    refine gf_RX1_267 C hv18 dX1_goBackToLatest_77 ?_
    refine z_iload_n C dX1_goBackToLatest_80 rfl 2 rfl ?_
    obtain ⟨c19, hc19, hf⟩ := zbind hf
    obtain ⟨kc19, hc19⟩ := zck_ok hc19
    refine z_callVi (As := [.int u2]) (F0 := 2) (L0 := 85) C (mX3_behind l D Ca B En C.2.2.2.2.2.2.2.1 c16 N v18 u2 _ hc19) hRm kc19 rfl kw_348 kw_9 kw_345 kw_346 kw_347 hyX3_behind (Nat.le_of_ble_eq_true rfl) (Nat.le_of_ble_eq_true rfl) rfl rfl (Nat.le_of_ble_eq_true rfl) dX1_goBackToLatest_81 ?_
    refine z_istore_n (lv2 := [(2, .int c19.2), (0, .ref x0), (1, .int x1), (3, .int u3)]) C dX1_goBackToLatest_84 rfl (by decide) rfl ?_
    refine z_iinc (lv2 := [(3, .int (u3 + (zi (-1)))), (2, .int c19.2), (0, .ref x0), (1, .int x1)]) C (u3 + (zi (-1))) dX1_goBackToLatest_85 3 rfl rfl (by decide) rfl ?_
    refine z_goto C 60 dX1_goBackToLatest_88 (by decide) ?_
    cases hf
    refine z_sub [2, 3, 1, 0] rfl ?_
    exact hk.1 _ rfl

theorem wsX1_goBackToLatest_60 (C : zC p s m args meth c cX1_goBackToLatest RX1 4 D Ca B En) (hRm : zRm R 2 85 cells slots) (x0 : Nat) (x1 : Int32) (n : Nat) (z : (zS × Int32 × Int32)) (x : zS) (hf : zloop (sX1_goBackToLatest_60 x0 x1) n z = some x) (hk : (∀ o : zS, x = o → zW p l e R s m args below meth c cells slots Q D Ca B 4 o N 91 [(0, .ref x0), (1, .int x1)] [])) : zW p l e R s m args below meth c cells slots Q D Ca B 4 z.1 N 60 [(0, .ref x0), (1, .int x1), (2, .int z.2.1), (3, .int z.2.2)] [] := by
  refine zloop_W (P := fun z : (zS × Int32 × Int32) => zW p l e R s m args below meth c cells slots Q D Ca B 4 z.1 N 60 [(0, .ref x0), (1, .int x1), (2, .int z.2.1), (3, .int z.2.2)] []) (K := fun x : zS => (∀ o : zS, x = o → zW p l e R s m args below meth c cells slots Q D Ca B 4 o N 91 [(0, .ref x0), (1, .int x1)] [])) ?_ n z x hf hk
  intro z y hy h1 h2
  refine wsX1_goBackToLatest_60b C hRm x0 x1 z.1 z.2.1 z.2.2 y hy ⟨fun z2 e => h1 z2 e, fun o e => (h2 _ e) o rfl⟩
set_option maxRecDepth 100000 in
set_option maxHeartbeats 4000000 in
theorem wsX1_goBackToLatest_30b (C : zC p s m args meth c cX1_goBackToLatest RX1 4 D Ca B En) (hRm : zRm R 2 85 cells slots) (x0 : Nat) (σ : zS) (u1 : Int32) (y : (zS × Int32) ⊕ zS) (hf : sX1_goBackToLatest_30b x0 σ u1 = some y) (hk : (∀ z : (zS × Int32), y = .inl z → zW p l e R s m args below meth c cells slots Q D Ca B 4 z.1 N 30 [(0, .ref x0), (1, .int z.2)] []) ∧ (∀ z : zS, y = .inr z → zW p l e R s m args below meth c cells slots Q D Ca B 4 z N 97 [] [])) : zW p l e R s m args below meth c cells slots Q D Ca B 4 σ N 30 [(0, .ref x0), (1, .int u1)] [] := by
  unfold sX1_goBackToLatest_30b at hf
  refine z_iload_n C dX1_goBackToLatest_30 rfl 1 rfl ?_
  refine z_bipush C (zi 24) dX1_goBackToLatest_31 (by decide) ?_
  refine z_icmp_ge C 97 dX1_goBackToLatest_33 (by decide) (fun q22 => ?_) (fun q22 => ?_)
  · rw [if_pos q22] at hf
    cases hf
    refine z_sub [] rfl ?_
    exact hk.2 _ rfl
  · rw [if_neg q22] at hf
    refine z_aload_n C dX1_goBackToLatest_36 rfl 0 rfl ?_
    obtain ⟨v9, hv9, hf⟩ := zbind hf
    refine gf_RX1_41 C hv9 dX1_goBackToLatest_37 ?_
    obtain ⟨v10, hv10, hf⟩ := zbind hf
    refine gf_RX1_267 C hv10 dX1_goBackToLatest_40 ?_
    refine z_iload_n C dX1_goBackToLatest_43 rfl 1 rfl ?_
    obtain ⟨c11, hc11, hf⟩ := zbind hf
    obtain ⟨kc11, hc11⟩ := zck_ok hc11
    refine z_callVi (As := [.int u1]) (F0 := 2) (L0 := 85) C (mX3_firstOf l D Ca B En C.2.2.2.2.2.2.2.1 σ N v10 u1 _ hc11) hRm kc11 rfl kw_336 kw_9 kw_333 kw_334 kw_335 hyX3_firstOf (Nat.le_of_ble_eq_true rfl) (Nat.le_of_ble_eq_true rfl) rfl rfl (Nat.le_of_ble_eq_true rfl) dX1_goBackToLatest_44 ?_
    refine z_istore_n (lv2 := [(2, .int c11.2), (0, .ref x0), (1, .int u1)]) C dX1_goBackToLatest_47 rfl (by decide) rfl ?_
    refine z_aload_n C dX1_goBackToLatest_48 rfl 1 rfl ?_
    obtain ⟨v12, hv12, hf⟩ := zbind hf
    refine gf_RX1_41 C hv12 dX1_goBackToLatest_49 ?_
    obtain ⟨v13, hv13, hf⟩ := zbind hf
    refine gf_RX1_267 C hv13 dX1_goBackToLatest_52 ?_
    refine z_iload_n C dX1_goBackToLatest_55 rfl 2 rfl ?_
    obtain ⟨c14, hc14, hf⟩ := zbind hf
    obtain ⟨kc14, hc14⟩ := zck_ok hc14
    refine z_callVi (As := [.int u1]) (F0 := 2) (L0 := 85) C (mX3_sizeOf l D Ca B En C.2.2.2.2.2.2.2.1 c11.1 N v13 u1 _ hc14) hRm kc14 rfl kw_340 kw_9 kw_337 kw_338 kw_339 hyX3_sizeOf (Nat.le_of_ble_eq_true rfl) (Nat.le_of_ble_eq_true rfl) rfl rfl (Nat.le_of_ble_eq_true rfl) dX1_goBackToLatest_56 ?_
    refine z_istore_n (lv2 := [(3, .int c14.2), (2, .int c11.2), (0, .ref x0), (1, .int u1)]) C dX1_goBackToLatest_59 rfl (by decide) rfl ?_
    obtain ⟨o21, ho21, hf⟩ := zbind hf
    refine z_sub [2, 3, 1, 0] rfl ?_
    refine wsX1_goBackToLatest_60 C hRm _ _ zfuel (c14.1, c11.2, c14.2) o21 ho21 ?_
    intro z9 e9
    subst e9
    refine z_iinc (lv2 := [(1, .int (u1 + (zi 1))), (0, .ref x0)]) C (u1 + (zi 1)) dX1_goBackToLatest_91 1 rfl rfl (by decide) rfl ?_
    refine z_goto C 30 dX1_goBackToLatest_94 (by decide) ?_
    cases hf
    refine z_sub [1, 0] rfl ?_
    exact hk.1 _ rfl

theorem wsX1_goBackToLatest_30 (C : zC p s m args meth c cX1_goBackToLatest RX1 4 D Ca B En) (hRm : zRm R 2 85 cells slots) (x0 : Nat) (n : Nat) (z : (zS × Int32)) (x : zS) (hf : zloop (sX1_goBackToLatest_30 x0) n z = some x) (hk : (∀ o : zS, x = o → zW p l e R s m args below meth c cells slots Q D Ca B 4 o N 97 [] [])) : zW p l e R s m args below meth c cells slots Q D Ca B 4 z.1 N 30 [(0, .ref x0), (1, .int z.2)] [] := by
  refine zloop_W (P := fun z : (zS × Int32) => zW p l e R s m args below meth c cells slots Q D Ca B 4 z.1 N 30 [(0, .ref x0), (1, .int z.2)] []) (K := fun x : zS => (∀ o : zS, x = o → zW p l e R s m args below meth c cells slots Q D Ca B 4 o N 97 [] [])) ?_ n z x hf hk
  intro z y hy h1 h2
  refine wsX1_goBackToLatest_30b C hRm x0 z.1 z.2 y hy ⟨fun z2 e => h1 z2 e, fun o e => (h2 _ e) o rfl⟩
set_option maxRecDepth 100000 in
set_option maxHeartbeats 4000000 in
theorem wfX1_goBackToLatest (C : zC p s m args meth c cX1_goBackToLatest RX1 4 D Ca B En) (hRm : zRm R 2 85 cells slots) (σ : zS) (x0 : Nat) (τ : zS) (hf : fX1_goBackToLatest σ x0 = some τ) (hq : ∀ (pc : Nat) (lv : List (Nat × Value)), decode cX1_goBackToLatest pc = .ok (.return_, 1) → zW p l e R s m args below meth c cells slots Q D Ca B 4 τ N pc lv []) : zW p l e R s m args below meth c cells slots Q D Ca B 4 σ N 0 [(0, .ref x0)] [] := by
  unfold fX1_goBackToLatest at hf
  refine z_aload_n C dX1_goBackToLatest_0 rfl 0 rfl ?_
  obtain ⟨v1, hv1, hf⟩ := zbind hf
  refine gf_RX1_41 C hv1 dX1_goBackToLatest_1 ?_
  obtain ⟨v2, hv2, hf⟩ := zbind hf
  refine gf_RX1_189 C hv2 dX1_goBackToLatest_4 ?_
  refine z_aload_n C dX1_goBackToLatest_7 rfl 0 rfl ?_
  obtain ⟨v3, hv3, hf⟩ := zbind hf
  refine gf_RX1_15 C hv3 dX1_goBackToLatest_8 ?_
  obtain ⟨c4, hc4, hf⟩ := zbind hf
  refine z_callSNv (host := "BarrierFlow") (As := [.ref v2, .ref v3]) (F0 := 2) (L0 := 85) C (mX9_copyRow l D Ca B En C.2.2.2.2.2.2.2.1 σ N v2 v3 _ hc4) hRm kw_297 kw_1 (by decide) kw_296 hyX9_copyRow (Nat.le_of_ble_eq_true rfl) (Nat.le_of_ble_eq_true rfl) rfl rfl (Nat.le_of_ble_eq_true rfl) dX1_goBackToLatest_11 ?_
  refine z_aload_n C dX1_goBackToLatest_14 rfl 0 rfl ?_
  obtain ⟨v5, hv5, hf⟩ := zbind hf
  refine gf_RX1_41 C hv5 dX1_goBackToLatest_15 ?_
  obtain ⟨v6, hv6, hf⟩ := zbind hf
  refine gf_RX1_273 C hv6 dX1_goBackToLatest_18 ?_
  refine z_aload_n C dX1_goBackToLatest_21 rfl 0 rfl ?_
  obtain ⟨v7, hv7, hf⟩ := zbind hf
  refine gf_RX1_18 C hv7 dX1_goBackToLatest_22 ?_
  obtain ⟨c8, hc8, hf⟩ := zbind hf
  refine z_callSNv (host := "BarrierFlow") (As := [.ref v6, .ref v7]) (F0 := 2) (L0 := 85) C (mX9_copyRow l D Ca B En C.2.2.2.2.2.2.2.1 c4 N v6 v7 _ hc8) hRm kw_297 kw_1 (by decide) kw_296 hyX9_copyRow (Nat.le_of_ble_eq_true rfl) (Nat.le_of_ble_eq_true rfl) rfl rfl (Nat.le_of_ble_eq_true rfl) dX1_goBackToLatest_25 ?_
  refine z_iconst C (zi 0) dX1_goBackToLatest_28 (by decide) ?_
  refine z_istore_n (lv2 := [(1, .int ((zi 0))), (0, .ref x0)]) C dX1_goBackToLatest_29 rfl (by decide) rfl ?_
  obtain ⟨o23, ho23, hf⟩ := zbind hf
  refine z_sub [1, 0] rfl ?_
  refine wsX1_goBackToLatest_30 C hRm _ zfuel (c8, (zi 0)) o23 ho23 ?_
  intro z9 e9
  subst e9
  cases hf
  exact hq _ _ dX1_goBackToLatest_97

theorem mX1_goBackToLatest (l : Launch) (D : va_G) (Ca : Nat → ClassId) (B : Nat) (En : State → Prop) (hE : zEk B En) (σ : zS) (N : Nat) (x0 : Nat) (X : zS) (hf : fX1_goBackToLatest σ x0 = some X) : zMv l D Ca B En yX1_goBackToLatest cX1_goBackToLatest 4 (Option.none : Option Jvm.ClassFile.FieldType) 2 85 [.ref x0] σ N X () :=
  zMet_v (own := RX1) hE (by decide +kernel) rfl (Nat.le_of_ble_eq_true rfl) (fun p e s m args below meth c C hr hRm => wfX1_goBackToLatest C hRm σ x0 X hf (fun pc lv hd => zfin_v (r := ()) C hr hd))
theorem dX1_recover_0 : decode cX1_recover 0 = .ok (.aload_n 0, 1) := by decide +kernel
theorem dX1_recover_1 : decode cX1_recover 1 = .ok (.invokevirtual 137, 3) := by decide +kernel
theorem dX1_recover_4 : decode cX1_recover 4 = .ok (.iconst 0, 1) := by decide +kernel
theorem dX1_recover_5 : decode cX1_recover 5 = .ok (.istore_n 1, 1) := by decide +kernel
theorem dX1_recover_6 : decode cX1_recover 6 = .ok (.iload_n 1, 1) := by decide +kernel
theorem dX1_recover_7 : decode cX1_recover 7 = .ok (.bipush 28, 2) := by decide +kernel
theorem dX1_recover_9 : decode cX1_recover 9 = .ok (.if_icmp .ge 17, 3) := by decide +kernel
theorem dX1_recover_12 : decode cX1_recover 12 = .ok (.aload_n 0, 1) := by decide +kernel
theorem dX1_recover_13 : decode cX1_recover 13 = .ok (.getfield 30, 3) := by decide +kernel
theorem dX1_recover_16 : decode cX1_recover 16 = .ok (.iload_n 1, 1) := by decide +kernel
theorem dX1_recover_17 : decode cX1_recover 17 = .ok (.invokevirtual 280, 3) := by decide +kernel
theorem dX1_recover_20 : decode cX1_recover 20 = .ok (.iinc 1 1, 3) := by decide +kernel
theorem dX1_recover_23 : decode cX1_recover 23 = .ok (.goto (-17), 3) := by decide +kernel
theorem dX1_recover_26 : decode cX1_recover 26 = .ok (.aload_n 0, 1) := by decide +kernel
theorem dX1_recover_27 : decode cX1_recover 27 = .ok (.getfield 37, 3) := by decide +kernel
theorem dX1_recover_30 : decode cX1_recover 30 = .ok (.iconst 0, 1) := by decide +kernel
theorem dX1_recover_31 : decode cX1_recover 31 = .ok (.putfield 110, 3) := by decide +kernel
theorem dX1_recover_34 : decode cX1_recover 34 = .ok (.aload_n 0, 1) := by decide +kernel
theorem dX1_recover_35 : decode cX1_recover 35 = .ok (.getfield 47, 3) := by decide +kernel
theorem dX1_recover_38 : decode cX1_recover 38 = .ok (.iconst (-1), 1) := by decide +kernel
theorem dX1_recover_39 : decode cX1_recover 39 = .ok (.invokestatic 283, 3) := by decide +kernel
theorem dX1_recover_42 : decode cX1_recover 42 = .ok (.aload_n 0, 1) := by decide +kernel
theorem dX1_recover_43 : decode cX1_recover 43 = .ok (.getfield 24, 3) := by decide +kernel
theorem dX1_recover_46 : decode cX1_recover 46 = .ok (.iconst 0, 1) := by decide +kernel
theorem dX1_recover_47 : decode cX1_recover 47 = .ok (.invokestatic 283, 3) := by decide +kernel
theorem dX1_recover_50 : decode cX1_recover 50 = .ok (.aload_n 0, 1) := by decide +kernel
theorem dX1_recover_51 : decode cX1_recover 51 = .ok (.getfield 44, 3) := by decide +kernel
theorem dX1_recover_54 : decode cX1_recover 54 = .ok (.iconst 0, 1) := by decide +kernel
theorem dX1_recover_55 : decode cX1_recover 55 = .ok (.invokestatic 283, 3) := by decide +kernel
theorem dX1_recover_58 : decode cX1_recover 58 = .ok (.aload_n 0, 1) := by decide +kernel
theorem dX1_recover_59 : decode cX1_recover 59 = .ok (.getfield 21, 3) := by decide +kernel
theorem dX1_recover_62 : decode cX1_recover 62 = .ok (.iconst 0, 1) := by decide +kernel
theorem dX1_recover_63 : decode cX1_recover 63 = .ok (.invokestatic 283, 3) := by decide +kernel
theorem dX1_recover_66 : decode cX1_recover 66 = .ok (.aload_n 0, 1) := by decide +kernel
theorem dX1_recover_67 : decode cX1_recover 67 = .ok (.dup, 1) := by decide +kernel
theorem dX1_recover_68 : decode cX1_recover 68 = .ok (.getfield 119, 3) := by decide +kernel
theorem dX1_recover_71 : decode cX1_recover 71 = .ok (.iconst 1, 1) := by decide +kernel
theorem dX1_recover_72 : decode cX1_recover 72 = .ok (.iadd, 1) := by decide +kernel
theorem dX1_recover_73 : decode cX1_recover 73 = .ok (.putfield 119, 3) := by decide +kernel
theorem dX1_recover_76 : decode cX1_recover 76 = .ok (.aload_n 0, 1) := by decide +kernel
theorem dX1_recover_77 : decode cX1_recover 77 = .ok (.getfield 41, 3) := by decide +kernel
theorem dX1_recover_80 : decode cX1_recover 80 = .ok (.invokevirtual 129, 3) := by decide +kernel
theorem dX1_recover_83 : decode cX1_recover 83 = .ok (.ifCond .eq 10, 3) := by decide +kernel
theorem dX1_recover_86 : decode cX1_recover 86 = .ok (.aload_n 0, 1) := by decide +kernel
theorem dX1_recover_87 : decode cX1_recover 87 = .ok (.invokevirtual 287, 3) := by decide +kernel
theorem dX1_recover_90 : decode cX1_recover 90 = .ok (.goto 19, 3) := by decide +kernel
theorem dX1_recover_93 : decode cX1_recover 93 = .ok (.aload_n 0, 1) := by decide +kernel
theorem dX1_recover_94 : decode cX1_recover 94 = .ok (.getfield 15, 3) := by decide +kernel
theorem dX1_recover_97 : decode cX1_recover 97 = .ok (.iconst 0, 1) := by decide +kernel
theorem dX1_recover_98 : decode cX1_recover 98 = .ok (.invokestatic 283, 3) := by decide +kernel
theorem dX1_recover_101 : decode cX1_recover 101 = .ok (.aload_n 0, 1) := by decide +kernel
theorem dX1_recover_102 : decode cX1_recover 102 = .ok (.getfield 18, 3) := by decide +kernel
theorem dX1_recover_105 : decode cX1_recover 105 = .ok (.iconst 0, 1) := by decide +kernel
theorem dX1_recover_106 : decode cX1_recover 106 = .ok (.invokestatic 283, 3) := by decide +kernel
theorem dX1_recover_109 : decode cX1_recover 109 = .ok (.return_, 1) := by decide +kernel
theorem hyX1_recover : yX1_recover.cls ≠ "java/lang/invoke/MethodHandle" ∧ yX1_recover.cls ≠ "java/lang/invoke/VarHandle" ∧ (parseMethodDescriptor yX1_recover.desc).map (fun d => d.parameters.length) = some 0 := ⟨by decide +kernel, by decide +kernel, by decide +kernel⟩
set_option maxRecDepth 100000 in
set_option maxHeartbeats 4000000 in
theorem wsX1_recover_6b (C : zC p s m args meth c cX1_recover RX1 2 D Ca B En) (hRm : zRm R 3 108 cells slots) (x0 : Nat) (σ : zS) (u1 : Int32) (y : (zS × Int32) ⊕ zS) (hf : sX1_recover_6b x0 σ u1 = some y) (hk : (∀ z : (zS × Int32), y = .inl z → zW p l e R s m args below meth c cells slots Q D Ca B 2 z.1 N 6 [(0, .ref x0), (1, .int z.2)] []) ∧ (∀ z : zS, y = .inr z → zW p l e R s m args below meth c cells slots Q D Ca B 2 z N 26 [(0, .ref x0)] [])) : zW p l e R s m args below meth c cells slots Q D Ca B 2 σ N 6 [(0, .ref x0), (1, .int u1)] [] := by
  unfold sX1_recover_6b at hf
  refine z_iload_n C dX1_recover_6 rfl 1 rfl ?_
  refine z_bipush C (zi 28) dX1_recover_7 (by decide) ?_
  refine z_icmp_ge C 26 dX1_recover_9 (by decide) (fun q4 => ?_) (fun q4 => ?_)
  · rw [if_pos q4] at hf
    cases hf
    refine z_sub [0] rfl ?_
    exact hk.2 _ rfl
  · rw [if_neg q4] at hf
    refine z_aload_n C dX1_recover_12 rfl 0 rfl ?_
    obtain ⟨v2, hv2, hf⟩ := zbind hf
    refine gf_RX1_30 C hv2 dX1_recover_13 ?_
    refine z_iload_n C dX1_recover_16 rfl 1 rfl ?_
    obtain ⟨c3, hc3, hf⟩ := zbind hf
    obtain ⟨kc3, hc3⟩ := zck_ok hc3
    refine z_callVv (As := [.int u1]) (F0 := 3) (L0 := 108) C (mX3_clear l D Ca B En C.2.2.2.2.2.2.2.1 σ N v2 u1 _ hc3) hRm kc3 rfl kw_206 kw_9 kw_327 kw_204 kw_205 hyX3_clear (Nat.le_of_ble_eq_true rfl) (Nat.le_of_ble_eq_true rfl) rfl rfl (Nat.le_of_ble_eq_true rfl) dX1_recover_17 ?_
    refine z_iinc (lv2 := [(1, .int (u1 + (zi 1))), (0, .ref x0)]) C (u1 + (zi 1)) dX1_recover_20 1 rfl rfl (by decide) rfl ?_
    refine z_goto C 6 dX1_recover_23 (by decide) ?_
    cases hf
    refine z_sub [1, 0] rfl ?_
    exact hk.1 _ rfl

theorem wsX1_recover_6 (C : zC p s m args meth c cX1_recover RX1 2 D Ca B En) (hRm : zRm R 3 108 cells slots) (x0 : Nat) (n : Nat) (z : (zS × Int32)) (x : zS) (hf : zloop (sX1_recover_6 x0) n z = some x) (hk : (∀ o : zS, x = o → zW p l e R s m args below meth c cells slots Q D Ca B 2 o N 26 [(0, .ref x0)] [])) : zW p l e R s m args below meth c cells slots Q D Ca B 2 z.1 N 6 [(0, .ref x0), (1, .int z.2)] [] := by
  refine zloop_W (P := fun z : (zS × Int32) => zW p l e R s m args below meth c cells slots Q D Ca B 2 z.1 N 6 [(0, .ref x0), (1, .int z.2)] []) (K := fun x : zS => (∀ o : zS, x = o → zW p l e R s m args below meth c cells slots Q D Ca B 2 o N 26 [(0, .ref x0)] [])) ?_ n z x hf hk
  intro z y hy h1 h2
  refine wsX1_recover_6b C hRm x0 z.1 z.2 y hy ⟨fun z2 e => h1 z2 e, fun o e => (h2 _ e) o rfl⟩
set_option maxRecDepth 100000 in
set_option maxHeartbeats 4000000 in
theorem wfX1_recover (C : zC p s m args meth c cX1_recover RX1 2 D Ca B En) (hRm : zRm R 3 108 cells slots) (σ : zS) (x0 : Nat) (τ : zS) (hf : fX1_recover σ x0 = some τ) (hq : ∀ (pc : Nat) (lv : List (Nat × Value)), decode cX1_recover pc = .ok (.return_, 1) → zW p l e R s m args below meth c cells slots Q D Ca B 2 τ N pc lv []) : zW p l e R s m args below meth c cells slots Q D Ca B 2 σ N 0 [(0, .ref x0)] [] := by
  unfold fX1_recover at hf
  refine z_aload_n C dX1_recover_0 rfl 0 rfl ?_
  obtain ⟨c1, hc1, hf⟩ := zbind hf
  obtain ⟨kc1, hc1⟩ := zck_ok hc1
  refine z_callVv (As := []) (F0 := 3) (L0 := 108) C (mX1_showLatest l D Ca B En C.2.2.2.2.2.2.2.1 σ N x0  _ hc1) hRm kc1 rfl kw_312 kw_8 kw_309 kw_311 kp_2 hyX1_showLatest (Nat.le_of_ble_eq_true rfl) (Nat.le_of_ble_eq_true rfl) rfl rfl (Nat.le_of_ble_eq_true rfl) dX1_recover_1 ?_
  refine z_iconst C (zi 0) dX1_recover_4 (by decide) ?_
  refine z_istore_n (lv2 := [(1, .int ((zi 0))), (0, .ref x0)]) C dX1_recover_5 rfl (by decide) rfl ?_
  obtain ⟨o5, ho5, hf⟩ := zbind hf
  refine z_sub [1, 0] rfl ?_
  refine wsX1_recover_6 C hRm _ zfuel (c1, (zi 0)) o5 ho5 ?_
  intro z9 e9
  subst e9
  refine z_aload_n C dX1_recover_26 rfl 0 rfl ?_
  obtain ⟨v6, hv6, hf⟩ := zbind hf
  refine gf_RX1_37 C hv6 dX1_recover_27 ?_
  refine z_iconst C (zi 0) dX1_recover_30 (by decide) ?_
  obtain ⟨σ7, hσ7, hf⟩ := zbind hf
  refine gp_RX1_110 C hσ7 dX1_recover_31 ?_
  refine z_aload_n C dX1_recover_34 rfl 0 rfl ?_
  obtain ⟨v8, hv8, hf⟩ := zbind hf
  refine gf_RX1_47 C hv8 dX1_recover_35 ?_
  refine z_iconst C (zi (-1)) dX1_recover_38 (by decide) ?_
  obtain ⟨c9, hc9, hf⟩ := zbind hf
  refine z_callSNv (host := "BarrierFlow") (As := [.ref v8, .int ((zi (-1)))]) (F0 := 3) (L0 := 108) C (mX9_fillRow l D Ca B En C.2.2.2.2.2.2.2.1 σ7 N v8 ((zi (-1))) _ hc9) hRm kw_165 kw_1 (by decide) kw_164 hyX9_fillRow (Nat.le_of_ble_eq_true rfl) (Nat.le_of_ble_eq_true rfl) rfl rfl (Nat.le_of_ble_eq_true rfl) dX1_recover_39 ?_
  refine z_aload_n C dX1_recover_42 rfl 0 rfl ?_
  obtain ⟨v10, hv10, hf⟩ := zbind hf
  refine gf_RX1_24 C hv10 dX1_recover_43 ?_
  refine z_iconst C (zi 0) dX1_recover_46 (by decide) ?_
  obtain ⟨c11, hc11, hf⟩ := zbind hf
  refine z_callSNv (host := "BarrierFlow") (As := [.ref v10, .int ((zi 0))]) (F0 := 3) (L0 := 108) C (mX9_fillRow l D Ca B En C.2.2.2.2.2.2.2.1 c9 N v10 ((zi 0)) _ hc11) hRm kw_165 kw_1 (by decide) kw_164 hyX9_fillRow (Nat.le_of_ble_eq_true rfl) (Nat.le_of_ble_eq_true rfl) rfl rfl (Nat.le_of_ble_eq_true rfl) dX1_recover_47 ?_
  refine z_aload_n C dX1_recover_50 rfl 0 rfl ?_
  obtain ⟨v12, hv12, hf⟩ := zbind hf
  refine gf_RX1_44 C hv12 dX1_recover_51 ?_
  refine z_iconst C (zi 0) dX1_recover_54 (by decide) ?_
  obtain ⟨c13, hc13, hf⟩ := zbind hf
  refine z_callSNv (host := "BarrierFlow") (As := [.ref v12, .int ((zi 0))]) (F0 := 3) (L0 := 108) C (mX9_fillRow l D Ca B En C.2.2.2.2.2.2.2.1 c11 N v12 ((zi 0)) _ hc13) hRm kw_165 kw_1 (by decide) kw_164 hyX9_fillRow (Nat.le_of_ble_eq_true rfl) (Nat.le_of_ble_eq_true rfl) rfl rfl (Nat.le_of_ble_eq_true rfl) dX1_recover_55 ?_
  refine z_aload_n C dX1_recover_58 rfl 0 rfl ?_
  obtain ⟨v14, hv14, hf⟩ := zbind hf
  refine gf_RX1_21 C hv14 dX1_recover_59 ?_
  refine z_iconst C (zi 0) dX1_recover_62 (by decide) ?_
  obtain ⟨c15, hc15, hf⟩ := zbind hf
  refine z_callSNv (host := "BarrierFlow") (As := [.ref v14, .int ((zi 0))]) (F0 := 3) (L0 := 108) C (mX9_fillRow l D Ca B En C.2.2.2.2.2.2.2.1 c13 N v14 ((zi 0)) _ hc15) hRm kw_165 kw_1 (by decide) kw_164 hyX9_fillRow (Nat.le_of_ble_eq_true rfl) (Nat.le_of_ble_eq_true rfl) rfl rfl (Nat.le_of_ble_eq_true rfl) dX1_recover_63 ?_
  refine z_aload_n C dX1_recover_66 rfl 0 rfl ?_
  refine z_dup C dX1_recover_67 rfl ?_
  obtain ⟨v16, hv16, hf⟩ := zbind hf
  refine gf_RX1_119 C hv16 dX1_recover_68 ?_
  refine z_iconst C (zi 1) dX1_recover_71 (by decide) ?_
  refine z_iadd C dX1_recover_72 ?_
  obtain ⟨σ17, hσ17, hf⟩ := zbind hf
  refine gp_RX1_119 C hσ17 dX1_recover_73 ?_
  refine z_aload_n C dX1_recover_76 rfl 0 rfl ?_
  obtain ⟨v18, hv18, hf⟩ := zbind hf
  refine gf_RX1_41 C hv18 dX1_recover_77 ?_
  obtain ⟨c19, hc19, hf⟩ := zbind hf
  obtain ⟨kc19, hc19⟩ := zck_ok hc19
  refine z_callVi (As := []) (F0 := 3) (L0 := 108) C (mX0_exists l D Ca B En C.2.2.2.2.2.2.2.1 σ17 N v18  _ hc19) hRm kc19 rfl kw_316 kw_10 kw_313 kw_314 kw_315 hyX0_exists (Nat.le_of_ble_eq_true rfl) (Nat.le_of_ble_eq_true rfl) rfl rfl (Nat.le_of_ble_eq_true rfl) dX1_recover_80 ?_
  refine z_if_eq C 93 dX1_recover_83 (by decide) (fun q25 => ?_) (fun q25 => ?_)
  · rw [if_pos q25] at hf
    refine z_aload_n C dX1_recover_93 rfl 0 rfl ?_
    obtain ⟨v20, hv20, hf⟩ := zbind hf
    refine gf_RX1_15 C hv20 dX1_recover_94 ?_
    refine z_iconst C (zi 0) dX1_recover_97 (by decide) ?_
    obtain ⟨c21, hc21, hf⟩ := zbind hf
    refine z_callSNv (host := "BarrierFlow") (As := [.ref v20, .int ((zi 0))]) (F0 := 3) (L0 := 108) C (mX9_fillRow l D Ca B En C.2.2.2.2.2.2.2.1 c19.1 N v20 ((zi 0)) _ hc21) hRm kw_165 kw_1 (by decide) kw_164 hyX9_fillRow (Nat.le_of_ble_eq_true rfl) (Nat.le_of_ble_eq_true rfl) rfl rfl (Nat.le_of_ble_eq_true rfl) dX1_recover_98 ?_
    refine z_aload_n C dX1_recover_101 rfl 0 rfl ?_
    obtain ⟨v22, hv22, hf⟩ := zbind hf
    refine gf_RX1_18 C hv22 dX1_recover_102 ?_
    refine z_iconst C (zi 0) dX1_recover_105 (by decide) ?_
    obtain ⟨c23, hc23, hf⟩ := zbind hf
    refine z_callSNv (host := "BarrierFlow") (As := [.ref v22, .int ((zi 0))]) (F0 := 3) (L0 := 108) C (mX9_fillRow l D Ca B En C.2.2.2.2.2.2.2.1 c21 N v22 ((zi 0)) _ hc23) hRm kw_165 kw_1 (by decide) kw_164 hyX9_fillRow (Nat.le_of_ble_eq_true rfl) (Nat.le_of_ble_eq_true rfl) rfl rfl (Nat.le_of_ble_eq_true rfl) dX1_recover_106 ?_
    cases hf
    exact hq _ _ dX1_recover_109
  · rw [if_neg q25] at hf
    refine z_aload_n C dX1_recover_86 rfl 0 rfl ?_
    obtain ⟨c24, hc24, hf⟩ := zbind hf
    obtain ⟨kc24, hc24⟩ := zck_ok hc24
    refine z_callVv (As := []) (F0 := 3) (L0 := 108) C (mX1_goBackToLatest l D Ca B En C.2.2.2.2.2.2.2.1 c19.1 N x0  _ hc24) hRm kc24 rfl kw_332 kw_8 kw_329 kw_331 kp_3 hyX1_goBackToLatest (Nat.le_of_ble_eq_true rfl) (Nat.le_of_ble_eq_true rfl) rfl rfl (Nat.le_of_ble_eq_true rfl) dX1_recover_87 ?_
    refine z_goto C 109 dX1_recover_90 (by decide) ?_
    cases hf
    exact hq _ _ dX1_recover_109

theorem mX1_recover (l : Launch) (D : va_G) (Ca : Nat → ClassId) (B : Nat) (En : State → Prop) (hE : zEk B En) (σ : zS) (N : Nat) (x0 : Nat) (X : zS) (hf : fX1_recover σ x0 = some X) : zMv l D Ca B En yX1_recover cX1_recover 2 (Option.none : Option Jvm.ClassFile.FieldType) 3 108 [.ref x0] σ N X () :=
  zMet_v (own := RX1) hE (by decide +kernel) rfl (Nat.le_of_ble_eq_true rfl) (fun p e s m args below meth c C hr hRm => wfX1_recover C hRm σ x0 X hf (fun pc lv hd => zfin_v (r := ()) C hr hd))
theorem dX1_start_0 : decode cX1_start 0 = .ok (.aload_n 0, 1) := by decide +kernel
theorem dX1_start_1 : decode cX1_start 1 = .ok (.aload_n 1, 1) := by decide +kernel
theorem dX1_start_2 : decode cX1_start 2 = .ok (.putfield 54, 3) := by decide +kernel
theorem dX1_start_5 : decode cX1_start 5 = .ok (.aload_n 0, 1) := by decide +kernel
theorem dX1_start_6 : decode cX1_start 6 = .ok (.aload_n 0, 1) := by decide +kernel
theorem dX1_start_7 : decode cX1_start 7 = .ok (.getfield 54, 3) := by decide +kernel
theorem dX1_start_10 : decode cX1_start 10 = .ok (.getstatic 58, 3) := by decide +kernel
theorem dX1_start_13 : decode cX1_start 13 = .ok (.invokevirtual 64, 3) := by decide +kernel
theorem dX1_start_16 : decode cX1_start 16 = .ok (.putfield 70, 3) := by decide +kernel
theorem dX1_start_19 : decode cX1_start 19 = .ok (.aload_n 0, 1) := by decide +kernel
theorem dX1_start_20 : decode cX1_start 20 = .ok (.aload_n 0, 1) := by decide +kernel
theorem dX1_start_21 : decode cX1_start 21 = .ok (.getfield 54, 3) := by decide +kernel
theorem dX1_start_24 : decode cX1_start 24 = .ok (.getstatic 74, 3) := by decide +kernel
theorem dX1_start_27 : decode cX1_start 27 = .ok (.invokevirtual 64, 3) := by decide +kernel
theorem dX1_start_30 : decode cX1_start 30 = .ok (.putfield 77, 3) := by decide +kernel
theorem dX1_start_33 : decode cX1_start 33 = .ok (.aload_n 0, 1) := by decide +kernel
theorem dX1_start_34 : decode cX1_start 34 = .ok (.aload_n 0, 1) := by decide +kernel
theorem dX1_start_35 : decode cX1_start 35 = .ok (.getfield 54, 3) := by decide +kernel
theorem dX1_start_38 : decode cX1_start 38 = .ok (.getstatic 80, 3) := by decide +kernel
theorem dX1_start_41 : decode cX1_start 41 = .ok (.invokevirtual 64, 3) := by decide +kernel
theorem dX1_start_44 : decode cX1_start 44 = .ok (.putfield 83, 3) := by decide +kernel
theorem dX1_start_47 : decode cX1_start 47 = .ok (.aload_n 0, 1) := by decide +kernel
theorem dX1_start_48 : decode cX1_start 48 = .ok (.aload_n 0, 1) := by decide +kernel
theorem dX1_start_49 : decode cX1_start 49 = .ok (.getfield 54, 3) := by decide +kernel
theorem dX1_start_52 : decode cX1_start 52 = .ok (.getstatic 86, 3) := by decide +kernel
theorem dX1_start_55 : decode cX1_start 55 = .ok (.invokevirtual 64, 3) := by decide +kernel
theorem dX1_start_58 : decode cX1_start 58 = .ok (.iconst 1, 1) := by decide +kernel
theorem dX1_start_59 : decode cX1_start 59 = .ok (.if_icmp .ne 7, 3) := by decide +kernel
theorem dX1_start_62 : decode cX1_start 62 = .ok (.iconst 1, 1) := by decide +kernel
theorem dX1_start_63 : decode cX1_start 63 = .ok (.goto 4, 3) := by decide +kernel
theorem dX1_start_66 : decode cX1_start 66 = .ok (.iconst 0, 1) := by decide +kernel
theorem dX1_start_67 : decode cX1_start 67 = .ok (.putfield 89, 3) := by decide +kernel
theorem dX1_start_70 : decode cX1_start 70 = .ok (.aload_n 0, 1) := by decide +kernel
theorem dX1_start_71 : decode cX1_start 71 = .ok (.iconst 0, 1) := by decide +kernel
theorem dX1_start_72 : decode cX1_start 72 = .ok (.putfield 93, 3) := by decide +kernel
theorem dX1_start_75 : decode cX1_start 75 = .ok (.aload_n 0, 1) := by decide +kernel
theorem dX1_start_76 : decode cX1_start 76 = .ok (.iconst 0, 1) := by decide +kernel
theorem dX1_start_77 : decode cX1_start 77 = .ok (.putfield 96, 3) := by decide +kernel
theorem dX1_start_80 : decode cX1_start 80 = .ok (.aload_n 0, 1) := by decide +kernel
theorem dX1_start_81 : decode cX1_start 81 = .ok (.iconst 0, 1) := by decide +kernel
theorem dX1_start_82 : decode cX1_start 82 = .ok (.putfield 99, 3) := by decide +kernel
theorem dX1_start_85 : decode cX1_start 85 = .ok (.aload_n 0, 1) := by decide +kernel
theorem dX1_start_86 : decode cX1_start 86 = .ok (.iconst 0, 1) := by decide +kernel
theorem dX1_start_87 : decode cX1_start 87 = .ok (.putfield 102, 3) := by decide +kernel
theorem dX1_start_90 : decode cX1_start 90 = .ok (.aload_n 0, 1) := by decide +kernel
theorem dX1_start_91 : decode cX1_start 91 = .ok (.getfield 54, 3) := by decide +kernel
theorem dX1_start_94 : decode cX1_start 94 = .ok (.getfield 105, 3) := by decide +kernel
theorem dX1_start_97 : decode cX1_start 97 = .ok (.aload_n 0, 1) := by decide +kernel
theorem dX1_start_98 : decode cX1_start 98 = .ok (.getfield 9, 3) := by decide +kernel
theorem dX1_start_101 : decode cX1_start 101 = .ok (.invokestatic 106, 3) := by decide +kernel
theorem dX1_start_104 : decode cX1_start 104 = .ok (.aload_n 0, 1) := by decide +kernel
theorem dX1_start_105 : decode cX1_start 105 = .ok (.getfield 41, 3) := by decide +kernel
theorem dX1_start_108 : decode cX1_start 108 = .ok (.iconst 0, 1) := by decide +kernel
theorem dX1_start_109 : decode cX1_start 109 = .ok (.putfield 110, 3) := by decide +kernel
theorem dX1_start_112 : decode cX1_start 112 = .ok (.aload_n 0, 1) := by decide +kernel
theorem dX1_start_113 : decode cX1_start 113 = .ok (.getfield 30, 3) := by decide +kernel
theorem dX1_start_116 : decode cX1_start 116 = .ok (.invokevirtual 113, 3) := by decide +kernel
theorem dX1_start_119 : decode cX1_start 119 = .ok (.aload_n 0, 1) := by decide +kernel
theorem dX1_start_120 : decode cX1_start 120 = .ok (.invokevirtual 116, 3) := by decide +kernel
theorem dX1_start_123 : decode cX1_start 123 = .ok (.aload_n 0, 1) := by decide +kernel
theorem dX1_start_124 : decode cX1_start 124 = .ok (.iconst 0, 1) := by decide +kernel
theorem dX1_start_125 : decode cX1_start 125 = .ok (.putfield 119, 3) := by decide +kernel
theorem dX1_start_128 : decode cX1_start 128 = .ok (.return_, 1) := by decide +kernel
theorem hyX1_start : yX1_start.cls ≠ "java/lang/invoke/MethodHandle" ∧ yX1_start.cls ≠ "java/lang/invoke/VarHandle" ∧ (parseMethodDescriptor yX1_start.desc).map (fun d => d.parameters.length) = some 1 := ⟨by decide +kernel, by decide +kernel, by decide +kernel⟩
set_option maxRecDepth 100000 in
set_option maxHeartbeats 4000000 in
theorem wjX1_start_67 (C : zC p s m args meth c cX1_start RX1 2 D Ca B En) (hRm : zRm R 4 129 cells slots) (ev : zEv) (hZ : ∀ U : State, En U → zEnv ev B U) (σ : zS) (x0 : Nat) (y0 : Int32) (y1 : Nat) (τ : zS) (hf : jX1_start_67 σ x0 y0 y1 = some τ) (hq : ∀ (pc : Nat) (lv : List (Nat × Value)), decode cX1_start pc = .ok (.return_, 1) → zW p l e R s m args below meth c cells slots Q D Ca B 2 τ N pc lv []) : zW p l e R s m args below meth c cells slots Q D Ca B 2 σ N 67 [(0, .ref x0)] [.int y0, .ref y1] := by
  unfold jX1_start_67 at hf
  obtain ⟨σ13, hσ13, hf⟩ := zbind hf
  refine gp_RX1_89 C hσ13 dX1_start_67 ?_
  refine z_aload_n C dX1_start_70 rfl 0 rfl ?_
  refine z_iconst C (zi 0) dX1_start_71 (by decide) ?_
  obtain ⟨σ14, hσ14, hf⟩ := zbind hf
  refine gp_RX1_93 C hσ14 dX1_start_72 ?_
  refine z_aload_n C dX1_start_75 rfl 0 rfl ?_
  refine z_iconst C (zi 0) dX1_start_76 (by decide) ?_
  obtain ⟨σ15, hσ15, hf⟩ := zbind hf
  refine gp_RX1_96 C hσ15 dX1_start_77 ?_
  refine z_aload_n C dX1_start_80 rfl 0 rfl ?_
  refine z_iconst C (zi 0) dX1_start_81 (by decide) ?_
  obtain ⟨σ16, hσ16, hf⟩ := zbind hf
  refine gp_RX1_99 C hσ16 dX1_start_82 ?_
  refine z_aload_n C dX1_start_85 rfl 0 rfl ?_
  refine z_iconst C (zi 0) dX1_start_86 (by decide) ?_
  obtain ⟨σ17, hσ17, hf⟩ := zbind hf
  refine gp_RX1_102 C hσ17 dX1_start_87 ?_
  refine z_aload_n C dX1_start_90 rfl 0 rfl ?_
  obtain ⟨v18, hv18, hf⟩ := zbind hf
  refine gf_RX1_54 C hv18 dX1_start_91 ?_
  obtain ⟨v19, hv19, hf⟩ := zbind hf
  refine gf_RX1_105 C hv19 dX1_start_94 ?_
  refine z_aload_n C dX1_start_97 rfl 0 rfl ?_
  obtain ⟨v20, hv20, hf⟩ := zbind hf
  refine gf_RX1_9 C hv20 dX1_start_98 ?_
  obtain ⟨c21, hc21, hf⟩ := zbind hf
  refine z_callSNv (host := "BarrierFlow") (As := [.ref v19, .ref v20]) (F0 := 4) (L0 := 129) C (mX9_copyRow l D Ca B En C.2.2.2.2.2.2.2.1 σ17 N v19 v20 _ hc21) hRm kw_297 kw_1 (by decide) kw_296 hyX9_copyRow (Nat.le_of_ble_eq_true rfl) (Nat.le_of_ble_eq_true rfl) rfl rfl (Nat.le_of_ble_eq_true rfl) dX1_start_101 ?_
  refine z_aload_n C dX1_start_104 rfl 0 rfl ?_
  obtain ⟨v22, hv22, hf⟩ := zbind hf
  refine gf_RX1_41 C hv22 dX1_start_105 ?_
  refine z_iconst C (zi 0) dX1_start_108 (by decide) ?_
  obtain ⟨σ23, hσ23, hf⟩ := zbind hf
  refine gp_RX1_110 C hσ23 dX1_start_109 ?_
  refine z_aload_n C dX1_start_112 rfl 0 rfl ?_
  obtain ⟨v24, hv24, hf⟩ := zbind hf
  refine gf_RX1_30 C hv24 dX1_start_113 ?_
  obtain ⟨c25, hc25, hf⟩ := zbind hf
  obtain ⟨kc25, hc25⟩ := zck_ok hc25
  refine z_callVv (As := []) (F0 := 4) (L0 := 129) C (mX3_clearAll l D Ca B En C.2.2.2.2.2.2.2.1 σ23 N v24  _ hc25) hRm kc25 rfl kw_202 kw_9 kw_304 kw_200 kw_201 hyX3_clearAll (Nat.le_of_ble_eq_true rfl) (Nat.le_of_ble_eq_true rfl) rfl rfl (Nat.le_of_ble_eq_true rfl) dX1_start_116 ?_
  refine z_aload_n C dX1_start_119 rfl 0 rfl ?_
  obtain ⟨c26, hc26, hf⟩ := zbind hf
  obtain ⟨kc26, hc26⟩ := zck_ok hc26
  refine z_callVv (As := []) (F0 := 4) (L0 := 129) C (mX1_recover l D Ca B En C.2.2.2.2.2.2.2.1 c25 N x0  _ hc26) hRm kc26 rfl kw_308 kw_8 kw_305 kw_306 kw_307 hyX1_recover (Nat.le_of_ble_eq_true rfl) (Nat.le_of_ble_eq_true rfl) rfl rfl (Nat.le_of_ble_eq_true rfl) dX1_start_120 ?_
  refine z_aload_n C dX1_start_123 rfl 0 rfl ?_
  refine z_iconst C (zi 0) dX1_start_124 (by decide) ?_
  obtain ⟨σ27, hσ27, hf⟩ := zbind hf
  refine gp_RX1_119 C hσ27 dX1_start_125 ?_
  cases hf
  exact hq _ _ dX1_start_128

set_option maxRecDepth 100000 in
set_option maxHeartbeats 4000000 in
theorem wfX1_start (C : zC p s m args meth c cX1_start RX1 2 D Ca B En) (hRm : zRm R 4 129 cells slots) (ev : zEv) (hZ : ∀ U : State, En U → zEnv ev B U) (σ : zS) (x0 : Nat) (x1 : Nat) (τ : zS) (hf : fX1_start σ x0 x1 = some τ) (hq : ∀ (pc : Nat) (lv : List (Nat × Value)), decode cX1_start pc = .ok (.return_, 1) → zW p l e R s m args below meth c cells slots Q D Ca B 2 τ N pc lv []) : zW p l e R s m args below meth c cells slots Q D Ca B 2 σ N 0 [(0, .ref x0), (1, .ref x1)] [] := by
  unfold fX1_start at hf
  refine z_aload_n C dX1_start_0 rfl 0 rfl ?_
  refine z_aload_n C dX1_start_1 rfl 1 rfl ?_
  obtain ⟨σ1, hσ1, hf⟩ := zbind hf
  refine gp_RX1_54 C hσ1 dX1_start_2 ?_
  refine z_aload_n C dX1_start_5 rfl 0 rfl ?_
  refine z_aload_n C dX1_start_6 rfl 0 rfl ?_
  obtain ⟨v2, hv2, hf⟩ := zbind hf
  refine gf_RX1_54 C hv2 dX1_start_7 ?_
  refine z_gsW C ev hZ 4 (by decide) rfl kw_286 dX1_start_10 ?_
  obtain ⟨c3, hc3, hf⟩ := zbind hf
  obtain ⟨kc3, hc3⟩ := zck_ok hc3
  refine z_callVi (As := [.ref (ev.1 4)]) (F0 := 4) (L0 := 129) C (mX7_chosen l D Ca B En C.2.2.2.2.2.2.2.1 ev hZ σ1 N v2 4 _ hc3) hRm kc3 rfl kw_175 kw_5 kw_288 kw_173 kw_174 hyX7_chosen (Nat.le_of_ble_eq_true rfl) (Nat.le_of_ble_eq_true rfl) rfl rfl (Nat.le_of_ble_eq_true rfl) dX1_start_13 ?_
  obtain ⟨σ4, hσ4, hf⟩ := zbind hf
  refine gp_RX1_70 C hσ4 dX1_start_16 ?_
  refine z_aload_n C dX1_start_19 rfl 0 rfl ?_
  refine z_aload_n C dX1_start_20 rfl 0 rfl ?_
  obtain ⟨v5, hv5, hf⟩ := zbind hf
  refine gf_RX1_54 C hv5 dX1_start_21 ?_
  refine z_gsW C ev hZ 6 (by decide) rfl kw_289 dX1_start_24 ?_
  obtain ⟨c6, hc6, hf⟩ := zbind hf
  obtain ⟨kc6, hc6⟩ := zck_ok hc6
  refine z_callVi (As := [.ref (ev.1 6)]) (F0 := 4) (L0 := 129) C (mX7_chosen l D Ca B En C.2.2.2.2.2.2.2.1 ev hZ σ4 N v5 6 _ hc6) hRm kc6 rfl kw_175 kw_5 kw_288 kw_173 kw_174 hyX7_chosen (Nat.le_of_ble_eq_true rfl) (Nat.le_of_ble_eq_true rfl) rfl rfl (Nat.le_of_ble_eq_true rfl) dX1_start_27 ?_
  obtain ⟨σ7, hσ7, hf⟩ := zbind hf
  refine gp_RX1_77 C hσ7 dX1_start_30 ?_
  refine z_aload_n C dX1_start_33 rfl 0 rfl ?_
  refine z_aload_n C dX1_start_34 rfl 0 rfl ?_
  obtain ⟨v8, hv8, hf⟩ := zbind hf
  refine gf_RX1_54 C hv8 dX1_start_35 ?_
  refine z_gsW C ev hZ 7 (by decide) rfl kw_291 dX1_start_38 ?_
  obtain ⟨c9, hc9, hf⟩ := zbind hf
  obtain ⟨kc9, hc9⟩ := zck_ok hc9
  refine z_callVi (As := [.ref (ev.1 7)]) (F0 := 4) (L0 := 129) C (mX7_chosen l D Ca B En C.2.2.2.2.2.2.2.1 ev hZ σ7 N v8 7 _ hc9) hRm kc9 rfl kw_175 kw_5 kw_288 kw_173 kw_174 hyX7_chosen (Nat.le_of_ble_eq_true rfl) (Nat.le_of_ble_eq_true rfl) rfl rfl (Nat.le_of_ble_eq_true rfl) dX1_start_41 ?_
  obtain ⟨σ10, hσ10, hf⟩ := zbind hf
  refine gp_RX1_83 C hσ10 dX1_start_44 ?_
  refine z_aload_n C dX1_start_47 rfl 0 rfl ?_
  refine z_aload_n C dX1_start_48 rfl 0 rfl ?_
  obtain ⟨v11, hv11, hf⟩ := zbind hf
  refine gf_RX1_54 C hv11 dX1_start_49 ?_
  refine z_gsW C ev hZ 8 (by decide) rfl kw_293 dX1_start_52 ?_
  obtain ⟨c12, hc12, hf⟩ := zbind hf
  obtain ⟨kc12, hc12⟩ := zck_ok hc12
  refine z_callVi (As := [.ref (ev.1 8)]) (F0 := 4) (L0 := 129) C (mX7_chosen l D Ca B En C.2.2.2.2.2.2.2.1 ev hZ σ10 N v11 8 _ hc12) hRm kc12 rfl kw_175 kw_5 kw_288 kw_173 kw_174 hyX7_chosen (Nat.le_of_ble_eq_true rfl) (Nat.le_of_ble_eq_true rfl) rfl rfl (Nat.le_of_ble_eq_true rfl) dX1_start_55 ?_
  refine z_iconst C (zi 1) dX1_start_58 (by decide) ?_
  refine z_icmp_ne C 66 dX1_start_59 (by decide) (fun q28 => ?_) (fun q28 => ?_)
  · rw [if_neg q28] at hf
    refine z_iconst C (zi 0) dX1_start_66 (by decide) ?_
    refine z_sub [0] rfl ?_
    exact wjX1_start_67 C hRm ev hZ _ _ _ _ _ hf hq
  · rw [if_pos q28] at hf
    refine z_iconst C (zi 1) dX1_start_62 (by decide) ?_
    refine z_goto C 67 dX1_start_63 (by decide) ?_
    refine z_sub [0] rfl ?_
    exact wjX1_start_67 C hRm ev hZ _ _ _ _ _ hf hq

theorem mX1_start (l : Launch) (D : va_G) (Ca : Nat → ClassId) (B : Nat) (En : State → Prop) (hE : zEk B En) (ev : zEv) (hZ : ∀ U : State, En U → zEnv ev B U) (σ : zS) (N : Nat) (x0 : Nat) (x1 : Nat) (X : zS) (hf : fX1_start σ x0 x1 = some X) : zMv l D Ca B En yX1_start cX1_start 2 (Option.none : Option Jvm.ClassFile.FieldType) 4 129 [.ref x0, .ref x1] σ N X () :=
  zMet_v (own := RX1) hE (by decide +kernel) rfl (Nat.le_of_ble_eq_true rfl) (fun p e s m args below meth c C hr hRm => wfX1_start C hRm ev hZ σ x0 x1 X hf (fun pc lv hd => zfin_v (r := ()) C hr hd))
theorem dX1_copyFrom_0 : decode cX1_copyFrom 0 = .ok (.aload_n 0, 1) := by decide +kernel
theorem dX1_copyFrom_1 : decode cX1_copyFrom 1 = .ok (.aload_n 1, 1) := by decide +kernel
theorem dX1_copyFrom_2 : decode cX1_copyFrom 2 = .ok (.getfield 54, 3) := by decide +kernel
theorem dX1_copyFrom_5 : decode cX1_copyFrom 5 = .ok (.putfield 54, 3) := by decide +kernel
theorem dX1_copyFrom_8 : decode cX1_copyFrom 8 = .ok (.aload_n 0, 1) := by decide +kernel
theorem dX1_copyFrom_9 : decode cX1_copyFrom 9 = .ok (.aload_n 1, 1) := by decide +kernel
theorem dX1_copyFrom_10 : decode cX1_copyFrom 10 = .ok (.getfield 70, 3) := by decide +kernel
theorem dX1_copyFrom_13 : decode cX1_copyFrom 13 = .ok (.putfield 70, 3) := by decide +kernel
theorem dX1_copyFrom_16 : decode cX1_copyFrom 16 = .ok (.aload_n 0, 1) := by decide +kernel
theorem dX1_copyFrom_17 : decode cX1_copyFrom 17 = .ok (.aload_n 1, 1) := by decide +kernel
theorem dX1_copyFrom_18 : decode cX1_copyFrom 18 = .ok (.getfield 77, 3) := by decide +kernel
theorem dX1_copyFrom_21 : decode cX1_copyFrom 21 = .ok (.putfield 77, 3) := by decide +kernel
theorem dX1_copyFrom_24 : decode cX1_copyFrom 24 = .ok (.aload_n 0, 1) := by decide +kernel
theorem dX1_copyFrom_25 : decode cX1_copyFrom 25 = .ok (.aload_n 1, 1) := by decide +kernel
theorem dX1_copyFrom_26 : decode cX1_copyFrom 26 = .ok (.getfield 83, 3) := by decide +kernel
theorem dX1_copyFrom_29 : decode cX1_copyFrom 29 = .ok (.putfield 83, 3) := by decide +kernel
theorem dX1_copyFrom_32 : decode cX1_copyFrom 32 = .ok (.aload_n 0, 1) := by decide +kernel
theorem dX1_copyFrom_33 : decode cX1_copyFrom 33 = .ok (.aload_n 1, 1) := by decide +kernel
theorem dX1_copyFrom_34 : decode cX1_copyFrom 34 = .ok (.getfield 89, 3) := by decide +kernel
theorem dX1_copyFrom_37 : decode cX1_copyFrom 37 = .ok (.putfield 89, 3) := by decide +kernel
theorem dX1_copyFrom_40 : decode cX1_copyFrom 40 = .ok (.aload_n 0, 1) := by decide +kernel
theorem dX1_copyFrom_41 : decode cX1_copyFrom 41 = .ok (.aload_n 1, 1) := by decide +kernel
theorem dX1_copyFrom_42 : decode cX1_copyFrom 42 = .ok (.getfield 93, 3) := by decide +kernel
theorem dX1_copyFrom_45 : decode cX1_copyFrom 45 = .ok (.putfield 93, 3) := by decide +kernel
theorem dX1_copyFrom_48 : decode cX1_copyFrom 48 = .ok (.aload_n 0, 1) := by decide +kernel
theorem dX1_copyFrom_49 : decode cX1_copyFrom 49 = .ok (.aload_n 1, 1) := by decide +kernel
theorem dX1_copyFrom_50 : decode cX1_copyFrom 50 = .ok (.getfield 96, 3) := by decide +kernel
theorem dX1_copyFrom_53 : decode cX1_copyFrom 53 = .ok (.putfield 96, 3) := by decide +kernel
theorem dX1_copyFrom_56 : decode cX1_copyFrom 56 = .ok (.aload_n 0, 1) := by decide +kernel
theorem dX1_copyFrom_57 : decode cX1_copyFrom 57 = .ok (.aload_n 1, 1) := by decide +kernel
theorem dX1_copyFrom_58 : decode cX1_copyFrom 58 = .ok (.getfield 99, 3) := by decide +kernel
theorem dX1_copyFrom_61 : decode cX1_copyFrom 61 = .ok (.putfield 99, 3) := by decide +kernel
theorem dX1_copyFrom_64 : decode cX1_copyFrom 64 = .ok (.aload_n 0, 1) := by decide +kernel
theorem dX1_copyFrom_65 : decode cX1_copyFrom 65 = .ok (.aload_n 1, 1) := by decide +kernel
theorem dX1_copyFrom_66 : decode cX1_copyFrom 66 = .ok (.getfield 119, 3) := by decide +kernel
theorem dX1_copyFrom_69 : decode cX1_copyFrom 69 = .ok (.putfield 119, 3) := by decide +kernel
theorem dX1_copyFrom_72 : decode cX1_copyFrom 72 = .ok (.aload_n 0, 1) := by decide +kernel
theorem dX1_copyFrom_73 : decode cX1_copyFrom 73 = .ok (.aload_n 1, 1) := by decide +kernel
theorem dX1_copyFrom_74 : decode cX1_copyFrom 74 = .ok (.getfield 102, 3) := by decide +kernel
theorem dX1_copyFrom_77 : decode cX1_copyFrom 77 = .ok (.putfield 102, 3) := by decide +kernel
theorem dX1_copyFrom_80 : decode cX1_copyFrom 80 = .ok (.aload_n 1, 1) := by decide +kernel
theorem dX1_copyFrom_81 : decode cX1_copyFrom 81 = .ok (.getfield 9, 3) := by decide +kernel
theorem dX1_copyFrom_84 : decode cX1_copyFrom 84 = .ok (.aload_n 0, 1) := by decide +kernel
theorem dX1_copyFrom_85 : decode cX1_copyFrom 85 = .ok (.getfield 9, 3) := by decide +kernel
theorem dX1_copyFrom_88 : decode cX1_copyFrom 88 = .ok (.invokestatic 106, 3) := by decide +kernel
theorem dX1_copyFrom_91 : decode cX1_copyFrom 91 = .ok (.aload_n 1, 1) := by decide +kernel
theorem dX1_copyFrom_92 : decode cX1_copyFrom 92 = .ok (.getfield 15, 3) := by decide +kernel
theorem dX1_copyFrom_95 : decode cX1_copyFrom 95 = .ok (.aload_n 0, 1) := by decide +kernel
theorem dX1_copyFrom_96 : decode cX1_copyFrom 96 = .ok (.getfield 15, 3) := by decide +kernel
theorem dX1_copyFrom_99 : decode cX1_copyFrom 99 = .ok (.invokestatic 106, 3) := by decide +kernel
theorem dX1_copyFrom_102 : decode cX1_copyFrom 102 = .ok (.aload_n 1, 1) := by decide +kernel
theorem dX1_copyFrom_103 : decode cX1_copyFrom 103 = .ok (.getfield 18, 3) := by decide +kernel
theorem dX1_copyFrom_106 : decode cX1_copyFrom 106 = .ok (.aload_n 0, 1) := by decide +kernel
theorem dX1_copyFrom_107 : decode cX1_copyFrom 107 = .ok (.getfield 18, 3) := by decide +kernel
theorem dX1_copyFrom_110 : decode cX1_copyFrom 110 = .ok (.invokestatic 106, 3) := by decide +kernel
theorem dX1_copyFrom_113 : decode cX1_copyFrom 113 = .ok (.aload_n 1, 1) := by decide +kernel
theorem dX1_copyFrom_114 : decode cX1_copyFrom 114 = .ok (.getfield 21, 3) := by decide +kernel
theorem dX1_copyFrom_117 : decode cX1_copyFrom 117 = .ok (.aload_n 0, 1) := by decide +kernel
theorem dX1_copyFrom_118 : decode cX1_copyFrom 118 = .ok (.getfield 21, 3) := by decide +kernel
theorem dX1_copyFrom_121 : decode cX1_copyFrom 121 = .ok (.invokestatic 106, 3) := by decide +kernel
theorem dX1_copyFrom_124 : decode cX1_copyFrom 124 = .ok (.aload_n 1, 1) := by decide +kernel
theorem dX1_copyFrom_125 : decode cX1_copyFrom 125 = .ok (.getfield 24, 3) := by decide +kernel
theorem dX1_copyFrom_128 : decode cX1_copyFrom 128 = .ok (.aload_n 0, 1) := by decide +kernel
theorem dX1_copyFrom_129 : decode cX1_copyFrom 129 = .ok (.getfield 24, 3) := by decide +kernel
theorem dX1_copyFrom_132 : decode cX1_copyFrom 132 = .ok (.invokestatic 106, 3) := by decide +kernel
theorem dX1_copyFrom_135 : decode cX1_copyFrom 135 = .ok (.aload_n 1, 1) := by decide +kernel
theorem dX1_copyFrom_136 : decode cX1_copyFrom 136 = .ok (.getfield 44, 3) := by decide +kernel
theorem dX1_copyFrom_139 : decode cX1_copyFrom 139 = .ok (.aload_n 0, 1) := by decide +kernel
theorem dX1_copyFrom_140 : decode cX1_copyFrom 140 = .ok (.getfield 44, 3) := by decide +kernel
theorem dX1_copyFrom_143 : decode cX1_copyFrom 143 = .ok (.invokestatic 106, 3) := by decide +kernel
theorem dX1_copyFrom_146 : decode cX1_copyFrom 146 = .ok (.aload_n 1, 1) := by decide +kernel
theorem dX1_copyFrom_147 : decode cX1_copyFrom 147 = .ok (.getfield 47, 3) := by decide +kernel
theorem dX1_copyFrom_150 : decode cX1_copyFrom 150 = .ok (.aload_n 0, 1) := by decide +kernel
theorem dX1_copyFrom_151 : decode cX1_copyFrom 151 = .ok (.getfield 47, 3) := by decide +kernel
theorem dX1_copyFrom_154 : decode cX1_copyFrom 154 = .ok (.invokestatic 106, 3) := by decide +kernel
theorem dX1_copyFrom_157 : decode cX1_copyFrom 157 = .ok (.aload_n 0, 1) := by decide +kernel
theorem dX1_copyFrom_158 : decode cX1_copyFrom 158 = .ok (.getfield 30, 3) := by decide +kernel
theorem dX1_copyFrom_161 : decode cX1_copyFrom 161 = .ok (.aload_n 1, 1) := by decide +kernel
theorem dX1_copyFrom_162 : decode cX1_copyFrom 162 = .ok (.getfield 30, 3) := by decide +kernel
theorem dX1_copyFrom_165 : decode cX1_copyFrom 165 = .ok (.invokevirtual 122, 3) := by decide +kernel
theorem dX1_copyFrom_168 : decode cX1_copyFrom 168 = .ok (.aload_n 0, 1) := by decide +kernel
theorem dX1_copyFrom_169 : decode cX1_copyFrom 169 = .ok (.getfield 37, 3) := by decide +kernel
theorem dX1_copyFrom_172 : decode cX1_copyFrom 172 = .ok (.aload_n 1, 1) := by decide +kernel
theorem dX1_copyFrom_173 : decode cX1_copyFrom 173 = .ok (.getfield 37, 3) := by decide +kernel
theorem dX1_copyFrom_176 : decode cX1_copyFrom 176 = .ok (.invokevirtual 126, 3) := by decide +kernel
theorem dX1_copyFrom_179 : decode cX1_copyFrom 179 = .ok (.aload_n 0, 1) := by decide +kernel
theorem dX1_copyFrom_180 : decode cX1_copyFrom 180 = .ok (.getfield 41, 3) := by decide +kernel
theorem dX1_copyFrom_183 : decode cX1_copyFrom 183 = .ok (.aload_n 1, 1) := by decide +kernel
theorem dX1_copyFrom_184 : decode cX1_copyFrom 184 = .ok (.getfield 41, 3) := by decide +kernel
theorem dX1_copyFrom_187 : decode cX1_copyFrom 187 = .ok (.invokevirtual 126, 3) := by decide +kernel
theorem dX1_copyFrom_190 : decode cX1_copyFrom 190 = .ok (.return_, 1) := by decide +kernel
theorem hyX1_copyFrom : yX1_copyFrom.cls ≠ "java/lang/invoke/MethodHandle" ∧ yX1_copyFrom.cls ≠ "java/lang/invoke/VarHandle" ∧ (parseMethodDescriptor yX1_copyFrom.desc).map (fun d => d.parameters.length) = some 1 := ⟨by decide +kernel, by decide +kernel, by decide +kernel⟩
set_option maxRecDepth 100000 in
set_option maxHeartbeats 4000000 in
theorem wfX1_copyFrom (C : zC p s m args meth c cX1_copyFrom RX1 2 D Ca B En) (hRm : zRm R 4 127 cells slots) (σ : zS) (x0 : Nat) (x1 : Nat) (τ : zS) (hf : fX1_copyFrom σ x0 x1 = some τ) (hq : ∀ (pc : Nat) (lv : List (Nat × Value)), decode cX1_copyFrom pc = .ok (.return_, 1) → zW p l e R s m args below meth c cells slots Q D Ca B 2 τ N pc lv []) : zW p l e R s m args below meth c cells slots Q D Ca B 2 σ N 0 [(0, .ref x0), (1, .ref x1)] [] := by
  unfold fX1_copyFrom at hf
  refine z_aload_n C dX1_copyFrom_0 rfl 0 rfl ?_
  refine z_aload_n C dX1_copyFrom_1 rfl 1 rfl ?_
  obtain ⟨v1, hv1, hf⟩ := zbind hf
  refine gf_RX1_54 C hv1 dX1_copyFrom_2 ?_
  obtain ⟨σ2, hσ2, hf⟩ := zbind hf
  refine gp_RX1_54 C hσ2 dX1_copyFrom_5 ?_
  refine z_aload_n C dX1_copyFrom_8 rfl 0 rfl ?_
  refine z_aload_n C dX1_copyFrom_9 rfl 1 rfl ?_
  obtain ⟨v3, hv3, hf⟩ := zbind hf
  refine gf_RX1_70 C hv3 dX1_copyFrom_10 ?_
  obtain ⟨σ4, hσ4, hf⟩ := zbind hf
  refine gp_RX1_70 C hσ4 dX1_copyFrom_13 ?_
  refine z_aload_n C dX1_copyFrom_16 rfl 0 rfl ?_
  refine z_aload_n C dX1_copyFrom_17 rfl 1 rfl ?_
  obtain ⟨v5, hv5, hf⟩ := zbind hf
  refine gf_RX1_77 C hv5 dX1_copyFrom_18 ?_
  obtain ⟨σ6, hσ6, hf⟩ := zbind hf
  refine gp_RX1_77 C hσ6 dX1_copyFrom_21 ?_
  refine z_aload_n C dX1_copyFrom_24 rfl 0 rfl ?_
  refine z_aload_n C dX1_copyFrom_25 rfl 1 rfl ?_
  obtain ⟨v7, hv7, hf⟩ := zbind hf
  refine gf_RX1_83 C hv7 dX1_copyFrom_26 ?_
  obtain ⟨σ8, hσ8, hf⟩ := zbind hf
  refine gp_RX1_83 C hσ8 dX1_copyFrom_29 ?_
  refine z_aload_n C dX1_copyFrom_32 rfl 0 rfl ?_
  refine z_aload_n C dX1_copyFrom_33 rfl 1 rfl ?_
  obtain ⟨v9, hv9, hf⟩ := zbind hf
  refine gf_RX1_89 C hv9 dX1_copyFrom_34 ?_
  obtain ⟨σ10, hσ10, hf⟩ := zbind hf
  refine gp_RX1_89 C hσ10 dX1_copyFrom_37 ?_
  refine z_aload_n C dX1_copyFrom_40 rfl 0 rfl ?_
  refine z_aload_n C dX1_copyFrom_41 rfl 1 rfl ?_
  obtain ⟨v11, hv11, hf⟩ := zbind hf
  refine gf_RX1_93 C hv11 dX1_copyFrom_42 ?_
  obtain ⟨σ12, hσ12, hf⟩ := zbind hf
  refine gp_RX1_93 C hσ12 dX1_copyFrom_45 ?_
  refine z_aload_n C dX1_copyFrom_48 rfl 0 rfl ?_
  refine z_aload_n C dX1_copyFrom_49 rfl 1 rfl ?_
  obtain ⟨v13, hv13, hf⟩ := zbind hf
  refine gf_RX1_96 C hv13 dX1_copyFrom_50 ?_
  obtain ⟨σ14, hσ14, hf⟩ := zbind hf
  refine gp_RX1_96 C hσ14 dX1_copyFrom_53 ?_
  refine z_aload_n C dX1_copyFrom_56 rfl 0 rfl ?_
  refine z_aload_n C dX1_copyFrom_57 rfl 1 rfl ?_
  obtain ⟨v15, hv15, hf⟩ := zbind hf
  refine gf_RX1_99 C hv15 dX1_copyFrom_58 ?_
  obtain ⟨σ16, hσ16, hf⟩ := zbind hf
  refine gp_RX1_99 C hσ16 dX1_copyFrom_61 ?_
  refine z_aload_n C dX1_copyFrom_64 rfl 0 rfl ?_
  refine z_aload_n C dX1_copyFrom_65 rfl 1 rfl ?_
  obtain ⟨v17, hv17, hf⟩ := zbind hf
  refine gf_RX1_119 C hv17 dX1_copyFrom_66 ?_
  obtain ⟨σ18, hσ18, hf⟩ := zbind hf
  refine gp_RX1_119 C hσ18 dX1_copyFrom_69 ?_
  refine z_aload_n C dX1_copyFrom_72 rfl 0 rfl ?_
  refine z_aload_n C dX1_copyFrom_73 rfl 1 rfl ?_
  obtain ⟨v19, hv19, hf⟩ := zbind hf
  refine gf_RX1_102 C hv19 dX1_copyFrom_74 ?_
  obtain ⟨σ20, hσ20, hf⟩ := zbind hf
  refine gp_RX1_102 C hσ20 dX1_copyFrom_77 ?_
  refine z_aload_n C dX1_copyFrom_80 rfl 1 rfl ?_
  obtain ⟨v21, hv21, hf⟩ := zbind hf
  refine gf_RX1_9 C hv21 dX1_copyFrom_81 ?_
  refine z_aload_n C dX1_copyFrom_84 rfl 0 rfl ?_
  obtain ⟨v22, hv22, hf⟩ := zbind hf
  refine gf_RX1_9 C hv22 dX1_copyFrom_85 ?_
  obtain ⟨c23, hc23, hf⟩ := zbind hf
  refine z_callSNv (host := "BarrierFlow") (As := [.ref v21, .ref v22]) (F0 := 4) (L0 := 127) C (mX9_copyRow l D Ca B En C.2.2.2.2.2.2.2.1 σ20 N v21 v22 _ hc23) hRm kw_297 kw_1 (by decide) kw_296 hyX9_copyRow (Nat.le_of_ble_eq_true rfl) (Nat.le_of_ble_eq_true rfl) rfl rfl (Nat.le_of_ble_eq_true rfl) dX1_copyFrom_88 ?_
  refine z_aload_n C dX1_copyFrom_91 rfl 1 rfl ?_
  obtain ⟨v24, hv24, hf⟩ := zbind hf
  refine gf_RX1_15 C hv24 dX1_copyFrom_92 ?_
  refine z_aload_n C dX1_copyFrom_95 rfl 0 rfl ?_
  obtain ⟨v25, hv25, hf⟩ := zbind hf
  refine gf_RX1_15 C hv25 dX1_copyFrom_96 ?_
  obtain ⟨c26, hc26, hf⟩ := zbind hf
  refine z_callSNv (host := "BarrierFlow") (As := [.ref v24, .ref v25]) (F0 := 4) (L0 := 127) C (mX9_copyRow l D Ca B En C.2.2.2.2.2.2.2.1 c23 N v24 v25 _ hc26) hRm kw_297 kw_1 (by decide) kw_296 hyX9_copyRow (Nat.le_of_ble_eq_true rfl) (Nat.le_of_ble_eq_true rfl) rfl rfl (Nat.le_of_ble_eq_true rfl) dX1_copyFrom_99 ?_
  refine z_aload_n C dX1_copyFrom_102 rfl 1 rfl ?_
  obtain ⟨v27, hv27, hf⟩ := zbind hf
  refine gf_RX1_18 C hv27 dX1_copyFrom_103 ?_
  refine z_aload_n C dX1_copyFrom_106 rfl 0 rfl ?_
  obtain ⟨v28, hv28, hf⟩ := zbind hf
  refine gf_RX1_18 C hv28 dX1_copyFrom_107 ?_
  obtain ⟨c29, hc29, hf⟩ := zbind hf
  refine z_callSNv (host := "BarrierFlow") (As := [.ref v27, .ref v28]) (F0 := 4) (L0 := 127) C (mX9_copyRow l D Ca B En C.2.2.2.2.2.2.2.1 c26 N v27 v28 _ hc29) hRm kw_297 kw_1 (by decide) kw_296 hyX9_copyRow (Nat.le_of_ble_eq_true rfl) (Nat.le_of_ble_eq_true rfl) rfl rfl (Nat.le_of_ble_eq_true rfl) dX1_copyFrom_110 ?_
  refine z_aload_n C dX1_copyFrom_113 rfl 1 rfl ?_
  obtain ⟨v30, hv30, hf⟩ := zbind hf
  refine gf_RX1_21 C hv30 dX1_copyFrom_114 ?_
  refine z_aload_n C dX1_copyFrom_117 rfl 0 rfl ?_
  obtain ⟨v31, hv31, hf⟩ := zbind hf
  refine gf_RX1_21 C hv31 dX1_copyFrom_118 ?_
  obtain ⟨c32, hc32, hf⟩ := zbind hf
  refine z_callSNv (host := "BarrierFlow") (As := [.ref v30, .ref v31]) (F0 := 4) (L0 := 127) C (mX9_copyRow l D Ca B En C.2.2.2.2.2.2.2.1 c29 N v30 v31 _ hc32) hRm kw_297 kw_1 (by decide) kw_296 hyX9_copyRow (Nat.le_of_ble_eq_true rfl) (Nat.le_of_ble_eq_true rfl) rfl rfl (Nat.le_of_ble_eq_true rfl) dX1_copyFrom_121 ?_
  refine z_aload_n C dX1_copyFrom_124 rfl 1 rfl ?_
  obtain ⟨v33, hv33, hf⟩ := zbind hf
  refine gf_RX1_24 C hv33 dX1_copyFrom_125 ?_
  refine z_aload_n C dX1_copyFrom_128 rfl 0 rfl ?_
  obtain ⟨v34, hv34, hf⟩ := zbind hf
  refine gf_RX1_24 C hv34 dX1_copyFrom_129 ?_
  obtain ⟨c35, hc35, hf⟩ := zbind hf
  refine z_callSNv (host := "BarrierFlow") (As := [.ref v33, .ref v34]) (F0 := 4) (L0 := 127) C (mX9_copyRow l D Ca B En C.2.2.2.2.2.2.2.1 c32 N v33 v34 _ hc35) hRm kw_297 kw_1 (by decide) kw_296 hyX9_copyRow (Nat.le_of_ble_eq_true rfl) (Nat.le_of_ble_eq_true rfl) rfl rfl (Nat.le_of_ble_eq_true rfl) dX1_copyFrom_132 ?_
  refine z_aload_n C dX1_copyFrom_135 rfl 1 rfl ?_
  obtain ⟨v36, hv36, hf⟩ := zbind hf
  refine gf_RX1_44 C hv36 dX1_copyFrom_136 ?_
  refine z_aload_n C dX1_copyFrom_139 rfl 0 rfl ?_
  obtain ⟨v37, hv37, hf⟩ := zbind hf
  refine gf_RX1_44 C hv37 dX1_copyFrom_140 ?_
  obtain ⟨c38, hc38, hf⟩ := zbind hf
  refine z_callSNv (host := "BarrierFlow") (As := [.ref v36, .ref v37]) (F0 := 4) (L0 := 127) C (mX9_copyRow l D Ca B En C.2.2.2.2.2.2.2.1 c35 N v36 v37 _ hc38) hRm kw_297 kw_1 (by decide) kw_296 hyX9_copyRow (Nat.le_of_ble_eq_true rfl) (Nat.le_of_ble_eq_true rfl) rfl rfl (Nat.le_of_ble_eq_true rfl) dX1_copyFrom_143 ?_
  refine z_aload_n C dX1_copyFrom_146 rfl 1 rfl ?_
  obtain ⟨v39, hv39, hf⟩ := zbind hf
  refine gf_RX1_47 C hv39 dX1_copyFrom_147 ?_
  refine z_aload_n C dX1_copyFrom_150 rfl 0 rfl ?_
  obtain ⟨v40, hv40, hf⟩ := zbind hf
  refine gf_RX1_47 C hv40 dX1_copyFrom_151 ?_
  obtain ⟨c41, hc41, hf⟩ := zbind hf
  refine z_callSNv (host := "BarrierFlow") (As := [.ref v39, .ref v40]) (F0 := 4) (L0 := 127) C (mX9_copyRow l D Ca B En C.2.2.2.2.2.2.2.1 c38 N v39 v40 _ hc41) hRm kw_297 kw_1 (by decide) kw_296 hyX9_copyRow (Nat.le_of_ble_eq_true rfl) (Nat.le_of_ble_eq_true rfl) rfl rfl (Nat.le_of_ble_eq_true rfl) dX1_copyFrom_154 ?_
  refine z_aload_n C dX1_copyFrom_157 rfl 0 rfl ?_
  obtain ⟨v42, hv42, hf⟩ := zbind hf
  refine gf_RX1_30 C hv42 dX1_copyFrom_158 ?_
  refine z_aload_n C dX1_copyFrom_161 rfl 1 rfl ?_
  obtain ⟨v43, hv43, hf⟩ := zbind hf
  refine gf_RX1_30 C hv43 dX1_copyFrom_162 ?_
  obtain ⟨c44, hc44, hf⟩ := zbind hf
  obtain ⟨kc44, hc44⟩ := zck_ok hc44
  refine z_callVv (As := [.ref v43]) (F0 := 4) (L0 := 127) C (mX3_copyFrom l D Ca B En C.2.2.2.2.2.2.2.1 c41 N v42 v43 _ hc44) hRm kc44 rfl kw_597 kw_9 kw_594 kw_595 kw_596 hyX3_copyFrom (Nat.le_of_ble_eq_true rfl) (Nat.le_of_ble_eq_true rfl) rfl rfl (Nat.le_of_ble_eq_true rfl) dX1_copyFrom_165 ?_
  refine z_aload_n C dX1_copyFrom_168 rfl 0 rfl ?_
  obtain ⟨v45, hv45, hf⟩ := zbind hf
  refine gf_RX1_37 C hv45 dX1_copyFrom_169 ?_
  refine z_aload_n C dX1_copyFrom_172 rfl 1 rfl ?_
  obtain ⟨v46, hv46, hf⟩ := zbind hf
  refine gf_RX1_37 C hv46 dX1_copyFrom_173 ?_
  obtain ⟨c47, hc47, hf⟩ := zbind hf
  obtain ⟨kc47, hc47⟩ := zck_ok hc47
  refine z_callVv (As := [.ref v46]) (F0 := 4) (L0 := 127) C (mX0_copyFrom l D Ca B En C.2.2.2.2.2.2.2.1 c44 N v45 v46 _ hc47) hRm kc47 rfl kw_602 kw_10 kw_599 kw_600 kw_601 hyX0_copyFrom (Nat.le_of_ble_eq_true rfl) (Nat.le_of_ble_eq_true rfl) rfl rfl (Nat.le_of_ble_eq_true rfl) dX1_copyFrom_176 ?_
  refine z_aload_n C dX1_copyFrom_179 rfl 0 rfl ?_
  obtain ⟨v48, hv48, hf⟩ := zbind hf
  refine gf_RX1_41 C hv48 dX1_copyFrom_180 ?_
  refine z_aload_n C dX1_copyFrom_183 rfl 1 rfl ?_
  obtain ⟨v49, hv49, hf⟩ := zbind hf
  refine gf_RX1_41 C hv49 dX1_copyFrom_184 ?_
  obtain ⟨c50, hc50, hf⟩ := zbind hf
  obtain ⟨kc50, hc50⟩ := zck_ok hc50
  refine z_callVv (As := [.ref v49]) (F0 := 4) (L0 := 127) C (mX0_copyFrom l D Ca B En C.2.2.2.2.2.2.2.1 c47 N v48 v49 _ hc50) hRm kc50 rfl kw_602 kw_10 kw_599 kw_600 kw_601 hyX0_copyFrom (Nat.le_of_ble_eq_true rfl) (Nat.le_of_ble_eq_true rfl) rfl rfl (Nat.le_of_ble_eq_true rfl) dX1_copyFrom_187 ?_
  cases hf
  exact hq _ _ dX1_copyFrom_190

theorem mX1_copyFrom (l : Launch) (D : va_G) (Ca : Nat → ClassId) (B : Nat) (En : State → Prop) (hE : zEk B En) (σ : zS) (N : Nat) (x0 : Nat) (x1 : Nat) (X : zS) (hf : fX1_copyFrom σ x0 x1 = some X) : zMv l D Ca B En yX1_copyFrom cX1_copyFrom 2 (Option.none : Option Jvm.ClassFile.FieldType) 4 127 [.ref x0, .ref x1] σ N X () :=
  zMet_v (own := RX1) hE (by decide +kernel) rfl (Nat.le_of_ble_eq_true rfl) (fun p e s m args below meth c C hr hRm => wfX1_copyFrom C hRm σ x0 x1 X hf (fun pc lv hd => zfin_v (r := ()) C hr hd))
theorem dX1_startCheckpoint_0 : decode cX1_startCheckpoint 0 = .ok (.aload_n 0, 1) := by decide +kernel
theorem dX1_startCheckpoint_1 : decode cX1_startCheckpoint 1 = .ok (.dup, 1) := by decide +kernel
theorem dX1_startCheckpoint_2 : decode cX1_startCheckpoint 2 = .ok (.getfield 96, 3) := by decide +kernel
theorem dX1_startCheckpoint_5 : decode cX1_startCheckpoint 5 = .ok (.iconst 1, 1) := by decide +kernel
theorem dX1_startCheckpoint_6 : decode cX1_startCheckpoint 6 = .ok (.iadd, 1) := by decide +kernel
theorem dX1_startCheckpoint_7 : decode cX1_startCheckpoint 7 = .ok (.putfield 96, 3) := by decide +kernel
theorem dX1_startCheckpoint_10 : decode cX1_startCheckpoint 10 = .ok (.aload_n 0, 1) := by decide +kernel
theorem dX1_startCheckpoint_11 : decode cX1_startCheckpoint 11 = .ok (.getfield 37, 3) := by decide +kernel
theorem dX1_startCheckpoint_14 : decode cX1_startCheckpoint 14 = .ok (.aload_n 0, 1) := by decide +kernel
theorem dX1_startCheckpoint_15 : decode cX1_startCheckpoint 15 = .ok (.getfield 96, 3) := by decide +kernel
theorem dX1_startCheckpoint_18 : decode cX1_startCheckpoint 18 = .ok (.aload_n 0, 1) := by decide +kernel
theorem dX1_startCheckpoint_19 : decode cX1_startCheckpoint 19 = .ok (.getfield 93, 3) := by decide +kernel
theorem dX1_startCheckpoint_22 : decode cX1_startCheckpoint 22 = .ok (.iload_n 1, 1) := by decide +kernel
theorem dX1_startCheckpoint_23 : decode cX1_startCheckpoint 23 = .ok (.invokevirtual 170, 3) := by decide +kernel
theorem dX1_startCheckpoint_26 : decode cX1_startCheckpoint 26 = .ok (.return_, 1) := by decide +kernel
theorem hyX1_startCheckpoint : yX1_startCheckpoint.cls ≠ "java/lang/invoke/MethodHandle" ∧ yX1_startCheckpoint.cls ≠ "java/lang/invoke/VarHandle" ∧ (parseMethodDescriptor yX1_startCheckpoint.desc).map (fun d => d.parameters.length) = some 1 := ⟨by decide +kernel, by decide +kernel, by decide +kernel⟩
set_option maxRecDepth 100000 in
set_option maxHeartbeats 4000000 in
theorem wfX1_startCheckpoint (C : zC p s m args meth c cX1_startCheckpoint RX1 2 D Ca B En) (hRm : zRm R 3 65 cells slots) (σ : zS) (x0 : Nat) (x1 : Int32) (τ : zS) (hf : fX1_startCheckpoint σ x0 x1 = some τ) (hq : ∀ (pc : Nat) (lv : List (Nat × Value)), decode cX1_startCheckpoint pc = .ok (.return_, 1) → zW p l e R s m args below meth c cells slots Q D Ca B 2 τ N pc lv []) : zW p l e R s m args below meth c cells slots Q D Ca B 2 σ N 0 [(0, .ref x0), (1, .int x1)] [] := by
  unfold fX1_startCheckpoint at hf
  refine z_aload_n C dX1_startCheckpoint_0 rfl 0 rfl ?_
  refine z_dup C dX1_startCheckpoint_1 rfl ?_
  obtain ⟨v1, hv1, hf⟩ := zbind hf
  refine gf_RX1_96 C hv1 dX1_startCheckpoint_2 ?_
  refine z_iconst C (zi 1) dX1_startCheckpoint_5 (by decide) ?_
  refine z_iadd C dX1_startCheckpoint_6 ?_
  obtain ⟨σ2, hσ2, hf⟩ := zbind hf
  refine gp_RX1_96 C hσ2 dX1_startCheckpoint_7 ?_
  refine z_aload_n C dX1_startCheckpoint_10 rfl 0 rfl ?_
  obtain ⟨v3, hv3, hf⟩ := zbind hf
  refine gf_RX1_37 C hv3 dX1_startCheckpoint_11 ?_
  refine z_aload_n C dX1_startCheckpoint_14 rfl 0 rfl ?_
  obtain ⟨v4, hv4, hf⟩ := zbind hf
  refine gf_RX1_96 C hv4 dX1_startCheckpoint_15 ?_
  refine z_aload_n C dX1_startCheckpoint_18 rfl 0 rfl ?_
  obtain ⟨v5, hv5, hf⟩ := zbind hf
  refine gf_RX1_93 C hv5 dX1_startCheckpoint_19 ?_
  refine z_iload_n C dX1_startCheckpoint_22 rfl 1 rfl ?_
  obtain ⟨c6, hc6, hf⟩ := zbind hf
  obtain ⟨kc6, hc6⟩ := zck_ok hc6
  refine z_callVv (As := [.int v4, .int v5, .int x1]) (F0 := 3) (L0 := 65) C (mX0_start l D Ca B En C.2.2.2.2.2.2.2.1 σ2 N v3 v4 v5 x1 _ hc6) hRm kc6 rfl kw_616 kw_10 kw_613 kw_614 kw_615 hyX0_start (Nat.le_of_ble_eq_true rfl) (Nat.le_of_ble_eq_true rfl) rfl rfl (Nat.le_of_ble_eq_true rfl) dX1_startCheckpoint_23 ?_
  cases hf
  exact hq _ _ dX1_startCheckpoint_26

theorem mX1_startCheckpoint (l : Launch) (D : va_G) (Ca : Nat → ClassId) (B : Nat) (En : State → Prop) (hE : zEk B En) (σ : zS) (N : Nat) (x0 : Nat) (x1 : Int32) (X : zS) (hf : fX1_startCheckpoint σ x0 x1 = some X) : zMv l D Ca B En yX1_startCheckpoint cX1_startCheckpoint 2 (Option.none : Option Jvm.ClassFile.FieldType) 3 65 [.ref x0, .int x1] σ N X () :=
  zMet_v (own := RX1) hE (by decide +kernel) rfl (Nat.le_of_ble_eq_true rfl) (fun p e s m args below meth c C hr hRm => wfX1_startCheckpoint C hRm σ x0 x1 X hf (fun pc lv hd => zfin_v (r := ()) C hr hd))
theorem dX1_putBarriers_0 : decode cX1_putBarriers 0 = .ok (.aload_n 0, 1) := by decide +kernel
theorem dX1_putBarriers_1 : decode cX1_putBarriers 1 = .ok (.getfield 37, 3) := by decide +kernel
theorem dX1_putBarriers_4 : decode cX1_putBarriers 4 = .ok (.invokevirtual 129, 3) := by decide +kernel
theorem dX1_putBarriers_7 : decode cX1_putBarriers 7 = .ok (.ifCond .eq 35, 3) := by decide +kernel
theorem dX1_putBarriers_10 : decode cX1_putBarriers 10 = .ok (.aload_n 0, 1) := by decide +kernel
theorem dX1_putBarriers_11 : decode cX1_putBarriers 11 = .ok (.getfield 37, 3) := by decide +kernel
theorem dX1_putBarriers_14 : decode cX1_putBarriers 14 = .ok (.iload_n 1, 1) := by decide +kernel
theorem dX1_putBarriers_15 : decode cX1_putBarriers 15 = .ok (.invokevirtual 179, 3) := by decide +kernel
theorem dX1_putBarriers_18 : decode cX1_putBarriers 18 = .ok (.ifCond .ne 24, 3) := by decide +kernel
theorem dX1_putBarriers_21 : decode cX1_putBarriers 21 = .ok (.aload_n 0, 1) := by decide +kernel
theorem dX1_putBarriers_22 : decode cX1_putBarriers 22 = .ok (.getfield 93, 3) := by decide +kernel
theorem dX1_putBarriers_25 : decode cX1_putBarriers 25 = .ok (.aload_n 0, 1) := by decide +kernel
theorem dX1_putBarriers_26 : decode cX1_putBarriers 26 = .ok (.getfield 37, 3) := by decide +kernel
theorem dX1_putBarriers_29 : decode cX1_putBarriers 29 = .ok (.getfield 183, 3) := by decide +kernel
theorem dX1_putBarriers_32 : decode cX1_putBarriers 32 = .ok (.isub, 1) := by decide +kernel
theorem dX1_putBarriers_33 : decode cX1_putBarriers 33 = .ok (.aload_n 0, 1) := by decide +kernel
theorem dX1_putBarriers_34 : decode cX1_putBarriers 34 = .ok (.getfield 9, 3) := by decide +kernel
theorem dX1_putBarriers_37 : decode cX1_putBarriers 37 = .ok (.iload_n 1, 1) := by decide +kernel
theorem dX1_putBarriers_38 : decode cX1_putBarriers 38 = .ok (.iaload, 1) := by decide +kernel
theorem dX1_putBarriers_39 : decode cX1_putBarriers 39 = .ok (.if_icmp .ge 4, 3) := by decide +kernel
theorem dX1_putBarriers_42 : decode cX1_putBarriers 42 = .ok (.return_, 1) := by decide +kernel
theorem dX1_putBarriers_43 : decode cX1_putBarriers 43 = .ok (.aload_n 0, 1) := by decide +kernel
theorem dX1_putBarriers_44 : decode cX1_putBarriers 44 = .ok (.getfield 37, 3) := by decide +kernel
theorem dX1_putBarriers_47 : decode cX1_putBarriers 47 = .ok (.dup, 1) := by decide +kernel
theorem dX1_putBarriers_48 : decode cX1_putBarriers 48 = .ok (.getfield 186, 3) := by decide +kernel
theorem dX1_putBarriers_51 : decode cX1_putBarriers 51 = .ok (.iconst 1, 1) := by decide +kernel
theorem dX1_putBarriers_52 : decode cX1_putBarriers 52 = .ok (.iload_n 1, 1) := by decide +kernel
theorem dX1_putBarriers_53 : decode cX1_putBarriers 53 = .ok (.ishl, 1) := by decide +kernel
theorem dX1_putBarriers_54 : decode cX1_putBarriers 54 = .ok (.ior, 1) := by decide +kernel
theorem dX1_putBarriers_55 : decode cX1_putBarriers 55 = .ok (.putfield 186, 3) := by decide +kernel
theorem dX1_putBarriers_58 : decode cX1_putBarriers 58 = .ok (.aload_n 0, 1) := by decide +kernel
theorem dX1_putBarriers_59 : decode cX1_putBarriers 59 = .ok (.getfield 37, 3) := by decide +kernel
theorem dX1_putBarriers_62 : decode cX1_putBarriers 62 = .ok (.getfield 189, 3) := by decide +kernel
theorem dX1_putBarriers_65 : decode cX1_putBarriers 65 = .ok (.iload_n 1, 1) := by decide +kernel
theorem dX1_putBarriers_66 : decode cX1_putBarriers 66 = .ok (.aload_n 0, 1) := by decide +kernel
theorem dX1_putBarriers_67 : decode cX1_putBarriers 67 = .ok (.getfield 15, 3) := by decide +kernel
theorem dX1_putBarriers_70 : decode cX1_putBarriers 70 = .ok (.iload_n 1, 1) := by decide +kernel
theorem dX1_putBarriers_71 : decode cX1_putBarriers 71 = .ok (.iaload, 1) := by decide +kernel
theorem dX1_putBarriers_72 : decode cX1_putBarriers 72 = .ok (.iastore, 1) := by decide +kernel
theorem dX1_putBarriers_73 : decode cX1_putBarriers 73 = .ok (.iconst 0, 1) := by decide +kernel
theorem dX1_putBarriers_74 : decode cX1_putBarriers 74 = .ok (.istore_n 2, 1) := by decide +kernel
theorem dX1_putBarriers_75 : decode cX1_putBarriers 75 = .ok (.iload_n 2, 1) := by decide +kernel
theorem dX1_putBarriers_76 : decode cX1_putBarriers 76 = .ok (.aload_n 0, 1) := by decide +kernel
theorem dX1_putBarriers_77 : decode cX1_putBarriers 77 = .ok (.getfield 70, 3) := by decide +kernel
theorem dX1_putBarriers_80 : decode cX1_putBarriers 80 = .ok (.if_icmp .ge 29, 3) := by decide +kernel
theorem dX1_putBarriers_83 : decode cX1_putBarriers 83 = .ok (.iload_n 2, 1) := by decide +kernel
theorem dX1_putBarriers_84 : decode cX1_putBarriers 84 = .ok (.iload_n 1, 1) := by decide +kernel
theorem dX1_putBarriers_85 : decode cX1_putBarriers 85 = .ok (.invokestatic 190, 3) := by decide +kernel
theorem dX1_putBarriers_88 : decode cX1_putBarriers 88 = .ok (.istore_n 3, 1) := by decide +kernel
theorem dX1_putBarriers_89 : decode cX1_putBarriers 89 = .ok (.aload_n 0, 1) := by decide +kernel
theorem dX1_putBarriers_90 : decode cX1_putBarriers 90 = .ok (.getfield 47, 3) := by decide +kernel
theorem dX1_putBarriers_93 : decode cX1_putBarriers 93 = .ok (.iload_n 3, 1) := by decide +kernel
theorem dX1_putBarriers_94 : decode cX1_putBarriers 94 = .ok (.aload_n 0, 1) := by decide +kernel
theorem dX1_putBarriers_95 : decode cX1_putBarriers 95 = .ok (.getfield 30, 3) := by decide +kernel
theorem dX1_putBarriers_98 : decode cX1_putBarriers 98 = .ok (.iload_n 3, 1) := by decide +kernel
theorem dX1_putBarriers_99 : decode cX1_putBarriers 99 = .ok (.invokevirtual 194, 3) := by decide +kernel
theorem dX1_putBarriers_102 : decode cX1_putBarriers 102 = .ok (.iastore, 1) := by decide +kernel
theorem dX1_putBarriers_103 : decode cX1_putBarriers 103 = .ok (.iinc 2 1, 3) := by decide +kernel
theorem dX1_putBarriers_106 : decode cX1_putBarriers 106 = .ok (.goto (-31), 3) := by decide +kernel
theorem dX1_putBarriers_109 : decode cX1_putBarriers 109 = .ok (.return_, 1) := by decide +kernel
theorem hyX1_putBarriers : yX1_putBarriers.cls ≠ "java/lang/invoke/MethodHandle" ∧ yX1_putBarriers.cls ≠ "java/lang/invoke/VarHandle" ∧ (parseMethodDescriptor yX1_putBarriers.desc).map (fun d => d.parameters.length) = some 1 := ⟨by decide +kernel, by decide +kernel, by decide +kernel⟩
set_option maxRecDepth 100000 in
set_option maxHeartbeats 4000000 in
theorem wsX1_putBarriers_75b (C : zC p s m args meth c cX1_putBarriers RX1 4 D Ca B En) (hRm : zRm R 2 41 cells slots) (x0 : Nat) (x1 : Int32) (σ : zS) (u2 : Int32) (y : (zS × Int32) ⊕ zS) (hf : sX1_putBarriers_75b x0 x1 σ u2 = some y) (hk : (∀ z : (zS × Int32), y = .inl z → zW p l e R s m args below meth c cells slots Q D Ca B 4 z.1 N 75 [(0, .ref x0), (1, .int x1), (2, .int z.2)] []) ∧ (∀ z : zS, y = .inr z → zW p l e R s m args below meth c cells slots Q D Ca B 4 z N 109 [] [])) : zW p l e R s m args below meth c cells slots Q D Ca B 4 σ N 75 [(0, .ref x0), (1, .int x1), (2, .int u2)] [] := by
  unfold sX1_putBarriers_75b at hf
  refine z_iload_n C dX1_putBarriers_75 rfl 2 rfl ?_
  refine z_aload_n C dX1_putBarriers_76 rfl 0 rfl ?_
  obtain ⟨v18, hv18, hf⟩ := zbind hf
  refine gf_RX1_70 C hv18 dX1_putBarriers_77 ?_
  refine z_icmp_ge C 109 dX1_putBarriers_80 (by decide) (fun q24 => ?_) (fun q24 => ?_)
  · rw [if_pos q24] at hf
    cases hf
    refine z_sub [] rfl ?_
    exact hk.2 _ rfl
  · rw [if_neg q24] at hf
    refine z_iload_n C dX1_putBarriers_83 rfl 2 rfl ?_
    refine z_iload_n C dX1_putBarriers_84 rfl 1 rfl ?_
    obtain ⟨c19, hc19, hf⟩ := zbind hf
    refine z_callSNi (host := "BarrierFlow") (As := [.int u2, .int x1]) (F0 := 2) (L0 := 41) C (mX9_channel l D Ca B En C.2.2.2.2.2.2.2.1 σ N u2 x1 _ hc19) hRm kw_629 kw_1 (by decide) kw_628 hyX9_channel (Nat.le_of_ble_eq_true rfl) (Nat.le_of_ble_eq_true rfl) rfl rfl (Nat.le_of_ble_eq_true rfl) dX1_putBarriers_85 ?_
    refine z_istore_n (lv2 := [(3, .int c19.2), (0, .ref x0), (1, .int x1), (2, .int u2)]) C dX1_putBarriers_88 rfl (by decide) rfl ?_
    refine z_aload_n C dX1_putBarriers_89 rfl 1 rfl ?_
    obtain ⟨v20, hv20, hf⟩ := zbind hf
    refine gf_RX1_47 C hv20 dX1_putBarriers_90 ?_
    refine z_iload_n C dX1_putBarriers_93 rfl 0 rfl ?_
    refine z_aload_n C dX1_putBarriers_94 rfl 1 rfl ?_
    obtain ⟨v21, hv21, hf⟩ := zbind hf
    refine gf_RX1_30 C hv21 dX1_putBarriers_95 ?_
    refine z_iload_n C dX1_putBarriers_98 rfl 0 rfl ?_
    obtain ⟨c22, hc22, hf⟩ := zbind hf
    obtain ⟨kc22, hc22⟩ := zck_ok hc22
    refine z_callVi (As := [.int c19.2]) (F0 := 2) (L0 := 41) C (mX3_sizeOf l D Ca B En C.2.2.2.2.2.2.2.1 c19.1 N v21 c19.2 _ hc22) hRm kc22 rfl kw_340 kw_9 kw_337 kw_338 kw_339 hyX3_sizeOf (Nat.le_of_ble_eq_true rfl) (Nat.le_of_ble_eq_true rfl) rfl rfl (Nat.le_of_ble_eq_true rfl) dX1_putBarriers_99 ?_
    obtain ⟨σ23, hσ23, hf⟩ := zbind hf
    refine z_sI C hσ23 dX1_putBarriers_102 ?_
    refine z_iinc (lv2 := [(2, .int (u2 + (zi 1))), (3, .int c19.2), (0, .ref x0), (1, .int x1)]) C (u2 + (zi 1)) dX1_putBarriers_103 3 rfl rfl (by decide) rfl ?_
    refine z_goto C 75 dX1_putBarriers_106 (by decide) ?_
    cases hf
    refine z_sub [2, 3, 0] rfl ?_
    exact hk.1 _ rfl

theorem wsX1_putBarriers_75 (C : zC p s m args meth c cX1_putBarriers RX1 4 D Ca B En) (hRm : zRm R 2 41 cells slots) (x0 : Nat) (x1 : Int32) (n : Nat) (z : (zS × Int32)) (x : zS) (hf : zloop (sX1_putBarriers_75 x0 x1) n z = some x) (hk : (∀ o : zS, x = o → zW p l e R s m args below meth c cells slots Q D Ca B 4 o N 109 [] [])) : zW p l e R s m args below meth c cells slots Q D Ca B 4 z.1 N 75 [(0, .ref x0), (1, .int x1), (2, .int z.2)] [] := by
  refine zloop_W (P := fun z : (zS × Int32) => zW p l e R s m args below meth c cells slots Q D Ca B 4 z.1 N 75 [(0, .ref x0), (1, .int x1), (2, .int z.2)] []) (K := fun x : zS => (∀ o : zS, x = o → zW p l e R s m args below meth c cells slots Q D Ca B 4 o N 109 [] [])) ?_ n z x hf hk
  intro z y hy h1 h2
  refine wsX1_putBarriers_75b C hRm x0 x1 z.1 z.2 y hy ⟨fun z2 e => h1 z2 e, fun o e => (h2 _ e) o rfl⟩
set_option maxRecDepth 100000 in
set_option maxHeartbeats 4000000 in
theorem wfX1_putBarriers (C : zC p s m args meth c cX1_putBarriers RX1 4 D Ca B En) (hRm : zRm R 2 41 cells slots) (σ : zS) (x0 : Nat) (x1 : Int32) (τ : zS) (hf : fX1_putBarriers σ x0 x1 = some τ) (hq : ∀ (pc : Nat) (lv : List (Nat × Value)), decode cX1_putBarriers pc = .ok (.return_, 1) → zW p l e R s m args below meth c cells slots Q D Ca B 4 τ N pc lv []) : zW p l e R s m args below meth c cells slots Q D Ca B 4 σ N 0 [(0, .ref x0), (1, .int x1)] [] := by
  unfold fX1_putBarriers at hf
  refine z_aload_n C dX1_putBarriers_0 rfl 0 rfl ?_
  obtain ⟨v1, hv1, hf⟩ := zbind hf
  refine gf_RX1_37 C hv1 dX1_putBarriers_1 ?_
  obtain ⟨c2, hc2, hf⟩ := zbind hf
  obtain ⟨kc2, hc2⟩ := zck_ok hc2
  refine z_callVi (As := []) (F0 := 2) (L0 := 41) C (mX0_exists l D Ca B En C.2.2.2.2.2.2.2.1 σ N v1  _ hc2) hRm kc2 rfl kw_316 kw_10 kw_313 kw_314 kw_315 hyX0_exists (Nat.le_of_ble_eq_true rfl) (Nat.le_of_ble_eq_true rfl) rfl rfl (Nat.le_of_ble_eq_true rfl) dX1_putBarriers_4 ?_
  refine z_if_eq C 42 dX1_putBarriers_7 (by decide) (fun q28 => ?_) (fun q28 => ?_)
  · rw [if_pos q28] at hf
    cases hf
    exact hq _ _ dX1_putBarriers_42
  · rw [if_neg q28] at hf
    refine z_aload_n C dX1_putBarriers_10 rfl 0 rfl ?_
    obtain ⟨v3, hv3, hf⟩ := zbind hf
    refine gf_RX1_37 C hv3 dX1_putBarriers_11 ?_
    refine z_iload_n C dX1_putBarriers_14 rfl 1 rfl ?_
    obtain ⟨c4, hc4, hf⟩ := zbind hf
    obtain ⟨kc4, hc4⟩ := zck_ok hc4
    refine z_callVi (As := [.int x1]) (F0 := 2) (L0 := 41) C (mX0_hasPut l D Ca B En C.2.2.2.2.2.2.2.1 c2.1 N v3 x1 _ hc4) hRm kc4 rfl kw_626 kw_10 kw_623 kw_624 kw_625 hyX0_hasPut (Nat.le_of_ble_eq_true rfl) (Nat.le_of_ble_eq_true rfl) rfl rfl (Nat.le_of_ble_eq_true rfl) dX1_putBarriers_15 ?_
    refine z_if_ne C 42 dX1_putBarriers_18 (by decide) (fun q27 => ?_) (fun q27 => ?_)
    · rw [if_neg q27] at hf
      cases hf
      exact hq _ _ dX1_putBarriers_42
    · rw [if_pos q27] at hf
      refine z_aload_n C dX1_putBarriers_21 rfl 0 rfl ?_
      obtain ⟨v5, hv5, hf⟩ := zbind hf
      refine gf_RX1_93 C hv5 dX1_putBarriers_22 ?_
      refine z_aload_n C dX1_putBarriers_25 rfl 0 rfl ?_
      obtain ⟨v6, hv6, hf⟩ := zbind hf
      refine gf_RX1_37 C hv6 dX1_putBarriers_26 ?_
      obtain ⟨v7, hv7, hf⟩ := zbind hf
      refine gf_RX1_183 C hv7 dX1_putBarriers_29 ?_
      refine z_isub C dX1_putBarriers_32 ?_
      refine z_aload_n C dX1_putBarriers_33 rfl 0 rfl ?_
      obtain ⟨v8, hv8, hf⟩ := zbind hf
      refine gf_RX1_9 C hv8 dX1_putBarriers_34 ?_
      refine z_iload_n C dX1_putBarriers_37 rfl 1 rfl ?_
      obtain ⟨v9, hv9, hf⟩ := zbind hf
      refine z_aI C hv9 dX1_putBarriers_38 ?_
      refine z_icmp_ge C 43 dX1_putBarriers_39 (by decide) (fun q26 => ?_) (fun q26 => ?_)
      · rw [if_pos q26] at hf
        refine z_aload_n C dX1_putBarriers_43 rfl 0 rfl ?_
        obtain ⟨v10, hv10, hf⟩ := zbind hf
        refine gf_RX1_37 C hv10 dX1_putBarriers_44 ?_
        refine z_dup C dX1_putBarriers_47 rfl ?_
        obtain ⟨v11, hv11, hf⟩ := zbind hf
        refine gf_RX1_186 C hv11 dX1_putBarriers_48 ?_
        refine z_iconst C (zi 1) dX1_putBarriers_51 (by decide) ?_
        refine z_iload_n C dX1_putBarriers_52 rfl 1 rfl ?_
        refine z_ishl C dX1_putBarriers_53 ?_
        refine z_ior C dX1_putBarriers_54 ?_
        obtain ⟨σ12, hσ12, hf⟩ := zbind hf
        refine gp_RX1_186 C hσ12 dX1_putBarriers_55 ?_
        refine z_aload_n C dX1_putBarriers_58 rfl 0 rfl ?_
        obtain ⟨v13, hv13, hf⟩ := zbind hf
        refine gf_RX1_37 C hv13 dX1_putBarriers_59 ?_
        obtain ⟨v14, hv14, hf⟩ := zbind hf
        refine gf_RX1_189 C hv14 dX1_putBarriers_62 ?_
        refine z_iload_n C dX1_putBarriers_65 rfl 1 rfl ?_
        refine z_aload_n C dX1_putBarriers_66 rfl 0 rfl ?_
        obtain ⟨v15, hv15, hf⟩ := zbind hf
        refine gf_RX1_15 C hv15 dX1_putBarriers_67 ?_
        refine z_iload_n C dX1_putBarriers_70 rfl 1 rfl ?_
        obtain ⟨v16, hv16, hf⟩ := zbind hf
        refine z_aI C hv16 dX1_putBarriers_71 ?_
        obtain ⟨σ17, hσ17, hf⟩ := zbind hf
        refine z_sI C hσ17 dX1_putBarriers_72 ?_
        refine z_iconst C (zi 0) dX1_putBarriers_73 (by decide) ?_
        refine z_istore_n (lv2 := [(2, .int ((zi 0))), (0, .ref x0), (1, .int x1)]) C dX1_putBarriers_74 rfl (by decide) rfl ?_
        obtain ⟨o25, ho25, hf⟩ := zbind hf
        refine z_sub [1, 2, 0] rfl ?_
        refine wsX1_putBarriers_75 C hRm _ _ zfuel (σ17, (zi 0)) o25 ho25 ?_
        intro z9 e9
        subst e9
        cases hf
        exact hq _ _ dX1_putBarriers_109
      · rw [if_neg q26] at hf
        cases hf
        exact hq _ _ dX1_putBarriers_42

theorem mX1_putBarriers (l : Launch) (D : va_G) (Ca : Nat → ClassId) (B : Nat) (En : State → Prop) (hE : zEk B En) (σ : zS) (N : Nat) (x0 : Nat) (x1 : Int32) (X : zS) (hf : fX1_putBarriers σ x0 x1 = some X) : zMv l D Ca B En yX1_putBarriers cX1_putBarriers 4 (Option.none : Option Jvm.ClassFile.FieldType) 2 41 [.ref x0, .int x1] σ N X () :=
  zMet_v (own := RX1) hE (by decide +kernel) rfl (Nat.le_of_ble_eq_true rfl) (fun p e s m args below meth c C hr hRm => wfX1_putBarriers C hRm σ x0 x1 X hf (fun pc lv hd => zfin_v (r := ()) C hr hd))
theorem dX9_numberOf_0 : decode cX9_numberOf 0 = .ok (.sipush 200, 3) := by decide +kernel
theorem dX9_numberOf_3 : decode cX9_numberOf 3 = .ok (.iload_n 0, 1) := by decide +kernel
theorem dX9_numberOf_4 : decode cX9_numberOf 4 = .ok (.imul, 1) := by decide +kernel
theorem dX9_numberOf_5 : decode cX9_numberOf 5 = .ok (.iload_n 1, 1) := by decide +kernel
theorem dX9_numberOf_6 : decode cX9_numberOf 6 = .ok (.iadd, 1) := by decide +kernel
theorem dX9_numberOf_7 : decode cX9_numberOf 7 = .ok (.ireturn, 1) := by decide +kernel
theorem hyX9_numberOf : yX9_numberOf.cls ≠ "java/lang/invoke/MethodHandle" ∧ yX9_numberOf.cls ≠ "java/lang/invoke/VarHandle" ∧ (parseMethodDescriptor yX9_numberOf.desc).map (fun d => d.parameters.length) = some 2 := ⟨by decide +kernel, by decide +kernel, by decide +kernel⟩
set_option maxRecDepth 100000 in
set_option maxHeartbeats 4000000 in
theorem wfX9_numberOf (C : zC p s m args meth c cX9_numberOf RX9 2 D Ca B En) (hRm : zRm R 0 0 cells slots) (σ : zS) (x0 : Int32) (x1 : Int32) (τ : zS) (r : Int32) (hf : fX9_numberOf σ x0 x1 = some (τ, r)) (hq : ∀ (pc : Nat) (lv : List (Nat × Value)), decode cX9_numberOf pc = .ok (.ireturn, 1) → zW p l e R s m args below meth c cells slots Q D Ca B 2 τ N pc lv [.int r]) : zW p l e R s m args below meth c cells slots Q D Ca B 2 σ N 0 [(0, .int x0), (1, .int x1)] [] := by
  unfold fX9_numberOf at hf
  refine z_sipush C (zi 200) dX9_numberOf_0 (by decide) ?_
  refine z_iload_n C dX9_numberOf_3 rfl 0 rfl ?_
  refine z_imul C dX9_numberOf_4 ?_
  refine z_iload_n C dX9_numberOf_5 rfl 1 rfl ?_
  refine z_iadd C dX9_numberOf_6 ?_
  cases hf
  exact hq _ _ dX9_numberOf_7

theorem mX9_numberOf (l : Launch) (D : va_G) (Ca : Nat → ClassId) (B : Nat) (En : State → Prop) (hE : zEk B En) (σ : zS) (N : Nat) (x0 : Int32) (x1 : Int32) (X : zS × Int32) (hf : fX9_numberOf σ x0 x1 = some X) : zMi l D Ca B En yX9_numberOf cX9_numberOf 2 (Option.some Jvm.ClassFile.FieldType.int) 0 0 [.int x0, .int x1] σ N X.1 X.2 :=
  zMet_i (own := RX9) hE (by decide +kernel) rfl (Nat.le_of_ble_eq_true rfl) (fun p e s m args below meth c C hr hRm => wfX9_numberOf C hRm σ x0 x1 X.1 X.2 hf (fun pc lv hd => zfin_i C hr hd))
theorem dX1_sendRecord_0 : decode cX1_sendRecord 0 = .ok (.aload_n 0, 1) := by decide +kernel
theorem dX1_sendRecord_1 : decode cX1_sendRecord 1 = .ok (.getfield 15, 3) := by decide +kernel
theorem dX1_sendRecord_4 : decode cX1_sendRecord 4 = .ok (.iload_n 1, 1) := by decide +kernel
theorem dX1_sendRecord_5 : decode cX1_sendRecord 5 = .ok (.iaload, 1) := by decide +kernel
theorem dX1_sendRecord_6 : decode cX1_sendRecord 6 = .ok (.aload_n 0, 1) := by decide +kernel
theorem dX1_sendRecord_7 : decode cX1_sendRecord 7 = .ok (.getfield 54, 3) := by decide +kernel
theorem dX1_sendRecord_10 : decode cX1_sendRecord 10 = .ok (.getfield 197, 3) := by decide +kernel
theorem dX1_sendRecord_13 : decode cX1_sendRecord 13 = .ok (.iload_n 1, 1) := by decide +kernel
theorem dX1_sendRecord_14 : decode cX1_sendRecord 14 = .ok (.iaload, 1) := by decide +kernel
theorem dX1_sendRecord_15 : decode cX1_sendRecord 15 = .ok (.if_icmp .lt 4, 3) := by decide +kernel
theorem dX1_sendRecord_18 : decode cX1_sendRecord 18 = .ok (.return_, 1) := by decide +kernel
theorem dX1_sendRecord_19 : decode cX1_sendRecord 19 = .ok (.iload_n 1, 1) := by decide +kernel
theorem dX1_sendRecord_20 : decode cX1_sendRecord 20 = .ok (.aload_n 0, 1) := by decide +kernel
theorem dX1_sendRecord_21 : decode cX1_sendRecord 21 = .ok (.getfield 15, 3) := by decide +kernel
theorem dX1_sendRecord_24 : decode cX1_sendRecord 24 = .ok (.iload_n 1, 1) := by decide +kernel
theorem dX1_sendRecord_25 : decode cX1_sendRecord 25 = .ok (.iaload, 1) := by decide +kernel
theorem dX1_sendRecord_26 : decode cX1_sendRecord 26 = .ok (.invokestatic 200, 3) := by decide +kernel
theorem dX1_sendRecord_29 : decode cX1_sendRecord 29 = .ok (.istore_n 2, 1) := by decide +kernel
theorem dX1_sendRecord_30 : decode cX1_sendRecord 30 = .ok (.aload_n 0, 1) := by decide +kernel
theorem dX1_sendRecord_31 : decode cX1_sendRecord 31 = .ok (.getfield 54, 3) := by decide +kernel
theorem dX1_sendRecord_34 : decode cX1_sendRecord 34 = .ok (.iload_n 2, 1) := by decide +kernel
theorem dX1_sendRecord_35 : decode cX1_sendRecord 35 = .ok (.invokevirtual 203, 3) := by decide +kernel
theorem dX1_sendRecord_38 : decode cX1_sendRecord 38 = .ok (.aload_n 0, 1) := by decide +kernel
theorem dX1_sendRecord_39 : decode cX1_sendRecord 39 = .ok (.getfield 70, 3) := by decide +kernel
theorem dX1_sendRecord_42 : decode cX1_sendRecord 42 = .ok (.invokestatic 206, 3) := by decide +kernel
theorem dX1_sendRecord_45 : decode cX1_sendRecord 45 = .ok (.iload_n 1, 1) := by decide +kernel
theorem dX1_sendRecord_46 : decode cX1_sendRecord 46 = .ok (.invokestatic 190, 3) := by decide +kernel
theorem dX1_sendRecord_49 : decode cX1_sendRecord 49 = .ok (.istore_n 3, 1) := by decide +kernel
theorem dX1_sendRecord_50 : decode cX1_sendRecord 50 = .ok (.aload_n 0, 1) := by decide +kernel
theorem dX1_sendRecord_51 : decode cX1_sendRecord 51 = .ok (.getfield 30, 3) := by decide +kernel
theorem dX1_sendRecord_54 : decode cX1_sendRecord 54 = .ok (.iload_n 3, 1) := by decide +kernel
theorem dX1_sendRecord_55 : decode cX1_sendRecord 55 = .ok (.invokevirtual 194, 3) := by decide +kernel
theorem dX1_sendRecord_58 : decode cX1_sendRecord 58 = .ok (.aload_n 0, 1) := by decide +kernel
theorem dX1_sendRecord_59 : decode cX1_sendRecord 59 = .ok (.getfield 77, 3) := by decide +kernel
theorem dX1_sendRecord_62 : decode cX1_sendRecord 62 = .ok (.if_icmp .ge 32, 3) := by decide +kernel
theorem dX1_sendRecord_65 : decode cX1_sendRecord 65 = .ok (.aload_n 0, 1) := by decide +kernel
theorem dX1_sendRecord_66 : decode cX1_sendRecord 66 = .ok (.getfield 30, 3) := by decide +kernel
theorem dX1_sendRecord_69 : decode cX1_sendRecord 69 = .ok (.iload_n 3, 1) := by decide +kernel
theorem dX1_sendRecord_70 : decode cX1_sendRecord 70 = .ok (.iload_n 2, 1) := by decide +kernel
theorem dX1_sendRecord_71 : decode cX1_sendRecord 71 = .ok (.invokevirtual 209, 3) := by decide +kernel
theorem dX1_sendRecord_74 : decode cX1_sendRecord 74 = .ok (.aload_n 0, 1) := by decide +kernel
theorem dX1_sendRecord_75 : decode cX1_sendRecord 75 = .ok (.getfield 15, 3) := by decide +kernel
theorem dX1_sendRecord_78 : decode cX1_sendRecord 78 = .ok (.iload_n 1, 1) := by decide +kernel
theorem dX1_sendRecord_79 : decode cX1_sendRecord 79 = .ok (.dup2, 1) := by decide +kernel
theorem dX1_sendRecord_80 : decode cX1_sendRecord 80 = .ok (.iaload, 1) := by decide +kernel
theorem dX1_sendRecord_81 : decode cX1_sendRecord 81 = .ok (.iconst 1, 1) := by decide +kernel
theorem dX1_sendRecord_82 : decode cX1_sendRecord 82 = .ok (.iadd, 1) := by decide +kernel
theorem dX1_sendRecord_83 : decode cX1_sendRecord 83 = .ok (.iastore, 1) := by decide +kernel
theorem dX1_sendRecord_84 : decode cX1_sendRecord 84 = .ok (.aload_n 0, 1) := by decide +kernel
theorem dX1_sendRecord_85 : decode cX1_sendRecord 85 = .ok (.dup, 1) := by decide +kernel
theorem dX1_sendRecord_86 : decode cX1_sendRecord 86 = .ok (.getfield 102, 3) := by decide +kernel
theorem dX1_sendRecord_89 : decode cX1_sendRecord 89 = .ok (.iconst 1, 1) := by decide +kernel
theorem dX1_sendRecord_90 : decode cX1_sendRecord 90 = .ok (.iadd, 1) := by decide +kernel
theorem dX1_sendRecord_91 : decode cX1_sendRecord 91 = .ok (.putfield 102, 3) := by decide +kernel
theorem dX1_sendRecord_94 : decode cX1_sendRecord 94 = .ok (.return_, 1) := by decide +kernel
theorem hyX1_sendRecord : yX1_sendRecord.cls ≠ "java/lang/invoke/MethodHandle" ∧ yX1_sendRecord.cls ≠ "java/lang/invoke/VarHandle" ∧ (parseMethodDescriptor yX1_sendRecord.desc).map (fun d => d.parameters.length) = some 1 := ⟨by decide +kernel, by decide +kernel, by decide +kernel⟩
set_option maxRecDepth 100000 in
set_option maxHeartbeats 4000000 in
theorem wfX1_sendRecord (C : zC p s m args meth c cX1_sendRecord RX1 4 D Ca B En) (hRm : zRm R 2 43 cells slots) (σ : zS) (x0 : Nat) (x1 : Int32) (τ : zS) (hf : fX1_sendRecord σ x0 x1 = some τ) (hq : ∀ (pc : Nat) (lv : List (Nat × Value)), decode cX1_sendRecord pc = .ok (.return_, 1) → zW p l e R s m args below meth c cells slots Q D Ca B 4 τ N pc lv []) : zW p l e R s m args below meth c cells slots Q D Ca B 4 σ N 0 [(0, .ref x0), (1, .int x1)] [] := by
  unfold fX1_sendRecord at hf
  refine z_aload_n C dX1_sendRecord_0 rfl 0 rfl ?_
  obtain ⟨v1, hv1, hf⟩ := zbind hf
  refine gf_RX1_15 C hv1 dX1_sendRecord_1 ?_
  refine z_iload_n C dX1_sendRecord_4 rfl 1 rfl ?_
  obtain ⟨v2, hv2, hf⟩ := zbind hf
  refine z_aI C hv2 dX1_sendRecord_5 ?_
  refine z_aload_n C dX1_sendRecord_6 rfl 0 rfl ?_
  obtain ⟨v3, hv3, hf⟩ := zbind hf
  refine gf_RX1_54 C hv3 dX1_sendRecord_7 ?_
  obtain ⟨v4, hv4, hf⟩ := zbind hf
  refine gf_RX1_197 C hv4 dX1_sendRecord_10 ?_
  refine z_iload_n C dX1_sendRecord_13 rfl 1 rfl ?_
  obtain ⟨v5, hv5, hf⟩ := zbind hf
  refine z_aI C hv5 dX1_sendRecord_14 ?_
  refine z_icmp_lt C 19 dX1_sendRecord_15 (by decide) (fun q25 => ?_) (fun q25 => ?_)
  · rw [if_pos q25] at hf
    refine z_iload_n C dX1_sendRecord_19 rfl 1 rfl ?_
    refine z_aload_n C dX1_sendRecord_20 rfl 0 rfl ?_
    obtain ⟨v6, hv6, hf⟩ := zbind hf
    refine gf_RX1_15 C hv6 dX1_sendRecord_21 ?_
    refine z_iload_n C dX1_sendRecord_24 rfl 1 rfl ?_
    obtain ⟨v7, hv7, hf⟩ := zbind hf
    refine z_aI C hv7 dX1_sendRecord_25 ?_
    obtain ⟨c8, hc8, hf⟩ := zbind hf
    refine z_callSNi (host := "BarrierFlow") (As := [.int x1, .int v7]) (F0 := 2) (L0 := 43) C (mX9_numberOf l D Ca B En C.2.2.2.2.2.2.2.1 σ N x1 v7 _ hc8) hRm kw_182 kw_1 (by decide) kw_181 hyX9_numberOf (Nat.le_of_ble_eq_true rfl) (Nat.le_of_ble_eq_true rfl) rfl rfl (Nat.le_of_ble_eq_true rfl) dX1_sendRecord_26 ?_
    refine z_istore_n (lv2 := [(2, .int c8.2), (0, .ref x0), (1, .int x1)]) C dX1_sendRecord_29 rfl (by decide) rfl ?_
    refine z_aload_n C dX1_sendRecord_30 rfl 1 rfl ?_
    obtain ⟨v9, hv9, hf⟩ := zbind hf
    refine gf_RX1_54 C hv9 dX1_sendRecord_31 ?_
    refine z_iload_n C dX1_sendRecord_34 rfl 0 rfl ?_
    obtain ⟨c10, hc10, hf⟩ := zbind hf
    obtain ⟨kc10, hc10⟩ := zck_ok hc10
    refine z_callVi (As := [.int c8.2]) (F0 := 2) (L0 := 43) C (mX7_keyOf l D Ca B En C.2.2.2.2.2.2.2.1 c8.1 N v9 c8.2 _ hc10) hRm kc10 rfl kw_638 kw_5 kw_635 kw_636 kw_637 hyX7_keyOf (Nat.le_of_ble_eq_true rfl) (Nat.le_of_ble_eq_true rfl) rfl rfl (Nat.le_of_ble_eq_true rfl) dX1_sendRecord_35 ?_
    refine z_aload_n C dX1_sendRecord_38 rfl 1 rfl ?_
    obtain ⟨v11, hv11, hf⟩ := zbind hf
    refine gf_RX1_70 C hv11 dX1_sendRecord_39 ?_
    obtain ⟨c12, hc12, hf⟩ := zbind hf
    refine z_callSNi (host := "BarrierFlow") (As := [.int c10.2, .int v11]) (F0 := 2) (L0 := 43) C (mX9_ownerOf l D Ca B En C.2.2.2.2.2.2.2.1 c10.1 N c10.2 v11 _ hc12) hRm kw_641 kw_1 (by decide) kw_640 hyX9_ownerOf (Nat.le_of_ble_eq_true rfl) (Nat.le_of_ble_eq_true rfl) rfl rfl (Nat.le_of_ble_eq_true rfl) dX1_sendRecord_42 ?_
    refine z_iload_n C dX1_sendRecord_45 rfl 2 rfl ?_
    obtain ⟨c13, hc13, hf⟩ := zbind hf
    refine z_callSNi (host := "BarrierFlow") (As := [.int c12.2, .int x1]) (F0 := 2) (L0 := 43) C (mX9_channel l D Ca B En C.2.2.2.2.2.2.2.1 c12.1 N c12.2 x1 _ hc13) hRm kw_629 kw_1 (by decide) kw_628 hyX9_channel (Nat.le_of_ble_eq_true rfl) (Nat.le_of_ble_eq_true rfl) rfl rfl (Nat.le_of_ble_eq_true rfl) dX1_sendRecord_46 ?_
    refine z_istore_n (lv2 := [(3, .int c13.2), (2, .int c8.2), (0, .ref x0), (1, .int x1)]) C dX1_sendRecord_49 rfl (by decide) rfl ?_
    refine z_aload_n C dX1_sendRecord_50 rfl 2 rfl ?_
    obtain ⟨v14, hv14, hf⟩ := zbind hf
    refine gf_RX1_30 C hv14 dX1_sendRecord_51 ?_
    refine z_iload_n C dX1_sendRecord_54 rfl 0 rfl ?_
    obtain ⟨c15, hc15, hf⟩ := zbind hf
    obtain ⟨kc15, hc15⟩ := zck_ok hc15
    refine z_callVi (As := [.int c13.2]) (F0 := 2) (L0 := 43) C (mX3_sizeOf l D Ca B En C.2.2.2.2.2.2.2.1 c13.1 N v14 c13.2 _ hc15) hRm kc15 rfl kw_340 kw_9 kw_337 kw_338 kw_339 hyX3_sizeOf (Nat.le_of_ble_eq_true rfl) (Nat.le_of_ble_eq_true rfl) rfl rfl (Nat.le_of_ble_eq_true rfl) dX1_sendRecord_55 ?_
    refine z_aload_n C dX1_sendRecord_58 rfl 2 rfl ?_
    obtain ⟨v16, hv16, hf⟩ := zbind hf
    refine gf_RX1_77 C hv16 dX1_sendRecord_59 ?_
    refine z_icmp_ge C 94 dX1_sendRecord_62 (by decide) (fun q24 => ?_) (fun q24 => ?_)
    · rw [if_pos q24] at hf
      cases hf
      exact hq _ _ dX1_sendRecord_94
    · rw [if_neg q24] at hf
      refine z_aload_n C dX1_sendRecord_65 rfl 2 rfl ?_
      obtain ⟨v17, hv17, hf⟩ := zbind hf
      refine gf_RX1_30 C hv17 dX1_sendRecord_66 ?_
      refine z_iload_n C dX1_sendRecord_69 rfl 0 rfl ?_
      refine z_iload_n C dX1_sendRecord_70 rfl 1 rfl ?_
      obtain ⟨c18, hc18, hf⟩ := zbind hf
      obtain ⟨kc18, hc18⟩ := zck_ok hc18
      refine z_callVv (As := [.int c13.2, .int c8.2]) (F0 := 2) (L0 := 43) C (mX3_add l D Ca B En C.2.2.2.2.2.2.2.1 c15.1 N v17 c13.2 c8.2 _ hc18) hRm kc18 rfl kw_344 kw_9 kw_341 kw_342 kw_343 hyX3_add (Nat.le_of_ble_eq_true rfl) (Nat.le_of_ble_eq_true rfl) rfl rfl (Nat.le_of_ble_eq_true rfl) dX1_sendRecord_71 ?_
      refine z_aload_n C dX1_sendRecord_74 rfl 2 rfl ?_
      obtain ⟨v19, hv19, hf⟩ := zbind hf
      refine gf_RX1_15 C hv19 dX1_sendRecord_75 ?_
      refine z_iload_n C dX1_sendRecord_78 rfl 3 rfl ?_
      refine z_dup2 C dX1_sendRecord_79 rfl rfl ?_
      obtain ⟨v20, hv20, hf⟩ := zbind hf
      refine z_aI C hv20 dX1_sendRecord_80 ?_
      refine z_iconst C (zi 1) dX1_sendRecord_81 (by decide) ?_
      refine z_iadd C dX1_sendRecord_82 ?_
      obtain ⟨σ21, hσ21, hf⟩ := zbind hf
      refine z_sI C hσ21 dX1_sendRecord_83 ?_
      refine z_aload_n C dX1_sendRecord_84 rfl 2 rfl ?_
      refine z_dup C dX1_sendRecord_85 rfl ?_
      obtain ⟨v22, hv22, hf⟩ := zbind hf
      refine gf_RX1_102 C hv22 dX1_sendRecord_86 ?_
      refine z_iconst C (zi 1) dX1_sendRecord_89 (by decide) ?_
      refine z_iadd C dX1_sendRecord_90 ?_
      obtain ⟨σ23, hσ23, hf⟩ := zbind hf
      refine gp_RX1_102 C hσ23 dX1_sendRecord_91 ?_
      cases hf
      exact hq _ _ dX1_sendRecord_94
  · rw [if_neg q25] at hf
    cases hf
    exact hq _ _ dX1_sendRecord_18

theorem mX1_sendRecord (l : Launch) (D : va_G) (Ca : Nat → ClassId) (B : Nat) (En : State → Prop) (hE : zEk B En) (σ : zS) (N : Nat) (x0 : Nat) (x1 : Int32) (X : zS) (hf : fX1_sendRecord σ x0 x1 = some X) : zMv l D Ca B En yX1_sendRecord cX1_sendRecord 4 (Option.none : Option Jvm.ClassFile.FieldType) 2 43 [.ref x0, .int x1] σ N X () :=
  zMet_v (own := RX1) hE (by decide +kernel) rfl (Nat.le_of_ble_eq_true rfl) (fun p e s m args below meth c C hr hRm => wfX1_sendRecord C hRm σ x0 x1 X hf (fun pc lv hd => zfin_v (r := ()) C hr hd))
theorem dX1_sendersTo_0 : decode cX1_sendersTo 0 = .ok (.iload_n 1, 1) := by decide +kernel
theorem dX1_sendersTo_1 : decode cX1_sendersTo 1 = .ok (.iconst 4, 1) := by decide +kernel
theorem dX1_sendersTo_2 : decode cX1_sendersTo 2 = .ok (.if_icmp .ge 13, 3) := by decide +kernel
theorem dX1_sendersTo_5 : decode cX1_sendersTo 5 = .ok (.aload_n 0, 1) := by decide +kernel
theorem dX1_sendersTo_6 : decode cX1_sendersTo 6 = .ok (.getfield 54, 3) := by decide +kernel
theorem dX1_sendersTo_9 : decode cX1_sendersTo 9 = .ok (.getfield 140, 3) := by decide +kernel
theorem dX1_sendersTo_12 : decode cX1_sendersTo 12 = .ok (.goto 7, 3) := by decide +kernel
theorem dX1_sendersTo_15 : decode cX1_sendersTo 15 = .ok (.aload_n 0, 1) := by decide +kernel
theorem dX1_sendersTo_16 : decode cX1_sendersTo 16 = .ok (.getfield 70, 3) := by decide +kernel
theorem dX1_sendersTo_19 : decode cX1_sendersTo 19 = .ok (.ireturn, 1) := by decide +kernel
theorem hyX1_sendersTo : yX1_sendersTo.cls ≠ "java/lang/invoke/MethodHandle" ∧ yX1_sendersTo.cls ≠ "java/lang/invoke/VarHandle" ∧ (parseMethodDescriptor yX1_sendersTo.desc).map (fun d => d.parameters.length) = some 1 := ⟨by decide +kernel, by decide +kernel, by decide +kernel⟩
set_option maxRecDepth 100000 in
set_option maxHeartbeats 4000000 in
theorem wfX1_sendersTo (C : zC p s m args meth c cX1_sendersTo RX1 2 D Ca B En) (hRm : zRm R 0 0 cells slots) (σ : zS) (x0 : Nat) (x1 : Int32) (τ : zS) (r : Int32) (hf : fX1_sendersTo σ x0 x1 = some (τ, r)) (hq : ∀ (pc : Nat) (lv : List (Nat × Value)), decode cX1_sendersTo pc = .ok (.ireturn, 1) → zW p l e R s m args below meth c cells slots Q D Ca B 2 τ N pc lv [.int r]) : zW p l e R s m args below meth c cells slots Q D Ca B 2 σ N 0 [(0, .ref x0), (1, .int x1)] [] := by
  unfold fX1_sendersTo at hf
  refine z_iload_n C dX1_sendersTo_0 rfl 1 rfl ?_
  refine z_iconst C (zi 4) dX1_sendersTo_1 (by decide) ?_
  refine z_icmp_ge C 15 dX1_sendersTo_2 (by decide) (fun q4 => ?_) (fun q4 => ?_)
  · rw [if_pos q4] at hf
    refine z_aload_n C dX1_sendersTo_15 rfl 0 rfl ?_
    obtain ⟨v1, hv1, hf⟩ := zbind hf
    refine gf_RX1_70 C hv1 dX1_sendersTo_16 ?_
    cases hf
    exact hq _ _ dX1_sendersTo_19
  · rw [if_neg q4] at hf
    refine z_aload_n C dX1_sendersTo_5 rfl 0 rfl ?_
    obtain ⟨v2, hv2, hf⟩ := zbind hf
    refine gf_RX1_54 C hv2 dX1_sendersTo_6 ?_
    obtain ⟨v3, hv3, hf⟩ := zbind hf
    refine gf_RX1_140 C hv3 dX1_sendersTo_9 ?_
    refine z_goto C 19 dX1_sendersTo_12 (by decide) ?_
    cases hf
    exact hq _ _ dX1_sendersTo_19

theorem mX1_sendersTo (l : Launch) (D : va_G) (Ca : Nat → ClassId) (B : Nat) (En : State → Prop) (hE : zEk B En) (σ : zS) (N : Nat) (x0 : Nat) (x1 : Int32) (X : zS × Int32) (hf : fX1_sendersTo σ x0 x1 = some X) : zMi l D Ca B En yX1_sendersTo cX1_sendersTo 2 (Option.some Jvm.ClassFile.FieldType.int) 0 0 [.ref x0, .int x1] σ N X.1 X.2 :=
  zMet_i (own := RX1) hE (by decide +kernel) rfl (Nat.le_of_ble_eq_true rfl) (fun p e s m args below meth c C hr hRm => wfX1_sendersTo C hRm σ x0 x1 X.1 X.2 hf (fun pc lv hd => zfin_i C hr hd))
theorem dX1_cut_0 : decode cX1_cut 0 = .ok (.iload_n 1, 1) := by decide +kernel
theorem dX1_cut_1 : decode cX1_cut 1 = .ok (.iconst 4, 1) := by decide +kernel
theorem dX1_cut_2 : decode cX1_cut 2 = .ok (.if_icmp .lt 23, 3) := by decide +kernel
theorem dX1_cut_5 : decode cX1_cut 5 = .ok (.iload_n 1, 1) := by decide +kernel
theorem dX1_cut_6 : decode cX1_cut 6 = .ok (.iconst 4, 1) := by decide +kernel
theorem dX1_cut_7 : decode cX1_cut 7 = .ok (.isub, 1) := by decide +kernel
theorem dX1_cut_8 : decode cX1_cut 8 = .ok (.istore_n 2, 1) := by decide +kernel
theorem dX1_cut_9 : decode cX1_cut 9 = .ok (.aload_n 0, 1) := by decide +kernel
theorem dX1_cut_10 : decode cX1_cut 10 = .ok (.getfield 30, 3) := by decide +kernel
theorem dX1_cut_13 : decode cX1_cut 13 = .ok (.bipush 24, 2) := by decide +kernel
theorem dX1_cut_15 : decode cX1_cut 15 = .ok (.iload_n 2, 1) := by decide +kernel
theorem dX1_cut_16 : decode cX1_cut 16 = .ok (.iadd, 1) := by decide +kernel
theorem dX1_cut_17 : decode cX1_cut 17 = .ok (.bipush 26, 2) := by decide +kernel
theorem dX1_cut_19 : decode cX1_cut 19 = .ok (.iload_n 2, 1) := by decide +kernel
theorem dX1_cut_20 : decode cX1_cut 20 = .ok (.iadd, 1) := by decide +kernel
theorem dX1_cut_21 : decode cX1_cut 21 = .ok (.invokevirtual 176, 3) := by decide +kernel
theorem dX1_cut_24 : decode cX1_cut 24 = .ok (.return_, 1) := by decide +kernel
theorem dX1_cut_25 : decode cX1_cut 25 = .ok (.iconst 0, 1) := by decide +kernel
theorem dX1_cut_26 : decode cX1_cut 26 = .ok (.istore_n 2, 1) := by decide +kernel
theorem dX1_cut_27 : decode cX1_cut 27 = .ok (.iload_n 2, 1) := by decide +kernel
theorem dX1_cut_28 : decode cX1_cut 28 = .ok (.bipush 16, 2) := by decide +kernel
theorem dX1_cut_30 : decode cX1_cut 30 = .ok (.if_icmp .ge 36, 3) := by decide +kernel
theorem dX1_cut_33 : decode cX1_cut 33 = .ok (.iload_n 2, 1) := by decide +kernel
theorem dX1_cut_34 : decode cX1_cut 34 = .ok (.aload_n 0, 1) := by decide +kernel
theorem dX1_cut_35 : decode cX1_cut 35 = .ok (.getfield 70, 3) := by decide +kernel
theorem dX1_cut_38 : decode cX1_cut 38 = .ok (.invokestatic 206, 3) := by decide +kernel
theorem dX1_cut_41 : decode cX1_cut 41 = .ok (.iload_n 1, 1) := by decide +kernel
theorem dX1_cut_42 : decode cX1_cut 42 = .ok (.if_icmp .ne 18, 3) := by decide +kernel
theorem dX1_cut_45 : decode cX1_cut 45 = .ok (.aload_n 0, 1) := by decide +kernel
theorem dX1_cut_46 : decode cX1_cut 46 = .ok (.getfield 37, 3) := by decide +kernel
theorem dX1_cut_49 : decode cX1_cut 49 = .ok (.getfield 273, 3) := by decide +kernel
theorem dX1_cut_52 : decode cX1_cut 52 = .ok (.iload_n 2, 1) := by decide +kernel
theorem dX1_cut_53 : decode cX1_cut 53 = .ok (.aload_n 0, 1) := by decide +kernel
theorem dX1_cut_54 : decode cX1_cut 54 = .ok (.getfield 18, 3) := by decide +kernel
theorem dX1_cut_57 : decode cX1_cut 57 = .ok (.iload_n 2, 1) := by decide +kernel
theorem dX1_cut_58 : decode cX1_cut 58 = .ok (.iaload, 1) := by decide +kernel
theorem dX1_cut_59 : decode cX1_cut 59 = .ok (.iastore, 1) := by decide +kernel
theorem dX1_cut_60 : decode cX1_cut 60 = .ok (.iinc 2 1, 3) := by decide +kernel
theorem dX1_cut_63 : decode cX1_cut 63 = .ok (.goto (-36), 3) := by decide +kernel
theorem dX1_cut_66 : decode cX1_cut 66 = .ok (.iconst 0, 1) := by decide +kernel
theorem dX1_cut_67 : decode cX1_cut 67 = .ok (.istore_n 2, 1) := by decide +kernel
theorem dX1_cut_68 : decode cX1_cut 68 = .ok (.iload_n 2, 1) := by decide +kernel
theorem dX1_cut_69 : decode cX1_cut 69 = .ok (.aload_n 0, 1) := by decide +kernel
theorem dX1_cut_70 : decode cX1_cut 70 = .ok (.getfield 54, 3) := by decide +kernel
theorem dX1_cut_73 : decode cX1_cut 73 = .ok (.getfield 161, 3) := by decide +kernel
theorem dX1_cut_76 : decode cX1_cut 76 = .ok (.if_icmp .ge 31, 3) := by decide +kernel
theorem dX1_cut_79 : decode cX1_cut 79 = .ok (.iconst 4, 1) := by decide +kernel
theorem dX1_cut_80 : decode cX1_cut 80 = .ok (.iload_n 2, 1) := by decide +kernel
theorem dX1_cut_81 : decode cX1_cut 81 = .ok (.iadd, 1) := by decide +kernel
theorem dX1_cut_82 : decode cX1_cut 82 = .ok (.iload_n 1, 1) := by decide +kernel
theorem dX1_cut_83 : decode cX1_cut 83 = .ok (.invokestatic 190, 3) := by decide +kernel
theorem dX1_cut_86 : decode cX1_cut 86 = .ok (.istore_n 3, 1) := by decide +kernel
theorem dX1_cut_87 : decode cX1_cut 87 = .ok (.aload_n 0, 1) := by decide +kernel
theorem dX1_cut_88 : decode cX1_cut 88 = .ok (.getfield 47, 3) := by decide +kernel
theorem dX1_cut_91 : decode cX1_cut 91 = .ok (.iload_n 3, 1) := by decide +kernel
theorem dX1_cut_92 : decode cX1_cut 92 = .ok (.aload_n 0, 1) := by decide +kernel
theorem dX1_cut_93 : decode cX1_cut 93 = .ok (.getfield 30, 3) := by decide +kernel
theorem dX1_cut_96 : decode cX1_cut 96 = .ok (.iload_n 3, 1) := by decide +kernel
theorem dX1_cut_97 : decode cX1_cut 97 = .ok (.invokevirtual 194, 3) := by decide +kernel
theorem dX1_cut_100 : decode cX1_cut 100 = .ok (.iastore, 1) := by decide +kernel
theorem dX1_cut_101 : decode cX1_cut 101 = .ok (.iinc 2 1, 3) := by decide +kernel
theorem dX1_cut_104 : decode cX1_cut 104 = .ok (.goto (-36), 3) := by decide +kernel
theorem dX1_cut_107 : decode cX1_cut 107 = .ok (.return_, 1) := by decide +kernel
theorem hyX1_cut : yX1_cut.cls ≠ "java/lang/invoke/MethodHandle" ∧ yX1_cut.cls ≠ "java/lang/invoke/VarHandle" ∧ (parseMethodDescriptor yX1_cut.desc).map (fun d => d.parameters.length) = some 1 := ⟨by decide +kernel, by decide +kernel, by decide +kernel⟩
set_option maxRecDepth 100000 in
set_option maxHeartbeats 4000000 in
theorem wjX1_cut_60_L27 (C : zC p s m args meth c cX1_cut RX1 4 D Ca B En) (hRm : zRm R 2 44 cells slots) (σ : zS) (x0 : Nat) (x1 : Int32) (x2 : Int32)  (y : (zS × Int32) ⊕ zS) (hf : jX1_cut_60_L27 σ x0 x1 x2  = some y) (hk : (∀ z : (zS × Int32), y = .inl z → zW p l e R s m args below meth c cells slots Q D Ca B 4 z.1 N 27 [(0, .ref x0), (1, .int x1), (2, .int z.2)] []) ∧ (∀ z : zS, y = .inr z → zW p l e R s m args below meth c cells slots Q D Ca B 4 z N 66 [(0, .ref x0), (1, .int x1)] [])) : zW p l e R s m args below meth c cells slots Q D Ca B 4 σ N 60 [(0, .ref x0), (1, .int x1), (2, .int x2)] [] := by
  unfold jX1_cut_60_L27 at hf
  refine z_iinc (lv2 := [(2, .int (x2 + (zi 1))), (0, .ref x0), (1, .int x1)]) C (x2 + (zi 1)) dX1_cut_60 2 rfl rfl (by decide) rfl ?_
  refine z_goto C 27 dX1_cut_63 (by decide) ?_
  cases hf
  refine z_sub [1, 2, 0] rfl ?_
  exact hk.1 _ rfl

set_option maxRecDepth 100000 in
set_option maxHeartbeats 4000000 in
theorem wsX1_cut_27b (C : zC p s m args meth c cX1_cut RX1 4 D Ca B En) (hRm : zRm R 2 44 cells slots) (x0 : Nat) (x1 : Int32) (σ : zS) (u2 : Int32) (y : (zS × Int32) ⊕ zS) (hf : sX1_cut_27b x0 x1 σ u2 = some y) (hk : (∀ z : (zS × Int32), y = .inl z → zW p l e R s m args below meth c cells slots Q D Ca B 4 z.1 N 27 [(0, .ref x0), (1, .int x1), (2, .int z.2)] []) ∧ (∀ z : zS, y = .inr z → zW p l e R s m args below meth c cells slots Q D Ca B 4 z N 66 [(0, .ref x0), (1, .int x1)] [])) : zW p l e R s m args below meth c cells slots Q D Ca B 4 σ N 27 [(0, .ref x0), (1, .int x1), (2, .int u2)] [] := by
  unfold sX1_cut_27b at hf
  refine z_iload_n C dX1_cut_27 rfl 2 rfl ?_
  refine z_bipush C (zi 16) dX1_cut_28 (by decide) ?_
  refine z_icmp_ge C 66 dX1_cut_30 (by decide) (fun q9 => ?_) (fun q9 => ?_)
  · rw [if_pos q9] at hf
    cases hf
    refine z_sub [0, 1] rfl ?_
    exact hk.2 _ rfl
  · rw [if_neg q9] at hf
    refine z_iload_n C dX1_cut_33 rfl 2 rfl ?_
    refine z_aload_n C dX1_cut_34 rfl 0 rfl ?_
    obtain ⟨v1, hv1, hf⟩ := zbind hf
    refine gf_RX1_70 C hv1 dX1_cut_35 ?_
    obtain ⟨c2, hc2, hf⟩ := zbind hf
    refine z_callSNi (host := "BarrierFlow") (As := [.int u2, .int v1]) (F0 := 2) (L0 := 44) C (mX9_ownerOf l D Ca B En C.2.2.2.2.2.2.2.1 σ N u2 v1 _ hc2) hRm kw_641 kw_1 (by decide) kw_640 hyX9_ownerOf (Nat.le_of_ble_eq_true rfl) (Nat.le_of_ble_eq_true rfl) rfl rfl (Nat.le_of_ble_eq_true rfl) dX1_cut_38 ?_
    refine z_iload_n C dX1_cut_41 rfl 1 rfl ?_
    refine z_icmp_ne C 60 dX1_cut_42 (by decide) (fun q8 => ?_) (fun q8 => ?_)
    · rw [if_neg q8] at hf
      refine z_sub [0, 1, 2] rfl ?_
      exact wjX1_cut_60_L27 C hRm _ _ _ _  _ hf hk
    · rw [if_pos q8] at hf
      refine z_aload_n C dX1_cut_45 rfl 0 rfl ?_
      obtain ⟨v3, hv3, hf⟩ := zbind hf
      refine gf_RX1_37 C hv3 dX1_cut_46 ?_
      obtain ⟨v4, hv4, hf⟩ := zbind hf
      refine gf_RX1_273 C hv4 dX1_cut_49 ?_
      refine z_iload_n C dX1_cut_52 rfl 2 rfl ?_
      refine z_aload_n C dX1_cut_53 rfl 0 rfl ?_
      obtain ⟨v5, hv5, hf⟩ := zbind hf
      refine gf_RX1_18 C hv5 dX1_cut_54 ?_
      refine z_iload_n C dX1_cut_57 rfl 2 rfl ?_
      obtain ⟨v6, hv6, hf⟩ := zbind hf
      refine z_aI C hv6 dX1_cut_58 ?_
      obtain ⟨σ7, hσ7, hf⟩ := zbind hf
      refine z_sI C hσ7 dX1_cut_59 ?_
      refine z_sub [0, 1, 2] rfl ?_
      exact wjX1_cut_60_L27 C hRm _ _ _ _  _ hf hk

theorem wsX1_cut_27 (C : zC p s m args meth c cX1_cut RX1 4 D Ca B En) (hRm : zRm R 2 44 cells slots) (x0 : Nat) (x1 : Int32) (n : Nat) (z : (zS × Int32)) (x : zS) (hf : zloop (sX1_cut_27 x0 x1) n z = some x) (hk : (∀ o : zS, x = o → zW p l e R s m args below meth c cells slots Q D Ca B 4 o N 66 [(0, .ref x0), (1, .int x1)] [])) : zW p l e R s m args below meth c cells slots Q D Ca B 4 z.1 N 27 [(0, .ref x0), (1, .int x1), (2, .int z.2)] [] := by
  refine zloop_W (P := fun z : (zS × Int32) => zW p l e R s m args below meth c cells slots Q D Ca B 4 z.1 N 27 [(0, .ref x0), (1, .int x1), (2, .int z.2)] []) (K := fun x : zS => (∀ o : zS, x = o → zW p l e R s m args below meth c cells slots Q D Ca B 4 o N 66 [(0, .ref x0), (1, .int x1)] [])) ?_ n z x hf hk
  intro z y hy h1 h2
  refine wsX1_cut_27b C hRm x0 x1 z.1 z.2 y hy ⟨fun z2 e => h1 z2 e, fun o e => (h2 _ e) o rfl⟩
set_option maxRecDepth 100000 in
set_option maxHeartbeats 4000000 in
theorem wsX1_cut_68b (C : zC p s m args meth c cX1_cut RX1 4 D Ca B En) (hRm : zRm R 2 44 cells slots) (x0 : Nat) (x1 : Int32) (σ : zS) (u2 : Int32) (y : (zS × Int32) ⊕ zS) (hf : sX1_cut_68b x0 x1 σ u2 = some y) (hk : (∀ z : (zS × Int32), y = .inl z → zW p l e R s m args below meth c cells slots Q D Ca B 4 z.1 N 68 [(0, .ref x0), (1, .int x1), (2, .int z.2)] []) ∧ (∀ z : zS, y = .inr z → zW p l e R s m args below meth c cells slots Q D Ca B 4 z N 107 [] [])) : zW p l e R s m args below meth c cells slots Q D Ca B 4 σ N 68 [(0, .ref x0), (1, .int x1), (2, .int u2)] [] := by
  unfold sX1_cut_68b at hf
  refine z_iload_n C dX1_cut_68 rfl 2 rfl ?_
  refine z_aload_n C dX1_cut_69 rfl 0 rfl ?_
  obtain ⟨v11, hv11, hf⟩ := zbind hf
  refine gf_RX1_54 C hv11 dX1_cut_70 ?_
  obtain ⟨v12, hv12, hf⟩ := zbind hf
  refine gf_RX1_161 C hv12 dX1_cut_73 ?_
  refine z_icmp_ge C 107 dX1_cut_76 (by decide) (fun q18 => ?_) (fun q18 => ?_)
  · rw [if_pos q18] at hf
    cases hf
    refine z_sub [] rfl ?_
    exact hk.2 _ rfl
  · rw [if_neg q18] at hf
    refine z_iconst C (zi 4) dX1_cut_79 (by decide) ?_
    refine z_iload_n C dX1_cut_80 rfl 2 rfl ?_
    refine z_iadd C dX1_cut_81 ?_
    refine z_iload_n C dX1_cut_82 rfl 1 rfl ?_
    obtain ⟨c13, hc13, hf⟩ := zbind hf
    refine z_callSNi (host := "BarrierFlow") (As := [.int (((zi 4)) + u2), .int x1]) (F0 := 2) (L0 := 44) C (mX9_channel l D Ca B En C.2.2.2.2.2.2.2.1 σ N (((zi 4)) + u2) x1 _ hc13) hRm kw_629 kw_1 (by decide) kw_628 hyX9_channel (Nat.le_of_ble_eq_true rfl) (Nat.le_of_ble_eq_true rfl) rfl rfl (Nat.le_of_ble_eq_true rfl) dX1_cut_83 ?_
    refine z_istore_n (lv2 := [(3, .int c13.2), (0, .ref x0), (1, .int x1), (2, .int u2)]) C dX1_cut_86 rfl (by decide) rfl ?_
    refine z_aload_n C dX1_cut_87 rfl 1 rfl ?_
    obtain ⟨v14, hv14, hf⟩ := zbind hf
    refine gf_RX1_47 C hv14 dX1_cut_88 ?_
    refine z_iload_n C dX1_cut_91 rfl 0 rfl ?_
    refine z_aload_n C dX1_cut_92 rfl 1 rfl ?_
    obtain ⟨v15, hv15, hf⟩ := zbind hf
    refine gf_RX1_30 C hv15 dX1_cut_93 ?_
    refine z_iload_n C dX1_cut_96 rfl 0 rfl ?_
    obtain ⟨c16, hc16, hf⟩ := zbind hf
    obtain ⟨kc16, hc16⟩ := zck_ok hc16
    refine z_callVi (As := [.int c13.2]) (F0 := 2) (L0 := 44) C (mX3_sizeOf l D Ca B En C.2.2.2.2.2.2.2.1 c13.1 N v15 c13.2 _ hc16) hRm kc16 rfl kw_340 kw_9 kw_337 kw_338 kw_339 hyX3_sizeOf (Nat.le_of_ble_eq_true rfl) (Nat.le_of_ble_eq_true rfl) rfl rfl (Nat.le_of_ble_eq_true rfl) dX1_cut_97 ?_
    obtain ⟨σ17, hσ17, hf⟩ := zbind hf
    refine z_sI C hσ17 dX1_cut_100 ?_
    refine z_iinc (lv2 := [(2, .int (u2 + (zi 1))), (3, .int c13.2), (0, .ref x0), (1, .int x1)]) C (u2 + (zi 1)) dX1_cut_101 3 rfl rfl (by decide) rfl ?_
    refine z_goto C 68 dX1_cut_104 (by decide) ?_
    cases hf
    refine z_sub [2, 3, 0] rfl ?_
    exact hk.1 _ rfl

theorem wsX1_cut_68 (C : zC p s m args meth c cX1_cut RX1 4 D Ca B En) (hRm : zRm R 2 44 cells slots) (x0 : Nat) (x1 : Int32) (n : Nat) (z : (zS × Int32)) (x : zS) (hf : zloop (sX1_cut_68 x0 x1) n z = some x) (hk : (∀ o : zS, x = o → zW p l e R s m args below meth c cells slots Q D Ca B 4 o N 107 [] [])) : zW p l e R s m args below meth c cells slots Q D Ca B 4 z.1 N 68 [(0, .ref x0), (1, .int x1), (2, .int z.2)] [] := by
  refine zloop_W (P := fun z : (zS × Int32) => zW p l e R s m args below meth c cells slots Q D Ca B 4 z.1 N 68 [(0, .ref x0), (1, .int x1), (2, .int z.2)] []) (K := fun x : zS => (∀ o : zS, x = o → zW p l e R s m args below meth c cells slots Q D Ca B 4 o N 107 [] [])) ?_ n z x hf hk
  intro z y hy h1 h2
  refine wsX1_cut_68b C hRm x0 x1 z.1 z.2 y hy ⟨fun z2 e => h1 z2 e, fun o e => (h2 _ e) o rfl⟩
set_option maxRecDepth 100000 in
set_option maxHeartbeats 4000000 in
theorem wfX1_cut (C : zC p s m args meth c cX1_cut RX1 4 D Ca B En) (hRm : zRm R 2 44 cells slots) (σ : zS) (x0 : Nat) (x1 : Int32) (τ : zS) (hf : fX1_cut σ x0 x1 = some τ) (hq : ∀ (pc : Nat) (lv : List (Nat × Value)), decode cX1_cut pc = .ok (.return_, 1) → zW p l e R s m args below meth c cells slots Q D Ca B 4 τ N pc lv []) : zW p l e R s m args below meth c cells slots Q D Ca B 4 σ N 0 [(0, .ref x0), (1, .int x1)] [] := by
  unfold fX1_cut at hf
  refine z_iload_n C dX1_cut_0 rfl 1 rfl ?_
  refine z_iconst C (zi 4) dX1_cut_1 (by decide) ?_
  refine z_icmp_lt C 25 dX1_cut_2 (by decide) (fun q22 => ?_) (fun q22 => ?_)
  · rw [if_pos q22] at hf
    refine z_iconst C (zi 0) dX1_cut_25 (by decide) ?_
    refine z_istore_n (lv2 := [(2, .int ((zi 0))), (0, .ref x0), (1, .int x1)]) C dX1_cut_26 rfl (by decide) rfl ?_
    obtain ⟨o10, ho10, hf⟩ := zbind hf
    refine z_sub [1, 2, 0] rfl ?_
    refine wsX1_cut_27 C hRm _ _ zfuel (σ, (zi 0)) o10 ho10 ?_
    intro z9 e9
    subst e9
    refine z_iconst C (zi 0) dX1_cut_66 (by decide) ?_
    refine z_istore_n (lv2 := [(2, .int ((zi 0))), (0, .ref x0), (1, .int x1)]) C dX1_cut_67 rfl (by decide) rfl ?_
    obtain ⟨o19, ho19, hf⟩ := zbind hf
    refine z_sub [1, 2, 0] rfl ?_
    refine wsX1_cut_68 C hRm _ _ zfuel (o10, (zi 0)) o19 ho19 ?_
    intro z9 e9
    subst e9
    cases hf
    exact hq _ _ dX1_cut_107
  · rw [if_neg q22] at hf
    refine z_iload_n C dX1_cut_5 rfl 1 rfl ?_
    refine z_iconst C (zi 4) dX1_cut_6 (by decide) ?_
    refine z_isub C dX1_cut_7 ?_
    refine z_istore_n (lv2 := [(2, .int (x1 - ((zi 4)))), (0, .ref x0), (1, .int x1)]) C dX1_cut_8 rfl (by decide) rfl ?_
    refine z_aload_n C dX1_cut_9 rfl 1 rfl ?_
    obtain ⟨v20, hv20, hf⟩ := zbind hf
    refine gf_RX1_30 C hv20 dX1_cut_10 ?_
    refine z_bipush C (zi 24) dX1_cut_13 (by decide) ?_
    refine z_iload_n C dX1_cut_15 rfl 0 rfl ?_
    refine z_iadd C dX1_cut_16 ?_
    refine z_bipush C (zi 26) dX1_cut_17 (by decide) ?_
    refine z_iload_n C dX1_cut_19 rfl 0 rfl ?_
    refine z_iadd C dX1_cut_20 ?_
    obtain ⟨c21, hc21, hf⟩ := zbind hf
    obtain ⟨kc21, hc21⟩ := zck_ok hc21
    refine z_callVv (As := [.int (((zi 24)) + (x1 - ((zi 4)))), .int (((zi 26)) + (x1 - ((zi 4))))]) (F0 := 2) (L0 := 44) C (mX3_moveAll l D Ca B En C.2.2.2.2.2.2.2.1 σ N v20 (((zi 24)) + (x1 - ((zi 4)))) (((zi 26)) + (x1 - ((zi 4)))) _ hc21) hRm kc21 rfl kw_320 kw_9 kw_317 kw_318 kw_319 hyX3_moveAll (Nat.le_of_ble_eq_true rfl) (Nat.le_of_ble_eq_true rfl) rfl rfl (Nat.le_of_ble_eq_true rfl) dX1_cut_21 ?_
    cases hf
    exact hq _ _ dX1_cut_24

theorem mX1_cut (l : Launch) (D : va_G) (Ca : Nat → ClassId) (B : Nat) (En : State → Prop) (hE : zEk B En) (σ : zS) (N : Nat) (x0 : Nat) (x1 : Int32) (X : zS) (hf : fX1_cut σ x0 x1 = some X) : zMv l D Ca B En yX1_cut cX1_cut 4 (Option.none : Option Jvm.ClassFile.FieldType) 2 44 [.ref x0, .int x1] σ N X () :=
  zMet_v (own := RX1) hE (by decide +kernel) rfl (Nat.le_of_ble_eq_true rfl) (fun p e s m args below meth c C hr hRm => wfX1_cut C hRm σ x0 x1 X hf (fun pc lv hd => zfin_v (r := ()) C hr hd))
theorem dX1_keepFirst_0 : decode cX1_keepFirst 0 = .ok (.aload_n 0, 1) := by decide +kernel
theorem dX1_keepFirst_1 : decode cX1_keepFirst 1 = .ok (.getfield 37, 3) := by decide +kernel
theorem dX1_keepFirst_4 : decode cX1_keepFirst 4 = .ok (.dup, 1) := by decide +kernel
theorem dX1_keepFirst_5 : decode cX1_keepFirst 5 = .ok (.getfield 264, 3) := by decide +kernel
theorem dX1_keepFirst_8 : decode cX1_keepFirst 8 = .ok (.iload_n 2, 1) := by decide +kernel
theorem dX1_keepFirst_9 : decode cX1_keepFirst 9 = .ok (.iadd, 1) := by decide +kernel
theorem dX1_keepFirst_10 : decode cX1_keepFirst 10 = .ok (.putfield 264, 3) := by decide +kernel
theorem dX1_keepFirst_13 : decode cX1_keepFirst 13 = .ok (.aload_n 0, 1) := by decide +kernel
theorem dX1_keepFirst_14 : decode cX1_keepFirst 14 = .ok (.getfield 30, 3) := by decide +kernel
theorem dX1_keepFirst_17 : decode cX1_keepFirst 17 = .ok (.iload_n 1, 1) := by decide +kernel
theorem dX1_keepFirst_18 : decode cX1_keepFirst 18 = .ok (.invokevirtual 225, 3) := by decide +kernel
theorem dX1_keepFirst_21 : decode cX1_keepFirst 21 = .ok (.istore_n 3, 1) := by decide +kernel
theorem dX1_keepFirst_22 : decode cX1_keepFirst 22 = .ok (.iconst 0, 1) := by decide +kernel
theorem dX1_keepFirst_23 : decode cX1_keepFirst 23 = .ok (.istore 4, 2) := by decide +kernel
theorem dX1_keepFirst_25 : decode cX1_keepFirst 25 = .ok (.iload 4, 2) := by decide +kernel
theorem dX1_keepFirst_27 : decode cX1_keepFirst 27 = .ok (.iload_n 2, 1) := by decide +kernel
theorem dX1_keepFirst_28 : decode cX1_keepFirst 28 = .ok (.if_icmp .ge 30, 3) := by decide +kernel
theorem dX1_keepFirst_31 : decode cX1_keepFirst 31 = .ok (.aload_n 0, 1) := by decide +kernel
theorem dX1_keepFirst_32 : decode cX1_keepFirst 32 = .ok (.getfield 37, 3) := by decide +kernel
theorem dX1_keepFirst_35 : decode cX1_keepFirst 35 = .ok (.getfield 267, 3) := by decide +kernel
theorem dX1_keepFirst_38 : decode cX1_keepFirst 38 = .ok (.iload_n 1, 1) := by decide +kernel
theorem dX1_keepFirst_39 : decode cX1_keepFirst 39 = .ok (.iload_n 3, 1) := by decide +kernel
theorem dX1_keepFirst_40 : decode cX1_keepFirst 40 = .ok (.invokevirtual 209, 3) := by decide +kernel
theorem dX1_keepFirst_43 : decode cX1_keepFirst 43 = .ok (.aload_n 0, 1) := by decide +kernel
theorem dX1_keepFirst_44 : decode cX1_keepFirst 44 = .ok (.getfield 30, 3) := by decide +kernel
theorem dX1_keepFirst_47 : decode cX1_keepFirst 47 = .ok (.iload_n 3, 1) := by decide +kernel
theorem dX1_keepFirst_48 : decode cX1_keepFirst 48 = .ok (.invokevirtual 270, 3) := by decide +kernel
theorem dX1_keepFirst_51 : decode cX1_keepFirst 51 = .ok (.istore_n 3, 1) := by decide +kernel
theorem dX1_keepFirst_52 : decode cX1_keepFirst 52 = .ok (.iinc 4 1, 3) := by decide +kernel
theorem dX1_keepFirst_55 : decode cX1_keepFirst 55 = .ok (.goto (-30), 3) := by decide +kernel
theorem dX1_keepFirst_58 : decode cX1_keepFirst 58 = .ok (.return_, 1) := by decide +kernel
theorem hyX1_keepFirst : yX1_keepFirst.cls ≠ "java/lang/invoke/MethodHandle" ∧ yX1_keepFirst.cls ≠ "java/lang/invoke/VarHandle" ∧ (parseMethodDescriptor yX1_keepFirst.desc).map (fun d => d.parameters.length) = some 2 := ⟨by decide +kernel, by decide +kernel, by decide +kernel⟩
set_option maxRecDepth 100000 in
set_option maxHeartbeats 4000000 in
theorem wsX1_keepFirst_25b (C : zC p s m args meth c cX1_keepFirst RX1 5 D Ca B En) (hRm : zRm R 2 43 cells slots) (x0 : Nat) (x1 : Int32) (x2 : Int32) (σ : zS) (u3 : Int32) (u4 : Int32) (y : (zS × Int32 × Int32) ⊕ zS) (hf : sX1_keepFirst_25b x0 x1 x2 σ u3 u4 = some y) (hk : (∀ z : (zS × Int32 × Int32), y = .inl z → zW p l e R s m args below meth c cells slots Q D Ca B 5 z.1 N 25 [(0, .ref x0), (1, .int x1), (2, .int x2), (3, .int z.2.1), (4, .int z.2.2)] []) ∧ (∀ z : zS, y = .inr z → zW p l e R s m args below meth c cells slots Q D Ca B 5 z N 58 [] [])) : zW p l e R s m args below meth c cells slots Q D Ca B 5 σ N 25 [(0, .ref x0), (1, .int x1), (2, .int x2), (3, .int u3), (4, .int u4)] [] := by
  unfold sX1_keepFirst_25b at hf
  refine z_iload C dX1_keepFirst_25 4 rfl ?_
  refine z_iload_n C dX1_keepFirst_27 rfl 2 rfl ?_
  refine z_icmp_ge C 58 dX1_keepFirst_28 (by decide) (fun q11 => ?_) (fun q11 => ?_)
  · rw [if_pos q11] at hf
    cases hf
    refine z_sub [] rfl ?_
    exact hk.2 _ rfl
  · rw [if_neg q11] at hf
    refine z_aload_n C dX1_keepFirst_31 rfl 0 rfl ?_
    obtain ⟨v6, hv6, hf⟩ := zbind hf
    refine gf_RX1_37 C hv6 dX1_keepFirst_32 ?_
    obtain ⟨v7, hv7, hf⟩ := zbind hf
    refine gf_RX1_267 C hv7 dX1_keepFirst_35 ?_
    refine z_iload_n C dX1_keepFirst_38 rfl 1 rfl ?_
    refine z_iload_n C dX1_keepFirst_39 rfl 3 rfl ?_
    obtain ⟨c8, hc8, hf⟩ := zbind hf
    obtain ⟨kc8, hc8⟩ := zck_ok hc8
    refine z_callVv (As := [.int x1, .int u3]) (F0 := 2) (L0 := 43) C (mX3_add l D Ca B En C.2.2.2.2.2.2.2.1 σ N v7 x1 u3 _ hc8) hRm kc8 rfl kw_344 kw_9 kw_341 kw_342 kw_343 hyX3_add (Nat.le_of_ble_eq_true rfl) (Nat.le_of_ble_eq_true rfl) rfl rfl (Nat.le_of_ble_eq_true rfl) dX1_keepFirst_40 ?_
    refine z_aload_n C dX1_keepFirst_43 rfl 0 rfl ?_
    obtain ⟨v9, hv9, hf⟩ := zbind hf
    refine gf_RX1_30 C hv9 dX1_keepFirst_44 ?_
    refine z_iload_n C dX1_keepFirst_47 rfl 3 rfl ?_
    obtain ⟨c10, hc10, hf⟩ := zbind hf
    obtain ⟨kc10, hc10⟩ := zck_ok hc10
    refine z_callVi (As := [.int u3]) (F0 := 2) (L0 := 43) C (mX3_behind l D Ca B En C.2.2.2.2.2.2.2.1 c8 N v9 u3 _ hc10) hRm kc10 rfl kw_348 kw_9 kw_345 kw_346 kw_347 hyX3_behind (Nat.le_of_ble_eq_true rfl) (Nat.le_of_ble_eq_true rfl) rfl rfl (Nat.le_of_ble_eq_true rfl) dX1_keepFirst_48 ?_
    refine z_istore_n (lv2 := [(3, .int c10.2), (0, .ref x0), (1, .int x1), (2, .int x2), (4, .int u4)]) C dX1_keepFirst_51 rfl (by decide) rfl ?_
    refine z_iinc (lv2 := [(4, .int (u4 + (zi 1))), (3, .int c10.2), (0, .ref x0), (1, .int x1), (2, .int x2)]) C (u4 + (zi 1)) dX1_keepFirst_52 4 rfl rfl (by decide) rfl ?_
    refine z_goto C 25 dX1_keepFirst_55 (by decide) ?_
    cases hf
    refine z_sub [2, 3, 4, 1, 0] rfl ?_
    exact hk.1 _ rfl

theorem wsX1_keepFirst_25 (C : zC p s m args meth c cX1_keepFirst RX1 5 D Ca B En) (hRm : zRm R 2 43 cells slots) (x0 : Nat) (x1 : Int32) (x2 : Int32) (n : Nat) (z : (zS × Int32 × Int32)) (x : zS) (hf : zloop (sX1_keepFirst_25 x0 x1 x2) n z = some x) (hk : (∀ o : zS, x = o → zW p l e R s m args below meth c cells slots Q D Ca B 5 o N 58 [] [])) : zW p l e R s m args below meth c cells slots Q D Ca B 5 z.1 N 25 [(0, .ref x0), (1, .int x1), (2, .int x2), (3, .int z.2.1), (4, .int z.2.2)] [] := by
  refine zloop_W (P := fun z : (zS × Int32 × Int32) => zW p l e R s m args below meth c cells slots Q D Ca B 5 z.1 N 25 [(0, .ref x0), (1, .int x1), (2, .int x2), (3, .int z.2.1), (4, .int z.2.2)] []) (K := fun x : zS => (∀ o : zS, x = o → zW p l e R s m args below meth c cells slots Q D Ca B 5 o N 58 [] [])) ?_ n z x hf hk
  intro z y hy h1 h2
  refine wsX1_keepFirst_25b C hRm x0 x1 x2 z.1 z.2.1 z.2.2 y hy ⟨fun z2 e => h1 z2 e, fun o e => (h2 _ e) o rfl⟩
set_option maxRecDepth 100000 in
set_option maxHeartbeats 4000000 in
theorem wfX1_keepFirst (C : zC p s m args meth c cX1_keepFirst RX1 5 D Ca B En) (hRm : zRm R 2 43 cells slots) (σ : zS) (x0 : Nat) (x1 : Int32) (x2 : Int32) (τ : zS) (hf : fX1_keepFirst σ x0 x1 x2 = some τ) (hq : ∀ (pc : Nat) (lv : List (Nat × Value)), decode cX1_keepFirst pc = .ok (.return_, 1) → zW p l e R s m args below meth c cells slots Q D Ca B 5 τ N pc lv []) : zW p l e R s m args below meth c cells slots Q D Ca B 5 σ N 0 [(0, .ref x0), (1, .int x1), (2, .int x2)] [] := by
  unfold fX1_keepFirst at hf
  refine z_aload_n C dX1_keepFirst_0 rfl 0 rfl ?_
  obtain ⟨v1, hv1, hf⟩ := zbind hf
  refine gf_RX1_37 C hv1 dX1_keepFirst_1 ?_
  refine z_dup C dX1_keepFirst_4 rfl ?_
  obtain ⟨v2, hv2, hf⟩ := zbind hf
  refine gf_RX1_264 C hv2 dX1_keepFirst_5 ?_
  refine z_iload_n C dX1_keepFirst_8 rfl 2 rfl ?_
  refine z_iadd C dX1_keepFirst_9 ?_
  obtain ⟨σ3, hσ3, hf⟩ := zbind hf
  refine gp_RX1_264 C hσ3 dX1_keepFirst_10 ?_
  refine z_aload_n C dX1_keepFirst_13 rfl 0 rfl ?_
  obtain ⟨v4, hv4, hf⟩ := zbind hf
  refine gf_RX1_30 C hv4 dX1_keepFirst_14 ?_
  refine z_iload_n C dX1_keepFirst_17 rfl 1 rfl ?_
  obtain ⟨c5, hc5, hf⟩ := zbind hf
  obtain ⟨kc5, hc5⟩ := zck_ok hc5
  refine z_callVi (As := [.int x1]) (F0 := 2) (L0 := 43) C (mX3_firstOf l D Ca B En C.2.2.2.2.2.2.2.1 σ3 N v4 x1 _ hc5) hRm kc5 rfl kw_336 kw_9 kw_333 kw_334 kw_335 hyX3_firstOf (Nat.le_of_ble_eq_true rfl) (Nat.le_of_ble_eq_true rfl) rfl rfl (Nat.le_of_ble_eq_true rfl) dX1_keepFirst_18 ?_
  refine z_istore_n (lv2 := [(3, .int c5.2), (0, .ref x0), (1, .int x1), (2, .int x2)]) C dX1_keepFirst_21 rfl (by decide) rfl ?_
  refine z_iconst C (zi 0) dX1_keepFirst_22 (by decide) ?_
  refine z_istore (lv2 := [(4, .int ((zi 0))), (3, .int c5.2), (0, .ref x0), (1, .int x1), (2, .int x2)]) C dX1_keepFirst_23 (by decide) rfl ?_
  obtain ⟨o12, ho12, hf⟩ := zbind hf
  refine z_sub [2, 3, 4, 1, 0] rfl ?_
  refine wsX1_keepFirst_25 C hRm _ _ _ zfuel (c5.1, c5.2, (zi 0)) o12 ho12 ?_
  intro z9 e9
  subst e9
  cases hf
  exact hq _ _ dX1_keepFirst_58

theorem mX1_keepFirst (l : Launch) (D : va_G) (Ca : Nat → ClassId) (B : Nat) (En : State → Prop) (hE : zEk B En) (σ : zS) (N : Nat) (x0 : Nat) (x1 : Int32) (x2 : Int32) (X : zS) (hf : fX1_keepFirst σ x0 x1 x2 = some X) : zMv l D Ca B En yX1_keepFirst cX1_keepFirst 5 (Option.none : Option Jvm.ClassFile.FieldType) 2 43 [.ref x0, .int x1, .int x2] σ N X () :=
  zMet_v (own := RX1) hE (by decide +kernel) rfl (Nat.le_of_ble_eq_true rfl) (fun p e s m args below meth c C hr hRm => wfX1_keepFirst C hRm σ x0 x1 x2 X hf (fun pc lv hd => zfin_v (r := ()) C hr hd))
theorem dX1_letBarrierArrive_0 : decode cX1_letBarrierArrive 0 = .ok (.iload_n 1, 1) := by decide +kernel
theorem dX1_letBarrierArrive_1 : decode cX1_letBarrierArrive 1 = .ok (.iload_n 2, 1) := by decide +kernel
theorem dX1_letBarrierArrive_2 : decode cX1_letBarrierArrive 2 = .ok (.invokestatic 190, 3) := by decide +kernel
theorem dX1_letBarrierArrive_5 : decode cX1_letBarrierArrive 5 = .ok (.istore_n 3, 1) := by decide +kernel
theorem dX1_letBarrierArrive_6 : decode cX1_letBarrierArrive 6 = .ok (.aload_n 0, 1) := by decide +kernel
theorem dX1_letBarrierArrive_7 : decode cX1_letBarrierArrive 7 = .ok (.getfield 47, 3) := by decide +kernel
theorem dX1_letBarrierArrive_10 : decode cX1_letBarrierArrive 10 = .ok (.iload_n 3, 1) := by decide +kernel
theorem dX1_letBarrierArrive_11 : decode cX1_letBarrierArrive 11 = .ok (.iaload, 1) := by decide +kernel
theorem dX1_letBarrierArrive_12 : decode cX1_letBarrierArrive 12 = .ok (.istore 4, 2) := by decide +kernel
theorem dX1_letBarrierArrive_14 : decode cX1_letBarrierArrive 14 = .ok (.aload_n 0, 1) := by decide +kernel
theorem dX1_letBarrierArrive_15 : decode cX1_letBarrierArrive 15 = .ok (.getfield 37, 3) := by decide +kernel
theorem dX1_letBarrierArrive_18 : decode cX1_letBarrierArrive 18 = .ok (.getfield 249, 3) := by decide +kernel
theorem dX1_letBarrierArrive_21 : decode cX1_letBarrierArrive 21 = .ok (.iload_n 1, 1) := by decide +kernel
theorem dX1_letBarrierArrive_22 : decode cX1_letBarrierArrive 22 = .ok (.iaload, 1) := by decide +kernel
theorem dX1_letBarrierArrive_23 : decode cX1_letBarrierArrive 23 = .ok (.ifCond .ne 7, 3) := by decide +kernel
theorem dX1_letBarrierArrive_26 : decode cX1_letBarrierArrive 26 = .ok (.iconst 1, 1) := by decide +kernel
theorem dX1_letBarrierArrive_27 : decode cX1_letBarrierArrive 27 = .ok (.goto 4, 3) := by decide +kernel
theorem dX1_letBarrierArrive_30 : decode cX1_letBarrierArrive 30 = .ok (.iconst 0, 1) := by decide +kernel
theorem dX1_letBarrierArrive_31 : decode cX1_letBarrierArrive 31 = .ok (.istore 5, 2) := by decide +kernel
theorem dX1_letBarrierArrive_33 : decode cX1_letBarrierArrive 33 = .ok (.aload_n 0, 1) := by decide +kernel
theorem dX1_letBarrierArrive_34 : decode cX1_letBarrierArrive 34 = .ok (.getfield 47, 3) := by decide +kernel
theorem dX1_letBarrierArrive_37 : decode cX1_letBarrierArrive 37 = .ok (.iload_n 3, 1) := by decide +kernel
theorem dX1_letBarrierArrive_38 : decode cX1_letBarrierArrive 38 = .ok (.iconst (-1), 1) := by decide +kernel
theorem dX1_letBarrierArrive_39 : decode cX1_letBarrierArrive 39 = .ok (.iastore, 1) := by decide +kernel
theorem dX1_letBarrierArrive_40 : decode cX1_letBarrierArrive 40 = .ok (.aload_n 0, 1) := by decide +kernel
theorem dX1_letBarrierArrive_41 : decode cX1_letBarrierArrive 41 = .ok (.getfield 37, 3) := by decide +kernel
theorem dX1_letBarrierArrive_44 : decode cX1_letBarrierArrive 44 = .ok (.getfield 249, 3) := by decide +kernel
theorem dX1_letBarrierArrive_47 : decode cX1_letBarrierArrive 47 = .ok (.iload_n 1, 1) := by decide +kernel
theorem dX1_letBarrierArrive_48 : decode cX1_letBarrierArrive 48 = .ok (.dup2, 1) := by decide +kernel
theorem dX1_letBarrierArrive_49 : decode cX1_letBarrierArrive 49 = .ok (.iaload, 1) := by decide +kernel
theorem dX1_letBarrierArrive_50 : decode cX1_letBarrierArrive 50 = .ok (.iconst 1, 1) := by decide +kernel
theorem dX1_letBarrierArrive_51 : decode cX1_letBarrierArrive 51 = .ok (.iload_n 2, 1) := by decide +kernel
theorem dX1_letBarrierArrive_52 : decode cX1_letBarrierArrive 52 = .ok (.ishl, 1) := by decide +kernel
theorem dX1_letBarrierArrive_53 : decode cX1_letBarrierArrive 53 = .ok (.ior, 1) := by decide +kernel
theorem dX1_letBarrierArrive_54 : decode cX1_letBarrierArrive 54 = .ok (.iastore, 1) := by decide +kernel
theorem dX1_letBarrierArrive_55 : decode cX1_letBarrierArrive 55 = .ok (.aload_n 0, 1) := by decide +kernel
theorem dX1_letBarrierArrive_56 : decode cX1_letBarrierArrive 56 = .ok (.getfield 37, 3) := by decide +kernel
theorem dX1_letBarrierArrive_59 : decode cX1_letBarrierArrive 59 = .ok (.getfield 252, 3) := by decide +kernel
theorem dX1_letBarrierArrive_62 : decode cX1_letBarrierArrive 62 = .ok (.ifCond .eq 21, 3) := by decide +kernel
theorem dX1_letBarrierArrive_65 : decode cX1_letBarrierArrive 65 = .ok (.iload 5, 2) := by decide +kernel
theorem dX1_letBarrierArrive_67 : decode cX1_letBarrierArrive 67 = .ok (.ifCond .eq 8, 3) := by decide +kernel
theorem dX1_letBarrierArrive_70 : decode cX1_letBarrierArrive 70 = .ok (.aload_n 0, 1) := by decide +kernel
theorem dX1_letBarrierArrive_71 : decode cX1_letBarrierArrive 71 = .ok (.iload_n 1, 1) := by decide +kernel
theorem dX1_letBarrierArrive_72 : decode cX1_letBarrierArrive 72 = .ok (.invokevirtual 253, 3) := by decide +kernel
theorem dX1_letBarrierArrive_75 : decode cX1_letBarrierArrive 75 = .ok (.aload_n 0, 1) := by decide +kernel
theorem dX1_letBarrierArrive_76 : decode cX1_letBarrierArrive 76 = .ok (.iload_n 3, 1) := by decide +kernel
theorem dX1_letBarrierArrive_77 : decode cX1_letBarrierArrive 77 = .ok (.iload 4, 2) := by decide +kernel
theorem dX1_letBarrierArrive_79 : decode cX1_letBarrierArrive 79 = .ok (.invokevirtual 256, 3) := by decide +kernel
theorem dX1_letBarrierArrive_82 : decode cX1_letBarrierArrive 82 = .ok (.return_, 1) := by decide +kernel
theorem dX1_letBarrierArrive_83 : decode cX1_letBarrierArrive 83 = .ok (.aload_n 0, 1) := by decide +kernel
theorem dX1_letBarrierArrive_84 : decode cX1_letBarrierArrive 84 = .ok (.getfield 24, 3) := by decide +kernel
theorem dX1_letBarrierArrive_87 : decode cX1_letBarrierArrive 87 = .ok (.iload_n 1, 1) := by decide +kernel
theorem dX1_letBarrierArrive_88 : decode cX1_letBarrierArrive 88 = .ok (.dup2, 1) := by decide +kernel
theorem dX1_letBarrierArrive_89 : decode cX1_letBarrierArrive 89 = .ok (.iaload, 1) := by decide +kernel
theorem dX1_letBarrierArrive_90 : decode cX1_letBarrierArrive 90 = .ok (.iconst 1, 1) := by decide +kernel
theorem dX1_letBarrierArrive_91 : decode cX1_letBarrierArrive 91 = .ok (.iload_n 2, 1) := by decide +kernel
theorem dX1_letBarrierArrive_92 : decode cX1_letBarrierArrive 92 = .ok (.ishl, 1) := by decide +kernel
theorem dX1_letBarrierArrive_93 : decode cX1_letBarrierArrive 93 = .ok (.ior, 1) := by decide +kernel
theorem dX1_letBarrierArrive_94 : decode cX1_letBarrierArrive 94 = .ok (.iastore, 1) := by decide +kernel
theorem dX1_letBarrierArrive_95 : decode cX1_letBarrierArrive 95 = .ok (.aload_n 0, 1) := by decide +kernel
theorem dX1_letBarrierArrive_96 : decode cX1_letBarrierArrive 96 = .ok (.getfield 37, 3) := by decide +kernel
theorem dX1_letBarrierArrive_99 : decode cX1_letBarrierArrive 99 = .ok (.getfield 249, 3) := by decide +kernel
theorem dX1_letBarrierArrive_102 : decode cX1_letBarrierArrive 102 = .ok (.iload_n 1, 1) := by decide +kernel
theorem dX1_letBarrierArrive_103 : decode cX1_letBarrierArrive 103 = .ok (.iaload, 1) := by decide +kernel
theorem dX1_letBarrierArrive_104 : decode cX1_letBarrierArrive 104 = .ok (.invokestatic 259, 3) := by decide +kernel
theorem dX1_letBarrierArrive_107 : decode cX1_letBarrierArrive 107 = .ok (.aload_n 0, 1) := by decide +kernel
theorem dX1_letBarrierArrive_108 : decode cX1_letBarrierArrive 108 = .ok (.iload_n 1, 1) := by decide +kernel
theorem dX1_letBarrierArrive_109 : decode cX1_letBarrierArrive 109 = .ok (.invokevirtual 215, 3) := by decide +kernel
theorem dX1_letBarrierArrive_112 : decode cX1_letBarrierArrive 112 = .ok (.if_icmp .ne 15, 3) := by decide +kernel
theorem dX1_letBarrierArrive_115 : decode cX1_letBarrierArrive 115 = .ok (.aload_n 0, 1) := by decide +kernel
theorem dX1_letBarrierArrive_116 : decode cX1_letBarrierArrive 116 = .ok (.iload_n 1, 1) := by decide +kernel
theorem dX1_letBarrierArrive_117 : decode cX1_letBarrierArrive 117 = .ok (.invokevirtual 253, 3) := by decide +kernel
theorem dX1_letBarrierArrive_120 : decode cX1_letBarrierArrive 120 = .ok (.aload_n 0, 1) := by decide +kernel
theorem dX1_letBarrierArrive_121 : decode cX1_letBarrierArrive 121 = .ok (.getfield 24, 3) := by decide +kernel
theorem dX1_letBarrierArrive_124 : decode cX1_letBarrierArrive 124 = .ok (.iload_n 1, 1) := by decide +kernel
theorem dX1_letBarrierArrive_125 : decode cX1_letBarrierArrive 125 = .ok (.iconst 0, 1) := by decide +kernel
theorem dX1_letBarrierArrive_126 : decode cX1_letBarrierArrive 126 = .ok (.iastore, 1) := by decide +kernel
theorem dX1_letBarrierArrive_127 : decode cX1_letBarrierArrive 127 = .ok (.return_, 1) := by decide +kernel
theorem hyX1_letBarrierArrive : yX1_letBarrierArrive.cls ≠ "java/lang/invoke/MethodHandle" ∧ yX1_letBarrierArrive.cls ≠ "java/lang/invoke/VarHandle" ∧ (parseMethodDescriptor yX1_letBarrierArrive.desc).map (fun d => d.parameters.length) = some 2 := ⟨by decide +kernel, by decide +kernel, by decide +kernel⟩
set_option maxRecDepth 100000 in
set_option maxHeartbeats 4000000 in
theorem wjX1_letBarrierArrive_75 (C : zC p s m args meth c cX1_letBarrierArrive RX1 6 D Ca B En) (hRm : zRm R 3 67 cells slots) (σ : zS) (x0 : Nat) (x3 : Int32) (x4 : Int32)  (τ : zS) (hf : jX1_letBarrierArrive_75 σ x0 x3 x4  = some τ) (hq : ∀ (pc : Nat) (lv : List (Nat × Value)), decode cX1_letBarrierArrive pc = .ok (.return_, 1) → zW p l e R s m args below meth c cells slots Q D Ca B 6 τ N pc lv []) : zW p l e R s m args below meth c cells slots Q D Ca B 6 σ N 75 [(0, .ref x0), (3, .int x3), (4, .int x4)] [] := by
  unfold jX1_letBarrierArrive_75 at hf
  refine z_aload_n C dX1_letBarrierArrive_75 rfl 0 rfl ?_
  refine z_iload_n C dX1_letBarrierArrive_76 rfl 1 rfl ?_
  refine z_iload C dX1_letBarrierArrive_77 2 rfl ?_
  obtain ⟨c27, hc27, hf⟩ := zbind hf
  obtain ⟨kc27, hc27⟩ := zck_ok hc27
  refine z_callVv (As := [.int x3, .int x4]) (F0 := 3) (L0 := 67) C (mX1_keepFirst l D Ca B En C.2.2.2.2.2.2.2.1 σ N x0 x3 x4 _ hc27) hRm kc27 rfl kw_666 kw_8 kw_663 kw_665 kp_11 hyX1_keepFirst (Nat.le_of_ble_eq_true rfl) (Nat.le_of_ble_eq_true rfl) rfl rfl (Nat.le_of_ble_eq_true rfl) dX1_letBarrierArrive_79 ?_
  cases hf
  exact hq _ _ dX1_letBarrierArrive_82

set_option maxRecDepth 100000 in
set_option maxHeartbeats 4000000 in
theorem wjX1_letBarrierArrive_31 (C : zC p s m args meth c cX1_letBarrierArrive RX1 6 D Ca B En) (hRm : zRm R 3 67 cells slots) (σ : zS) (x0 : Nat) (x1 : Int32) (x2 : Int32) (x3 : Int32) (x4 : Int32) (y0 : Int32) (τ : zS) (hf : jX1_letBarrierArrive_31 σ x0 x1 x2 x3 x4 y0 = some τ) (hq : ∀ (pc : Nat) (lv : List (Nat × Value)), decode cX1_letBarrierArrive pc = .ok (.return_, 1) → zW p l e R s m args below meth c cells slots Q D Ca B 6 τ N pc lv []) : zW p l e R s m args below meth c cells slots Q D Ca B 6 σ N 31 [(0, .ref x0), (1, .int x1), (2, .int x2), (3, .int x3), (4, .int x4)] [.int y0] := by
  unfold jX1_letBarrierArrive_31 at hf
  refine z_istore (lv2 := [(5, .int y0), (0, .ref x0), (1, .int x1), (2, .int x2), (3, .int x3), (4, .int x4)]) C dX1_letBarrierArrive_31 (by decide) rfl ?_
  refine z_aload_n C dX1_letBarrierArrive_33 rfl 1 rfl ?_
  obtain ⟨v7, hv7, hf⟩ := zbind hf
  refine gf_RX1_47 C hv7 dX1_letBarrierArrive_34 ?_
  refine z_iload_n C dX1_letBarrierArrive_37 rfl 4 rfl ?_
  refine z_iconst C (zi (-1)) dX1_letBarrierArrive_38 (by decide) ?_
  obtain ⟨σ8, hσ8, hf⟩ := zbind hf
  refine z_sI C hσ8 dX1_letBarrierArrive_39 ?_
  refine z_aload_n C dX1_letBarrierArrive_40 rfl 1 rfl ?_
  obtain ⟨v9, hv9, hf⟩ := zbind hf
  refine gf_RX1_37 C hv9 dX1_letBarrierArrive_41 ?_
  obtain ⟨v10, hv10, hf⟩ := zbind hf
  refine gf_RX1_249 C hv10 dX1_letBarrierArrive_44 ?_
  refine z_iload_n C dX1_letBarrierArrive_47 rfl 2 rfl ?_
  refine z_dup2 C dX1_letBarrierArrive_48 rfl rfl ?_
  obtain ⟨v11, hv11, hf⟩ := zbind hf
  refine z_aI C hv11 dX1_letBarrierArrive_49 ?_
  refine z_iconst C (zi 1) dX1_letBarrierArrive_50 (by decide) ?_
  refine z_iload_n C dX1_letBarrierArrive_51 rfl 3 rfl ?_
  refine z_ishl C dX1_letBarrierArrive_52 ?_
  refine z_ior C dX1_letBarrierArrive_53 ?_
  obtain ⟨σ12, hσ12, hf⟩ := zbind hf
  refine z_sI C hσ12 dX1_letBarrierArrive_54 ?_
  refine z_aload_n C dX1_letBarrierArrive_55 rfl 1 rfl ?_
  obtain ⟨v13, hv13, hf⟩ := zbind hf
  refine gf_RX1_37 C hv13 dX1_letBarrierArrive_56 ?_
  obtain ⟨v14, hv14, hf⟩ := zbind hf
  refine gf_RX1_252 C hv14 dX1_letBarrierArrive_59 ?_
  refine z_if_eq C 83 dX1_letBarrierArrive_62 (by decide) (fun q30 => ?_) (fun q30 => ?_)
  · rw [if_pos q30] at hf
    refine z_aload_n C dX1_letBarrierArrive_83 rfl 1 rfl ?_
    obtain ⟨v15, hv15, hf⟩ := zbind hf
    refine gf_RX1_24 C hv15 dX1_letBarrierArrive_84 ?_
    refine z_iload_n C dX1_letBarrierArrive_87 rfl 2 rfl ?_
    refine z_dup2 C dX1_letBarrierArrive_88 rfl rfl ?_
    obtain ⟨v16, hv16, hf⟩ := zbind hf
    refine z_aI C hv16 dX1_letBarrierArrive_89 ?_
    refine z_iconst C (zi 1) dX1_letBarrierArrive_90 (by decide) ?_
    refine z_iload_n C dX1_letBarrierArrive_91 rfl 3 rfl ?_
    refine z_ishl C dX1_letBarrierArrive_92 ?_
    refine z_ior C dX1_letBarrierArrive_93 ?_
    obtain ⟨σ17, hσ17, hf⟩ := zbind hf
    refine z_sI C hσ17 dX1_letBarrierArrive_94 ?_
    refine z_aload_n C dX1_letBarrierArrive_95 rfl 1 rfl ?_
    obtain ⟨v18, hv18, hf⟩ := zbind hf
    refine gf_RX1_37 C hv18 dX1_letBarrierArrive_96 ?_
    obtain ⟨v19, hv19, hf⟩ := zbind hf
    refine gf_RX1_249 C hv19 dX1_letBarrierArrive_99 ?_
    refine z_iload_n C dX1_letBarrierArrive_102 rfl 2 rfl ?_
    obtain ⟨v20, hv20, hf⟩ := zbind hf
    refine z_aI C hv20 dX1_letBarrierArrive_103 ?_
    obtain ⟨c21, hc21, hf⟩ := zbind hf
    refine z_callSi (As := [.int v20]) (F0 := 3) (L0 := 67) C (mJ6_bitCount_0f7a4 l D Ca B En C.2.2.2.2.2.2.2.1 σ17 N v20 _ hc21) hRm kw_553 kw_23 kw_667 kw_552 hyJ6_bitCount_0f7a4 (Nat.le_of_ble_eq_true rfl) (Nat.le_of_ble_eq_true rfl) rfl rfl (Nat.le_of_ble_eq_true rfl) dX1_letBarrierArrive_104 ?_
    refine z_aload_n C dX1_letBarrierArrive_107 rfl 1 rfl ?_
    refine z_iload_n C dX1_letBarrierArrive_108 rfl 2 rfl ?_
    obtain ⟨c22, hc22, hf⟩ := zbind hf
    obtain ⟨kc22, hc22⟩ := zck_ok hc22
    refine z_callVi (As := [.int x1]) (F0 := 3) (L0 := 67) C (mX1_sendersTo l D Ca B En C.2.2.2.2.2.2.2.1 c21.1 N x0 x1 _ hc22) hRm kc22 rfl kw_654 kw_8 kw_651 kw_653 kp_8 hyX1_sendersTo (Nat.le_of_ble_eq_true rfl) (Nat.le_of_ble_eq_true rfl) rfl rfl (Nat.le_of_ble_eq_true rfl) dX1_letBarrierArrive_109 ?_
    refine z_icmp_ne C 127 dX1_letBarrierArrive_112 (by decide) (fun q26 => ?_) (fun q26 => ?_)
    · rw [if_neg q26] at hf
      cases hf
      exact hq _ _ dX1_letBarrierArrive_127
    · rw [if_pos q26] at hf
      refine z_aload_n C dX1_letBarrierArrive_115 rfl 1 rfl ?_
      refine z_iload_n C dX1_letBarrierArrive_116 rfl 2 rfl ?_
      obtain ⟨c23, hc23, hf⟩ := zbind hf
      obtain ⟨kc23, hc23⟩ := zck_ok hc23
      refine z_callVv (As := [.int x1]) (F0 := 3) (L0 := 67) C (mX1_cut l D Ca B En C.2.2.2.2.2.2.2.1 c22.1 N x0 x1 _ hc23) hRm kc23 rfl kw_662 kw_8 kw_659 kw_661 kp_10 hyX1_cut (Nat.le_of_ble_eq_true rfl) (Nat.le_of_ble_eq_true rfl) rfl rfl (Nat.le_of_ble_eq_true rfl) dX1_letBarrierArrive_117 ?_
      refine z_aload_n C dX1_letBarrierArrive_120 rfl 1 rfl ?_
      obtain ⟨v24, hv24, hf⟩ := zbind hf
      refine gf_RX1_24 C hv24 dX1_letBarrierArrive_121 ?_
      refine z_iload_n C dX1_letBarrierArrive_124 rfl 2 rfl ?_
      refine z_iconst C (zi 0) dX1_letBarrierArrive_125 (by decide) ?_
      obtain ⟨σ25, hσ25, hf⟩ := zbind hf
      refine z_sI C hσ25 dX1_letBarrierArrive_126 ?_
      cases hf
      exact hq _ _ dX1_letBarrierArrive_127
  · rw [if_neg q30] at hf
    refine z_iload C dX1_letBarrierArrive_65 0 rfl ?_
    refine z_if_eq C 75 dX1_letBarrierArrive_67 (by decide) (fun q29 => ?_) (fun q29 => ?_)
    · rw [if_pos q29] at hf
      refine z_sub [1, 4, 5] rfl ?_
      exact wjX1_letBarrierArrive_75 C hRm _ _ _ _  _ hf hq
    · rw [if_neg q29] at hf
      refine z_aload_n C dX1_letBarrierArrive_70 rfl 1 rfl ?_
      refine z_iload_n C dX1_letBarrierArrive_71 rfl 2 rfl ?_
      obtain ⟨c28, hc28, hf⟩ := zbind hf
      obtain ⟨kc28, hc28⟩ := zck_ok hc28
      refine z_callVv (As := [.int x1]) (F0 := 3) (L0 := 67) C (mX1_cut l D Ca B En C.2.2.2.2.2.2.2.1 σ12 N x0 x1 _ hc28) hRm kc28 rfl kw_662 kw_8 kw_659 kw_661 kp_10 hyX1_cut (Nat.le_of_ble_eq_true rfl) (Nat.le_of_ble_eq_true rfl) rfl rfl (Nat.le_of_ble_eq_true rfl) dX1_letBarrierArrive_72 ?_
      refine z_sub [1, 4, 5] rfl ?_
      exact wjX1_letBarrierArrive_75 C hRm _ _ _ _  _ hf hq

set_option maxRecDepth 100000 in
set_option maxHeartbeats 4000000 in
theorem wfX1_letBarrierArrive (C : zC p s m args meth c cX1_letBarrierArrive RX1 6 D Ca B En) (hRm : zRm R 3 67 cells slots) (σ : zS) (x0 : Nat) (x1 : Int32) (x2 : Int32) (τ : zS) (hf : fX1_letBarrierArrive σ x0 x1 x2 = some τ) (hq : ∀ (pc : Nat) (lv : List (Nat × Value)), decode cX1_letBarrierArrive pc = .ok (.return_, 1) → zW p l e R s m args below meth c cells slots Q D Ca B 6 τ N pc lv []) : zW p l e R s m args below meth c cells slots Q D Ca B 6 σ N 0 [(0, .ref x0), (1, .int x1), (2, .int x2)] [] := by
  unfold fX1_letBarrierArrive at hf
  refine z_iload_n C dX1_letBarrierArrive_0 rfl 1 rfl ?_
  refine z_iload_n C dX1_letBarrierArrive_1 rfl 2 rfl ?_
  obtain ⟨c1, hc1, hf⟩ := zbind hf
  refine z_callSNi (host := "BarrierFlow") (As := [.int x1, .int x2]) (F0 := 3) (L0 := 67) C (mX9_channel l D Ca B En C.2.2.2.2.2.2.2.1 σ N x1 x2 _ hc1) hRm kw_629 kw_1 (by decide) kw_628 hyX9_channel (Nat.le_of_ble_eq_true rfl) (Nat.le_of_ble_eq_true rfl) rfl rfl (Nat.le_of_ble_eq_true rfl) dX1_letBarrierArrive_2 ?_
  refine z_istore_n (lv2 := [(3, .int c1.2), (0, .ref x0), (1, .int x1), (2, .int x2)]) C dX1_letBarrierArrive_5 rfl (by decide) rfl ?_
  refine z_aload_n C dX1_letBarrierArrive_6 rfl 1 rfl ?_
  obtain ⟨v2, hv2, hf⟩ := zbind hf
  refine gf_RX1_47 C hv2 dX1_letBarrierArrive_7 ?_
  refine z_iload_n C dX1_letBarrierArrive_10 rfl 0 rfl ?_
  obtain ⟨v3, hv3, hf⟩ := zbind hf
  refine z_aI C hv3 dX1_letBarrierArrive_11 ?_
  refine z_istore (lv2 := [(4, .int v3), (3, .int c1.2), (0, .ref x0), (1, .int x1), (2, .int x2)]) C dX1_letBarrierArrive_12 (by decide) rfl ?_
  refine z_aload_n C dX1_letBarrierArrive_14 rfl 2 rfl ?_
  obtain ⟨v4, hv4, hf⟩ := zbind hf
  refine gf_RX1_37 C hv4 dX1_letBarrierArrive_15 ?_
  obtain ⟨v5, hv5, hf⟩ := zbind hf
  refine gf_RX1_249 C hv5 dX1_letBarrierArrive_18 ?_
  refine z_iload_n C dX1_letBarrierArrive_21 rfl 3 rfl ?_
  obtain ⟨v6, hv6, hf⟩ := zbind hf
  refine z_aI C hv6 dX1_letBarrierArrive_22 ?_
  refine z_if_ne C 30 dX1_letBarrierArrive_23 (by decide) (fun q31 => ?_) (fun q31 => ?_)
  · rw [if_neg q31] at hf
    refine z_iconst C (zi 0) dX1_letBarrierArrive_30 (by decide) ?_
    refine z_sub [2, 3, 4, 1, 0] rfl ?_
    exact wjX1_letBarrierArrive_31 C hRm _ _ _ _ _ _ _ _ hf hq
  · rw [if_pos q31] at hf
    refine z_iconst C (zi 1) dX1_letBarrierArrive_26 (by decide) ?_
    refine z_goto C 31 dX1_letBarrierArrive_27 (by decide) ?_
    refine z_sub [2, 3, 4, 1, 0] rfl ?_
    exact wjX1_letBarrierArrive_31 C hRm _ _ _ _ _ _ _ _ hf hq

theorem mX1_letBarrierArrive (l : Launch) (D : va_G) (Ca : Nat → ClassId) (B : Nat) (En : State → Prop) (hE : zEk B En) (σ : zS) (N : Nat) (x0 : Nat) (x1 : Int32) (x2 : Int32) (X : zS) (hf : fX1_letBarrierArrive σ x0 x1 x2 = some X) : zMv l D Ca B En yX1_letBarrierArrive cX1_letBarrierArrive 6 (Option.none : Option Jvm.ClassFile.FieldType) 3 67 [.ref x0, .int x1, .int x2] σ N X () :=
  zMet_v (own := RX1) hE (by decide +kernel) rfl (Nat.le_of_ble_eq_true rfl) (fun p e s m args below meth c C hr hRm => wfX1_letBarrierArrive C hRm σ x0 x1 x2 X hf (fun pc lv hd => zfin_v (r := ()) C hr hd))
theorem dX1_letBarriersOvertake_0 : decode cX1_letBarriersOvertake 0 = .ok (.aload_n 0, 1) := by decide +kernel
theorem dX1_letBarriersOvertake_1 : decode cX1_letBarriersOvertake 1 = .ok (.getfield 37, 3) := by decide +kernel
theorem dX1_letBarriersOvertake_4 : decode cX1_letBarriersOvertake 4 = .ok (.invokevirtual 212, 3) := by decide +kernel
theorem dX1_letBarriersOvertake_7 : decode cX1_letBarriersOvertake 7 = .ok (.ifCond .ne 4, 3) := by decide +kernel
theorem dX1_letBarriersOvertake_10 : decode cX1_letBarriersOvertake 10 = .ok (.return_, 1) := by decide +kernel
theorem dX1_letBarriersOvertake_11 : decode cX1_letBarriersOvertake 11 = .ok (.iload_n 1, 1) := by decide +kernel
theorem dX1_letBarriersOvertake_12 : decode cX1_letBarriersOvertake 12 = .ok (.istore_n 3, 1) := by decide +kernel
theorem dX1_letBarriersOvertake_13 : decode cX1_letBarriersOvertake 13 = .ok (.iload_n 3, 1) := by decide +kernel
theorem dX1_letBarriersOvertake_14 : decode cX1_letBarriersOvertake 14 = .ok (.iload_n 1, 1) := by decide +kernel
theorem dX1_letBarriersOvertake_15 : decode cX1_letBarriersOvertake 15 = .ok (.iload_n 2, 1) := by decide +kernel
theorem dX1_letBarriersOvertake_16 : decode cX1_letBarriersOvertake 16 = .ok (.iadd, 1) := by decide +kernel
theorem dX1_letBarriersOvertake_17 : decode cX1_letBarriersOvertake 17 = .ok (.if_icmp .ge 50, 3) := by decide +kernel
theorem dX1_letBarriersOvertake_20 : decode cX1_letBarriersOvertake 20 = .ok (.iconst 0, 1) := by decide +kernel
theorem dX1_letBarriersOvertake_21 : decode cX1_letBarriersOvertake 21 = .ok (.istore 4, 2) := by decide +kernel
theorem dX1_letBarriersOvertake_23 : decode cX1_letBarriersOvertake 23 = .ok (.iload 4, 2) := by decide +kernel
theorem dX1_letBarriersOvertake_25 : decode cX1_letBarriersOvertake 25 = .ok (.aload_n 0, 1) := by decide +kernel
theorem dX1_letBarriersOvertake_26 : decode cX1_letBarriersOvertake 26 = .ok (.iload_n 3, 1) := by decide +kernel
theorem dX1_letBarriersOvertake_27 : decode cX1_letBarriersOvertake 27 = .ok (.invokevirtual 215, 3) := by decide +kernel
theorem dX1_letBarriersOvertake_30 : decode cX1_letBarriersOvertake 30 = .ok (.if_icmp .ge 31, 3) := by decide +kernel
theorem dX1_letBarriersOvertake_33 : decode cX1_letBarriersOvertake 33 = .ok (.aload_n 0, 1) := by decide +kernel
theorem dX1_letBarriersOvertake_34 : decode cX1_letBarriersOvertake 34 = .ok (.getfield 47, 3) := by decide +kernel
theorem dX1_letBarriersOvertake_37 : decode cX1_letBarriersOvertake 37 = .ok (.iload_n 3, 1) := by decide +kernel
theorem dX1_letBarriersOvertake_38 : decode cX1_letBarriersOvertake 38 = .ok (.iload 4, 2) := by decide +kernel
theorem dX1_letBarriersOvertake_40 : decode cX1_letBarriersOvertake 40 = .ok (.invokestatic 190, 3) := by decide +kernel
theorem dX1_letBarriersOvertake_43 : decode cX1_letBarriersOvertake 43 = .ok (.iaload, 1) := by decide +kernel
theorem dX1_letBarriersOvertake_44 : decode cX1_letBarriersOvertake 44 = .ok (.iconst (-1), 1) := by decide +kernel
theorem dX1_letBarriersOvertake_45 : decode cX1_letBarriersOvertake 45 = .ok (.if_icmp .eq 10, 3) := by decide +kernel
theorem dX1_letBarriersOvertake_48 : decode cX1_letBarriersOvertake 48 = .ok (.aload_n 0, 1) := by decide +kernel
theorem dX1_letBarriersOvertake_49 : decode cX1_letBarriersOvertake 49 = .ok (.iload_n 3, 1) := by decide +kernel
theorem dX1_letBarriersOvertake_50 : decode cX1_letBarriersOvertake 50 = .ok (.iload 4, 2) := by decide +kernel
theorem dX1_letBarriersOvertake_52 : decode cX1_letBarriersOvertake 52 = .ok (.invokevirtual 218, 3) := by decide +kernel
theorem dX1_letBarriersOvertake_55 : decode cX1_letBarriersOvertake 55 = .ok (.iinc 4 1, 3) := by decide +kernel
theorem dX1_letBarriersOvertake_58 : decode cX1_letBarriersOvertake 58 = .ok (.goto (-35), 3) := by decide +kernel
theorem dX1_letBarriersOvertake_61 : decode cX1_letBarriersOvertake 61 = .ok (.iinc 3 1, 3) := by decide +kernel
theorem dX1_letBarriersOvertake_64 : decode cX1_letBarriersOvertake 64 = .ok (.goto (-51), 3) := by decide +kernel
theorem dX1_letBarriersOvertake_67 : decode cX1_letBarriersOvertake 67 = .ok (.return_, 1) := by decide +kernel
theorem hyX1_letBarriersOvertake : yX1_letBarriersOvertake.cls ≠ "java/lang/invoke/MethodHandle" ∧ yX1_letBarriersOvertake.cls ≠ "java/lang/invoke/VarHandle" ∧ (parseMethodDescriptor yX1_letBarriersOvertake.desc).map (fun d => d.parameters.length) = some 2 := ⟨by decide +kernel, by decide +kernel, by decide +kernel⟩
set_option maxRecDepth 100000 in
set_option maxHeartbeats 4000000 in
theorem wjX1_letBarriersOvertake_55_L23 (C : zC p s m args meth c cX1_letBarriersOvertake RX1 5 D Ca B En) (hRm : zRm R 4 92 cells slots) (σ : zS) (x0 : Nat) (x1 : Int32) (x2 : Int32) (x3 : Int32) (x4 : Int32)  (y : (zS × Int32) ⊕ zS) (hf : jX1_letBarriersOvertake_55_L23 σ x0 x1 x2 x3 x4  = some y) (hk : (∀ z : (zS × Int32), y = .inl z → zW p l e R s m args below meth c cells slots Q D Ca B 5 z.1 N 23 [(0, .ref x0), (1, .int x1), (2, .int x2), (3, .int x3), (4, .int z.2)] []) ∧ (∀ z : zS, y = .inr z → zW p l e R s m args below meth c cells slots Q D Ca B 5 z N 61 [(0, .ref x0), (1, .int x1), (2, .int x2), (3, .int x3)] [])) : zW p l e R s m args below meth c cells slots Q D Ca B 5 σ N 55 [(0, .ref x0), (1, .int x1), (2, .int x2), (3, .int x3), (4, .int x4)] [] := by
  unfold jX1_letBarriersOvertake_55_L23 at hf
  refine z_iinc (lv2 := [(4, .int (x4 + (zi 1))), (0, .ref x0), (1, .int x1), (2, .int x2), (3, .int x3)]) C (x4 + (zi 1)) dX1_letBarriersOvertake_55 4 rfl rfl (by decide) rfl ?_
  refine z_goto C 23 dX1_letBarriersOvertake_58 (by decide) ?_
  cases hf
  refine z_sub [1, 2, 3, 4, 0] rfl ?_
  exact hk.1 _ rfl

set_option maxRecDepth 100000 in
set_option maxHeartbeats 4000000 in
theorem wsX1_letBarriersOvertake_23b (C : zC p s m args meth c cX1_letBarriersOvertake RX1 5 D Ca B En) (hRm : zRm R 4 92 cells slots) (x0 : Nat) (x1 : Int32) (x2 : Int32) (x3 : Int32) (σ : zS) (u4 : Int32) (y : (zS × Int32) ⊕ zS) (hf : sX1_letBarriersOvertake_23b x0 x1 x2 x3 σ u4 = some y) (hk : (∀ z : (zS × Int32), y = .inl z → zW p l e R s m args below meth c cells slots Q D Ca B 5 z.1 N 23 [(0, .ref x0), (1, .int x1), (2, .int x2), (3, .int x3), (4, .int z.2)] []) ∧ (∀ z : zS, y = .inr z → zW p l e R s m args below meth c cells slots Q D Ca B 5 z N 61 [(0, .ref x0), (1, .int x1), (2, .int x2), (3, .int x3)] [])) : zW p l e R s m args below meth c cells slots Q D Ca B 5 σ N 23 [(0, .ref x0), (1, .int x1), (2, .int x2), (3, .int x3), (4, .int u4)] [] := by
  unfold sX1_letBarriersOvertake_23b at hf
  refine z_iload C dX1_letBarriersOvertake_23 4 rfl ?_
  refine z_aload_n C dX1_letBarriersOvertake_25 rfl 0 rfl ?_
  refine z_iload_n C dX1_letBarriersOvertake_26 rfl 3 rfl ?_
  obtain ⟨c3, hc3, hf⟩ := zbind hf
  obtain ⟨kc3, hc3⟩ := zck_ok hc3
  refine z_callVi (As := [.int x3]) (F0 := 4) (L0 := 92) C (mX1_sendersTo l D Ca B En C.2.2.2.2.2.2.2.1 σ N x0 x3 _ hc3) hRm kc3 rfl kw_654 kw_8 kw_651 kw_653 kp_8 hyX1_sendersTo (Nat.le_of_ble_eq_true rfl) (Nat.le_of_ble_eq_true rfl) rfl rfl (Nat.le_of_ble_eq_true rfl) dX1_letBarriersOvertake_27 ?_
  refine z_icmp_ge C 61 dX1_letBarriersOvertake_30 (by decide) (fun q9 => ?_) (fun q9 => ?_)
  · rw [if_pos q9] at hf
    cases hf
    refine z_sub [0, 1, 2, 3] rfl ?_
    exact hk.2 _ rfl
  · rw [if_neg q9] at hf
    refine z_aload_n C dX1_letBarriersOvertake_33 rfl 0 rfl ?_
    obtain ⟨v4, hv4, hf⟩ := zbind hf
    refine gf_RX1_47 C hv4 dX1_letBarriersOvertake_34 ?_
    refine z_iload_n C dX1_letBarriersOvertake_37 rfl 3 rfl ?_
    refine z_iload C dX1_letBarriersOvertake_38 4 rfl ?_
    obtain ⟨c5, hc5, hf⟩ := zbind hf
    refine z_callSNi (host := "BarrierFlow") (As := [.int x3, .int u4]) (F0 := 4) (L0 := 92) C (mX9_channel l D Ca B En C.2.2.2.2.2.2.2.1 c3.1 N x3 u4 _ hc5) hRm kw_629 kw_1 (by decide) kw_628 hyX9_channel (Nat.le_of_ble_eq_true rfl) (Nat.le_of_ble_eq_true rfl) rfl rfl (Nat.le_of_ble_eq_true rfl) dX1_letBarriersOvertake_40 ?_
    obtain ⟨v6, hv6, hf⟩ := zbind hf
    refine z_aI C hv6 dX1_letBarriersOvertake_43 ?_
    refine z_iconst C (zi (-1)) dX1_letBarriersOvertake_44 (by decide) ?_
    refine z_icmp_eq C 55 dX1_letBarriersOvertake_45 (by decide) (fun q8 => ?_) (fun q8 => ?_)
    · rw [if_pos q8] at hf
      refine z_sub [0, 1, 2, 3, 4] rfl ?_
      exact wjX1_letBarriersOvertake_55_L23 C hRm _ _ _ _ _ _  _ hf hk
    · rw [if_neg q8] at hf
      refine z_aload_n C dX1_letBarriersOvertake_48 rfl 0 rfl ?_
      refine z_iload_n C dX1_letBarriersOvertake_49 rfl 3 rfl ?_
      refine z_iload C dX1_letBarriersOvertake_50 4 rfl ?_
      obtain ⟨c7, hc7, hf⟩ := zbind hf
      obtain ⟨kc7, hc7⟩ := zck_ok hc7
      refine z_callVv (As := [.int x3, .int u4]) (F0 := 4) (L0 := 92) C (mX1_letBarrierArrive l D Ca B En C.2.2.2.2.2.2.2.1 c5.1 N x0 x3 u4 _ hc7) hRm kc7 rfl kw_658 kw_8 kw_655 kw_657 kp_9 hyX1_letBarrierArrive (Nat.le_of_ble_eq_true rfl) (Nat.le_of_ble_eq_true rfl) rfl rfl (Nat.le_of_ble_eq_true rfl) dX1_letBarriersOvertake_52 ?_
      refine z_sub [0, 1, 2, 3, 4] rfl ?_
      exact wjX1_letBarriersOvertake_55_L23 C hRm _ _ _ _ _ _  _ hf hk

theorem wsX1_letBarriersOvertake_23 (C : zC p s m args meth c cX1_letBarriersOvertake RX1 5 D Ca B En) (hRm : zRm R 4 92 cells slots) (x0 : Nat) (x1 : Int32) (x2 : Int32) (x3 : Int32) (n : Nat) (z : (zS × Int32)) (x : zS) (hf : zloop (sX1_letBarriersOvertake_23 x0 x1 x2 x3) n z = some x) (hk : (∀ o : zS, x = o → zW p l e R s m args below meth c cells slots Q D Ca B 5 o N 61 [(0, .ref x0), (1, .int x1), (2, .int x2), (3, .int x3)] [])) : zW p l e R s m args below meth c cells slots Q D Ca B 5 z.1 N 23 [(0, .ref x0), (1, .int x1), (2, .int x2), (3, .int x3), (4, .int z.2)] [] := by
  refine zloop_W (P := fun z : (zS × Int32) => zW p l e R s m args below meth c cells slots Q D Ca B 5 z.1 N 23 [(0, .ref x0), (1, .int x1), (2, .int x2), (3, .int x3), (4, .int z.2)] []) (K := fun x : zS => (∀ o : zS, x = o → zW p l e R s m args below meth c cells slots Q D Ca B 5 o N 61 [(0, .ref x0), (1, .int x1), (2, .int x2), (3, .int x3)] [])) ?_ n z x hf hk
  intro z y hy h1 h2
  refine wsX1_letBarriersOvertake_23b C hRm x0 x1 x2 x3 z.1 z.2 y hy ⟨fun z2 e => h1 z2 e, fun o e => (h2 _ e) o rfl⟩
set_option maxRecDepth 100000 in
set_option maxHeartbeats 4000000 in
theorem wsX1_letBarriersOvertake_13b (C : zC p s m args meth c cX1_letBarriersOvertake RX1 5 D Ca B En) (hRm : zRm R 4 92 cells slots) (x0 : Nat) (x1 : Int32) (x2 : Int32) (σ : zS) (u3 : Int32) (y : (zS × Int32) ⊕ zS) (hf : sX1_letBarriersOvertake_13b x0 x1 x2 σ u3 = some y) (hk : (∀ z : (zS × Int32), y = .inl z → zW p l e R s m args below meth c cells slots Q D Ca B 5 z.1 N 13 [(0, .ref x0), (1, .int x1), (2, .int x2), (3, .int z.2)] []) ∧ (∀ z : zS, y = .inr z → zW p l e R s m args below meth c cells slots Q D Ca B 5 z N 67 [] [])) : zW p l e R s m args below meth c cells slots Q D Ca B 5 σ N 13 [(0, .ref x0), (1, .int x1), (2, .int x2), (3, .int u3)] [] := by
  unfold sX1_letBarriersOvertake_13b at hf
  refine z_iload_n C dX1_letBarriersOvertake_13 rfl 3 rfl ?_
  refine z_iload_n C dX1_letBarriersOvertake_14 rfl 1 rfl ?_
  refine z_iload_n C dX1_letBarriersOvertake_15 rfl 2 rfl ?_
  refine z_iadd C dX1_letBarriersOvertake_16 ?_
  refine z_icmp_ge C 67 dX1_letBarriersOvertake_17 (by decide) (fun q11 => ?_) (fun q11 => ?_)
  · rw [if_pos q11] at hf
    cases hf
    refine z_sub [] rfl ?_
    exact hk.2 _ rfl
  · rw [if_neg q11] at hf
    refine z_iconst C (zi 0) dX1_letBarriersOvertake_20 (by decide) ?_
    refine z_istore (lv2 := [(4, .int ((zi 0))), (0, .ref x0), (1, .int x1), (2, .int x2), (3, .int u3)]) C dX1_letBarriersOvertake_21 (by decide) rfl ?_
    obtain ⟨o10, ho10, hf⟩ := zbind hf
    refine z_sub [1, 2, 3, 4, 0] rfl ?_
    refine wsX1_letBarriersOvertake_23 C hRm _ _ _ _ zfuel (σ, (zi 0)) o10 ho10 ?_
    intro z9 e9
    subst e9
    refine z_iinc (lv2 := [(3, .int (u3 + (zi 1))), (0, .ref x0), (1, .int x1), (2, .int x2)]) C (u3 + (zi 1)) dX1_letBarriersOvertake_61 3 rfl rfl (by decide) rfl ?_
    refine z_goto C 13 dX1_letBarriersOvertake_64 (by decide) ?_
    cases hf
    refine z_sub [1, 2, 3, 0] rfl ?_
    exact hk.1 _ rfl

theorem wsX1_letBarriersOvertake_13 (C : zC p s m args meth c cX1_letBarriersOvertake RX1 5 D Ca B En) (hRm : zRm R 4 92 cells slots) (x0 : Nat) (x1 : Int32) (x2 : Int32) (n : Nat) (z : (zS × Int32)) (x : zS) (hf : zloop (sX1_letBarriersOvertake_13 x0 x1 x2) n z = some x) (hk : (∀ o : zS, x = o → zW p l e R s m args below meth c cells slots Q D Ca B 5 o N 67 [] [])) : zW p l e R s m args below meth c cells slots Q D Ca B 5 z.1 N 13 [(0, .ref x0), (1, .int x1), (2, .int x2), (3, .int z.2)] [] := by
  refine zloop_W (P := fun z : (zS × Int32) => zW p l e R s m args below meth c cells slots Q D Ca B 5 z.1 N 13 [(0, .ref x0), (1, .int x1), (2, .int x2), (3, .int z.2)] []) (K := fun x : zS => (∀ o : zS, x = o → zW p l e R s m args below meth c cells slots Q D Ca B 5 o N 67 [] [])) ?_ n z x hf hk
  intro z y hy h1 h2
  refine wsX1_letBarriersOvertake_13b C hRm x0 x1 x2 z.1 z.2 y hy ⟨fun z2 e => h1 z2 e, fun o e => (h2 _ e) o rfl⟩
set_option maxRecDepth 100000 in
set_option maxHeartbeats 4000000 in
theorem wfX1_letBarriersOvertake (C : zC p s m args meth c cX1_letBarriersOvertake RX1 5 D Ca B En) (hRm : zRm R 4 92 cells slots) (σ : zS) (x0 : Nat) (x1 : Int32) (x2 : Int32) (τ : zS) (hf : fX1_letBarriersOvertake σ x0 x1 x2 = some τ) (hq : ∀ (pc : Nat) (lv : List (Nat × Value)), decode cX1_letBarriersOvertake pc = .ok (.return_, 1) → zW p l e R s m args below meth c cells slots Q D Ca B 5 τ N pc lv []) : zW p l e R s m args below meth c cells slots Q D Ca B 5 σ N 0 [(0, .ref x0), (1, .int x1), (2, .int x2)] [] := by
  unfold fX1_letBarriersOvertake at hf
  refine z_aload_n C dX1_letBarriersOvertake_0 rfl 0 rfl ?_
  obtain ⟨v1, hv1, hf⟩ := zbind hf
  refine gf_RX1_37 C hv1 dX1_letBarriersOvertake_1 ?_
  obtain ⟨c2, hc2, hf⟩ := zbind hf
  obtain ⟨kc2, hc2⟩ := zck_ok hc2
  refine z_callVi (As := []) (F0 := 4) (L0 := 92) C (mX0_isOvertaking l D Ca B En C.2.2.2.2.2.2.2.1 σ N v1  _ hc2) hRm kc2 rfl kw_649 kw_10 kw_646 kw_647 kw_648 hyX0_isOvertaking (Nat.le_of_ble_eq_true rfl) (Nat.le_of_ble_eq_true rfl) rfl rfl (Nat.le_of_ble_eq_true rfl) dX1_letBarriersOvertake_4 ?_
  refine z_if_ne C 11 dX1_letBarriersOvertake_7 (by decide) (fun q13 => ?_) (fun q13 => ?_)
  · rw [if_neg q13] at hf
    refine z_iload_n C dX1_letBarriersOvertake_11 rfl 1 rfl ?_
    refine z_istore_n (lv2 := [(3, .int x1), (0, .ref x0), (1, .int x1), (2, .int x2)]) C dX1_letBarriersOvertake_12 rfl (by decide) rfl ?_
    obtain ⟨o12, ho12, hf⟩ := zbind hf
    refine z_sub [1, 2, 3, 0] rfl ?_
    refine wsX1_letBarriersOvertake_13 C hRm _ _ _ zfuel (c2.1, x1) o12 ho12 ?_
    intro z9 e9
    subst e9
    cases hf
    exact hq _ _ dX1_letBarriersOvertake_67
  · rw [if_pos q13] at hf
    cases hf
    exact hq _ _ dX1_letBarriersOvertake_10

theorem mX1_letBarriersOvertake (l : Launch) (D : va_G) (Ca : Nat → ClassId) (B : Nat) (En : State → Prop) (hE : zEk B En) (σ : zS) (N : Nat) (x0 : Nat) (x1 : Int32) (x2 : Int32) (X : zS) (hf : fX1_letBarriersOvertake σ x0 x1 x2 = some X) : zMv l D Ca B En yX1_letBarriersOvertake cX1_letBarriersOvertake 5 (Option.none : Option Jvm.ClassFile.FieldType) 4 92 [.ref x0, .int x1, .int x2] σ N X () :=
  zMet_v (own := RX1) hE (by decide +kernel) rfl (Nat.le_of_ble_eq_true rfl) (fun p e s m args below meth c C hr hRm => wfX1_letBarriersOvertake C hRm σ x0 x1 x2 X hf (fun pc lv hd => zfin_v (r := ()) C hr hd))
theorem dX7_sinkOf_0 : decode cX7_sinkOf 0 = .ok (.aload_n 0, 1) := by decide +kernel
theorem dX7_sinkOf_1 : decode cX7_sinkOf 1 = .ok (.getfield 64, 3) := by decide +kernel
theorem dX7_sinkOf_4 : decode cX7_sinkOf 4 = .ok (.iconst 1, 1) := by decide +kernel
theorem dX7_sinkOf_5 : decode cX7_sinkOf 5 = .ok (.if_icmp .ge 7, 3) := by decide +kernel
theorem dX7_sinkOf_8 : decode cX7_sinkOf 8 = .ok (.iconst 0, 1) := by decide +kernel
theorem dX7_sinkOf_9 : decode cX7_sinkOf 9 = .ok (.goto 11, 3) := by decide +kernel
theorem dX7_sinkOf_12 : decode cX7_sinkOf 12 = .ok (.iload_n 1, 1) := by decide +kernel
theorem dX7_sinkOf_13 : decode cX7_sinkOf 13 = .ok (.iconst 4, 1) := by decide +kernel
theorem dX7_sinkOf_14 : decode cX7_sinkOf 14 = .ok (.idiv, 1) := by decide +kernel
theorem dX7_sinkOf_15 : decode cX7_sinkOf 15 = .ok (.aload_n 0, 1) := by decide +kernel
theorem dX7_sinkOf_16 : decode cX7_sinkOf 16 = .ok (.getfield 64, 3) := by decide +kernel
theorem dX7_sinkOf_19 : decode cX7_sinkOf 19 = .ok (.irem, 1) := by decide +kernel
theorem dX7_sinkOf_20 : decode cX7_sinkOf 20 = .ok (.ireturn, 1) := by decide +kernel
theorem hyX7_sinkOf : yX7_sinkOf.cls ≠ "java/lang/invoke/MethodHandle" ∧ yX7_sinkOf.cls ≠ "java/lang/invoke/VarHandle" ∧ (parseMethodDescriptor yX7_sinkOf.desc).map (fun d => d.parameters.length) = some 1 := ⟨by decide +kernel, by decide +kernel, by decide +kernel⟩
set_option maxRecDepth 100000 in
set_option maxHeartbeats 4000000 in
theorem wfX7_sinkOf (C : zC p s m args meth c cX7_sinkOf RX7 2 D Ca B En) (hRm : zRm R 0 0 cells slots) (σ : zS) (x0 : Nat) (x1 : Int32) (τ : zS) (r : Int32) (hf : fX7_sinkOf σ x0 x1 = some (τ, r)) (hq : ∀ (pc : Nat) (lv : List (Nat × Value)), decode cX7_sinkOf pc = .ok (.ireturn, 1) → zW p l e R s m args below meth c cells slots Q D Ca B 2 τ N pc lv [.int r]) : zW p l e R s m args below meth c cells slots Q D Ca B 2 σ N 0 [(0, .ref x0), (1, .int x1)] [] := by
  unfold fX7_sinkOf at hf
  refine z_aload_n C dX7_sinkOf_0 rfl 0 rfl ?_
  obtain ⟨v1, hv1, hf⟩ := zbind hf
  refine gf_RX7_64 C hv1 dX7_sinkOf_1 ?_
  refine z_iconst C (zi 1) dX7_sinkOf_4 (by decide) ?_
  refine z_icmp_ge C 12 dX7_sinkOf_5 (by decide) (fun q4 => ?_) (fun q4 => ?_)
  · rw [if_pos q4] at hf
    refine z_iload_n C dX7_sinkOf_12 rfl 1 rfl ?_
    refine z_iconst C (zi 4) dX7_sinkOf_13 (by decide) ?_
    refine z_idiv C dX7_sinkOf_14 (by decide) ?_
    refine z_aload_n C dX7_sinkOf_15 rfl 0 rfl ?_
    obtain ⟨v2, hv2, hf⟩ := zbind hf
    refine gf_RX7_64 C hv2 dX7_sinkOf_16 ?_
    obtain ⟨d3, hd3, hf⟩ := zbind hf
    refine z_irem C dX7_sinkOf_19 (znz_ok hd3) ?_
    cases hf
    exact hq _ _ dX7_sinkOf_20
  · rw [if_neg q4] at hf
    refine z_iconst C (zi 0) dX7_sinkOf_8 (by decide) ?_
    refine z_goto C 20 dX7_sinkOf_9 (by decide) ?_
    cases hf
    exact hq _ _ dX7_sinkOf_20

theorem mX7_sinkOf (l : Launch) (D : va_G) (Ca : Nat → ClassId) (B : Nat) (En : State → Prop) (hE : zEk B En) (σ : zS) (N : Nat) (x0 : Nat) (x1 : Int32) (X : zS × Int32) (hf : fX7_sinkOf σ x0 x1 = some X) : zMi l D Ca B En yX7_sinkOf cX7_sinkOf 2 (Option.some Jvm.ClassFile.FieldType.int) 0 0 [.ref x0, .int x1] σ N X.1 X.2 :=
  zMet_i (own := RX7) hE (by decide +kernel) rfl (Nat.le_of_ble_eq_true rfl) (fun p e s m args below meth c C hr hRm => wfX7_sinkOf C hRm σ x0 x1 X.1 X.2 hf (fun pc lv hd => zfin_i C hr hd))
end ZM
