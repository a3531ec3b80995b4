/-! Methods: X10_shownOf, X10_expected, X10_atRisk, X10_fullest, X10_feed, X10_truncate, X10_here, X10_wordHere, X10_next, X10_fine, X10_needs, X10_goOn, X10_isWord, X10_number, X10_numberBehind, X10_nameHere, X10_placeOf -/
section ZM
variable {p : Program} {l : Launch} {e : Env} {R : Room} {s : State} {m : MethodId} {args : Array Value} {below : List Frame} {meth : Method} {c : Code} {cells slots : Nat} {Q : State → Prop} {D : va_G} {Ca : Nat → ClassId} {B : Nat} {En : State → Prop} {N : Nat}
theorem dX10_shownOf_0 : decode cX10_shownOf 0 = .ok (.aload_n 0, 1) := by decide +kernel
theorem dX10_shownOf_1 : decode cX10_shownOf 1 = .ok (.iload_n 1, 1) := by decide +kernel
theorem dX10_shownOf_2 : decode cX10_shownOf 2 = .ok (.invokestatic 326, 3) := by decide +kernel
theorem dX10_shownOf_5 : decode cX10_shownOf 5 = .ok (.invokevirtual 96, 3) := by decide +kernel
theorem dX10_shownOf_8 : decode cX10_shownOf 8 = .ok (.ifCond .ne 5, 3) := by decide +kernel
theorem dX10_shownOf_11 : decode cX10_shownOf 11 = .ok (.iconst 0, 1) := by decide +kernel
theorem dX10_shownOf_12 : decode cX10_shownOf 12 = .ok (.ireturn, 1) := by decide +kernel
theorem dX10_shownOf_13 : decode cX10_shownOf 13 = .ok (.sipush 12996, 3) := by decide +kernel
theorem dX10_shownOf_16 : decode cX10_shownOf 16 = .ok (.aload_n 0, 1) := by decide +kernel
theorem dX10_shownOf_17 : decode cX10_shownOf 17 = .ok (.iload_n 1, 1) := by decide +kernel
theorem dX10_shownOf_18 : decode cX10_shownOf 18 = .ok (.invokevirtual 192, 3) := by decide +kernel
theorem dX10_shownOf_21 : decode cX10_shownOf 21 = .ok (.invokestatic 155, 3) := by decide +kernel
theorem dX10_shownOf_24 : decode cX10_shownOf 24 = .ok (.istore_n 2, 1) := by decide +kernel
theorem dX10_shownOf_25 : decode cX10_shownOf 25 = .ok (.iconst 0, 1) := by decide +kernel
theorem dX10_shownOf_26 : decode cX10_shownOf 26 = .ok (.istore_n 3, 1) := by decide +kernel
theorem dX10_shownOf_27 : decode cX10_shownOf 27 = .ok (.iconst 0, 1) := by decide +kernel
theorem dX10_shownOf_28 : decode cX10_shownOf 28 = .ok (.istore 4, 2) := by decide +kernel
theorem dX10_shownOf_30 : decode cX10_shownOf 30 = .ok (.iload 4, 2) := by decide +kernel
theorem dX10_shownOf_32 : decode cX10_shownOf 32 = .ok (.aload_n 0, 1) := by decide +kernel
theorem dX10_shownOf_33 : decode cX10_shownOf 33 = .ok (.getfield 21, 3) := by decide +kernel
theorem dX10_shownOf_36 : decode cX10_shownOf 36 = .ok (.iload_n 2, 1) := by decide +kernel
theorem dX10_shownOf_37 : decode cX10_shownOf 37 = .ok (.iaload, 1) := by decide +kernel
theorem dX10_shownOf_38 : decode cX10_shownOf 38 = .ok (.if_icmp .ge 28, 3) := by decide +kernel
theorem dX10_shownOf_41 : decode cX10_shownOf 41 = .ok (.aload_n 0, 1) := by decide +kernel
theorem dX10_shownOf_42 : decode cX10_shownOf 42 = .ok (.iload_n 2, 1) := by decide +kernel
theorem dX10_shownOf_43 : decode cX10_shownOf 43 = .ok (.iload 4, 2) := by decide +kernel
theorem dX10_shownOf_45 : decode cX10_shownOf 45 = .ok (.invokevirtual 100, 3) := by decide +kernel
theorem dX10_shownOf_48 : decode cX10_shownOf 48 = .ok (.sipush 20000, 3) := by decide +kernel
theorem dX10_shownOf_51 : decode cX10_shownOf 51 = .ok (.idiv, 1) := by decide +kernel
theorem dX10_shownOf_52 : decode cX10_shownOf 52 = .ok (.iload_n 1, 1) := by decide +kernel
theorem dX10_shownOf_53 : decode cX10_shownOf 53 = .ok (.if_icmp .ne 7, 3) := by decide +kernel
theorem dX10_shownOf_56 : decode cX10_shownOf 56 = .ok (.iload_n 3, 1) := by decide +kernel
theorem dX10_shownOf_57 : decode cX10_shownOf 57 = .ok (.iconst 1, 1) := by decide +kernel
theorem dX10_shownOf_58 : decode cX10_shownOf 58 = .ok (.iadd, 1) := by decide +kernel
theorem dX10_shownOf_59 : decode cX10_shownOf 59 = .ok (.istore_n 3, 1) := by decide +kernel
theorem dX10_shownOf_60 : decode cX10_shownOf 60 = .ok (.iinc 4 1, 3) := by decide +kernel
theorem dX10_shownOf_63 : decode cX10_shownOf 63 = .ok (.goto (-33), 3) := by decide +kernel
theorem dX10_shownOf_66 : decode cX10_shownOf 66 = .ok (.iload_n 3, 1) := by decide +kernel
theorem dX10_shownOf_67 : decode cX10_shownOf 67 = .ok (.ireturn, 1) := by decide +kernel
theorem hyX10_shownOf : yX10_shownOf.cls ≠ "java/lang/invoke/MethodHandle" ∧ yX10_shownOf.cls ≠ "java/lang/invoke/VarHandle" ∧ (parseMethodDescriptor yX10_shownOf.desc).map (fun d => d.parameters.length) = some 1 := ⟨by decide +kernel, by decide +kernel, by decide +kernel⟩
set_option maxRecDepth 100000 in
set_option maxHeartbeats 4000000 in
theorem wjX10_shownOf_60_L30 (C : zC p s m args meth c cX10_shownOf RX10 5 D Ca B En) (hRm : zRm R 2 45 cells slots) (σ : zS) (x0 : Nat) (x1 : Int32) (x2 : Int32) (x3 : Int32) (x4 : Int32)  (y : (zS × Int32 × Int32) ⊕ (zS × Int32)) (hf : jX10_shownOf_60_L30 σ x0 x1 x2 x3 x4  = some y) (hk : (∀ z : (zS × Int32 × Int32), y = .inl z → zW p l e R s m args below meth c cells slots Q D Ca B 5 z.1 N 30 [(0, .ref x0), (1, .int x1), (2, .int x2), (3, .int z.2.1), (4, .int z.2.2)] []) ∧ (∀ z : (zS × Int32), y = .inr z → zW p l e R s m args below meth c cells slots Q D Ca B 5 z.1 N 66 [(3, .int z.2)] [])) : zW p l e R s m args below meth c cells slots Q D Ca B 5 σ N 60 [(0, .ref x0), (1, .int x1), (2, .int x2), (3, .int x3), (4, .int x4)] [] := by
  unfold jX10_shownOf_60_L30 at hf
  refine z_iinc (lv2 := [(4, .int (x4 + (zi 1))), (0, .ref x0), (1, .int x1), (2, .int x2), (3, .int x3)]) C (x4 + (zi 1)) dX10_shownOf_60 4 rfl rfl (by decide) rfl ?_
  refine z_goto C 30 dX10_shownOf_63 (by decide) ?_
  cases hf
  refine z_sub [1, 2, 3, 4, 0] rfl ?_
  exact hk.1 _ rfl

set_option maxRecDepth 100000 in
set_option maxHeartbeats 4000000 in
theorem wsX10_shownOf_30b (C : zC p s m args meth c cX10_shownOf RX10 5 D Ca B En) (hRm : zRm R 2 45 cells slots) (x0 : Nat) (x1 : Int32) (x2 : Int32) (σ : zS) (u3 : Int32) (u4 : Int32) (y : (zS × Int32 × Int32) ⊕ (zS × Int32)) (hf : sX10_shownOf_30b x0 x1 x2 σ u3 u4 = some y) (hk : (∀ z : (zS × Int32 × Int32), y = .inl z → zW p l e R s m args below meth c cells slots Q D Ca B 5 z.1 N 30 [(0, .ref x0), (1, .int x1), (2, .int x2), (3, .int z.2.1), (4, .int z.2.2)] []) ∧ (∀ z : (zS × Int32), y = .inr z → zW p l e R s m args below meth c cells slots Q D Ca B 5 z.1 N 66 [(3, .int z.2)] [])) : zW p l e R s m args below meth c cells slots Q D Ca B 5 σ N 30 [(0, .ref x0), (1, .int x1), (2, .int x2), (3, .int u3), (4, .int u4)] [] := by
  unfold sX10_shownOf_30b at hf
  refine z_iload C dX10_shownOf_30 4 rfl ?_
  refine z_aload_n C dX10_shownOf_32 rfl 0 rfl ?_
  obtain ⟨v5, hv5, hf⟩ := zbind hf
  refine gf_RX10_21 C hv5 dX10_shownOf_33 ?_
  refine z_iload_n C dX10_shownOf_36 rfl 2 rfl ?_
  obtain ⟨v6, hv6, hf⟩ := zbind hf
  refine z_aI C hv6 dX10_shownOf_37 ?_
  refine z_icmp_ge C 66 dX10_shownOf_38 (by decide) (fun q9 => ?_) (fun q9 => ?_)
  · rw [if_pos q9] at hf
    cases hf
    refine z_sub [3] rfl ?_
    exact hk.2 _ rfl
  · rw [if_neg q9] at hf
    refine z_aload_n C dX10_shownOf_41 rfl 0 rfl ?_
    refine z_iload_n C dX10_shownOf_42 rfl 2 rfl ?_
    refine z_iload C dX10_shownOf_43 4 rfl ?_
    obtain ⟨c7, hc7, hf⟩ := zbind hf
    obtain ⟨kc7, hc7⟩ := zck_ok hc7
    refine z_callVi (As := [.int x2, .int u4]) (F0 := 2) (L0 := 45) C (mX10_at l D Ca B En C.2.2.2.2.2.2.2.1 σ N x0 x2 u4 _ hc7) hRm kc7 rfl kw_1439 kw_14 kw_1436 kw_1438 kp_45 hyX10_at (Nat.le_of_ble_eq_true rfl) (Nat.le_of_ble_eq_true rfl) rfl rfl (Nat.le_of_ble_eq_true rfl) dX10_shownOf_45 ?_
    refine z_sipush C (zi 20000) dX10_shownOf_48 (by decide) ?_
    refine z_idiv C dX10_shownOf_51 (by decide) ?_
    refine z_iload_n C dX10_shownOf_52 rfl 1 rfl ?_
    refine z_icmp_ne C 60 dX10_shownOf_53 (by decide) (fun q8 => ?_) (fun q8 => ?_)
    · rw [if_neg q8] at hf
      refine z_sub [0, 1, 2, 3, 4] rfl ?_
      exact wjX10_shownOf_60_L30 C hRm _ _ _ _ _ _  _ hf hk
    · rw [if_pos q8] at hf
      refine z_iload_n C dX10_shownOf_56 rfl 3 rfl ?_
      refine z_iconst C (zi 1) dX10_shownOf_57 (by decide) ?_
      refine z_iadd C dX10_shownOf_58 ?_
      refine z_istore_n (lv2 := [(3, .int (u3 + ((zi 1)))), (0, .ref x0), (1, .int x1), (2, .int x2), (4, .int u4)]) C dX10_shownOf_59 rfl (by decide) rfl ?_
      refine z_sub [1, 2, 3, 0, 4] rfl ?_
      exact wjX10_shownOf_60_L30 C hRm _ _ _ _ _ _  _ hf hk

theorem wsX10_shownOf_30 (C : zC p s m args meth c cX10_shownOf RX10 5 D Ca B En) (hRm : zRm R 2 45 cells slots) (x0 : Nat) (x1 : Int32) (x2 : Int32) (n : Nat) (z : (zS × Int32 × Int32)) (x : (zS × Int32)) (hf : zloop (sX10_shownOf_30 x0 x1 x2) n z = some x) (hk : (∀ o : (zS × Int32), x = o → zW p l e R s m args below meth c cells slots Q D Ca B 5 o.1 N 66 [(3, .int o.2)] [])) : zW p l e R s m args below meth c cells slots Q D Ca B 5 z.1 N 30 [(0, .ref x0), (1, .int x1), (2, .int x2), (3, .int z.2.1), (4, .int z.2.2)] [] := by
  refine zloop_W (P := fun z : (zS × Int32 × Int32) => zW p l e R s m args below meth c cells slots Q D Ca B 5 z.1 N 30 [(0, .ref x0), (1, .int x1), (2, .int x2), (3, .int z.2.1), (4, .int z.2.2)] []) (K := fun x : (zS × Int32) => (∀ o : (zS × Int32), x = o → zW p l e R s m args below meth c cells slots Q D Ca B 5 o.1 N 66 [(3, .int o.2)] [])) ?_ n z x hf hk
  intro z y hy h1 h2
  refine wsX10_shownOf_30b C hRm x0 x1 x2 z.1 z.2.1 z.2.2 y hy ⟨fun z2 e => h1 z2 e, fun o e => (h2 _ e) o rfl⟩
set_option maxRecDepth 100000 in
set_option maxHeartbeats 4000000 in
theorem wfX10_shownOf (C : zC p s m args meth c cX10_shownOf RX10 5 D Ca B En) (hRm : zRm R 2 45 cells slots) (σ : zS) (x0 : Nat) (x1 : Int32) (τ : zS) (r : Int32) (hf : fX10_shownOf σ x0 x1 = some (τ, r)) (hq : ∀ (pc : Nat) (lv : List (Nat × Value)), decode cX10_shownOf pc = .ok (.ireturn, 1) → zW p l e R s m args below meth c cells slots Q D Ca B 5 τ N pc lv [.int r]) : zW p l e R s m args below meth c cells slots Q D Ca B 5 σ N 0 [(0, .ref x0), (1, .int x1)] [] := by
  unfold fX10_shownOf at hf
  refine z_aload_n C dX10_shownOf_0 rfl 0 rfl ?_
  refine z_iload_n C dX10_shownOf_1 rfl 1 rfl ?_
  obtain ⟨c1, hc1, hf⟩ := zbind hf
  refine z_callSi (As := [.int x1]) (F0 := 2) (L0 := 45) C (mX10_isKey l D Ca B En C.2.2.2.2.2.2.2.1 σ N x1 _ hc1) hRm kw_1713 kw_14 kw_1711 kw_1712 hyX10_isKey (Nat.le_of_ble_eq_true rfl) (Nat.le_of_ble_eq_true rfl) rfl rfl (Nat.le_of_ble_eq_true rfl) dX10_shownOf_2 ?_
  obtain ⟨c2, hc2, hf⟩ := zbind hf
  obtain ⟨kc2, hc2⟩ := zck_ok hc2
  refine z_callVi (As := [.int c1.2]) (F0 := 2) (L0 := 45) C (mX10_is l D Ca B En C.2.2.2.2.2.2.2.1 c1.1 N x0 c1.2 _ hc2) hRm kc2 rfl kw_1373 kw_14 kw_1370 kw_1372 kp_37 hyX10_is (Nat.le_of_ble_eq_true rfl) (Nat.le_of_ble_eq_true rfl) rfl rfl (Nat.le_of_ble_eq_true rfl) dX10_shownOf_5 ?_
  refine z_if_ne C 13 dX10_shownOf_8 (by decide) (fun q11 => ?_) (fun q11 => ?_)
  · rw [if_neg q11] at hf
    refine z_sipush C (zi 12996) dX10_shownOf_13 (by decide) ?_
    refine z_aload_n C dX10_shownOf_16 rfl 0 rfl ?_
    refine z_iload_n C dX10_shownOf_17 rfl 1 rfl ?_
    obtain ⟨c3, hc3, hf⟩ := zbind hf
    obtain ⟨kc3, hc3⟩ := zck_ok hc3
    refine z_callVi (As := [.int x1]) (F0 := 2) (L0 := 45) C (mX10_sinkOf l D Ca B En C.2.2.2.2.2.2.2.1 c2.1 N x0 x1 _ hc3) hRm kc3 rfl kw_1516 kw_14 kw_1513 kw_1515 kp_62 hyX10_sinkOf (Nat.le_of_ble_eq_true rfl) (Nat.le_of_ble_eq_true rfl) rfl rfl (Nat.le_of_ble_eq_true rfl) dX10_shownOf_18 ?_
    obtain ⟨c4, hc4, hf⟩ := zbind hf
    refine z_callSi (As := [.int ((zi 12996)), .int c3.2]) (F0 := 2) (L0 := 45) C (mX10_results l D Ca B En C.2.2.2.2.2.2.2.1 c3.1 N ((zi 12996)) c3.2 _ hc4) hRm kw_1431 kw_14 kw_1429 kw_1430 hyX10_results (Nat.le_of_ble_eq_true rfl) (Nat.le_of_ble_eq_true rfl) rfl rfl (Nat.le_of_ble_eq_true rfl) dX10_shownOf_21 ?_
    refine z_istore_n (lv2 := [(2, .int c4.2), (0, .ref x0), (1, .int x1)]) C dX10_shownOf_24 rfl (by decide) rfl ?_
    refine z_iconst C (zi 0) dX10_shownOf_25 (by decide) ?_
    refine z_istore_n (lv2 := [(3, .int ((zi 0))), (2, .int c4.2), (0, .ref x0), (1, .int x1)]) C dX10_shownOf_26 rfl (by decide) rfl ?_
    refine z_iconst C (zi 0) dX10_shownOf_27 (by decide) ?_
    refine z_istore (lv2 := [(4, .int ((zi 0))), (3, .int ((zi 0))), (2, .int c4.2), (0, .ref x0), (1, .int x1)]) C dX10_shownOf_28 (by decide) rfl ?_
    obtain ⟨o10, ho10, hf⟩ := zbind hf
    refine z_sub [3, 4, 2, 1, 0] rfl ?_
    refine wsX10_shownOf_30 C hRm _ _ _ zfuel (c4.1, (zi 0), (zi 0)) o10 ho10 ?_
    intro z9 e9
    subst e9
    refine z_iload_n C dX10_shownOf_66 rfl 0 rfl ?_
    cases hf
    exact hq _ _ dX10_shownOf_67
  · rw [if_pos q11] at hf
    refine z_iconst C (zi 0) dX10_shownOf_11 (by decide) ?_
    cases hf
    exact hq _ _ dX10_shownOf_12

theorem mX10_shownOf (l : Launch) (D : va_G) (Ca : Nat → ClassId) (B : Nat) (En : State → Prop) (hE : zEk B En) (σ : zS) (N : Nat) (x0 : Nat) (x1 : Int32) (X : zS × Int32) (hf : fX10_shownOf σ x0 x1 = some X) : zMi l D Ca B En yX10_shownOf cX10_shownOf 5 (Option.some Jvm.ClassFile.FieldType.int) 2 45 [.ref x0, .int x1] σ N X.1 X.2 :=
  zMet_i (own := RX10) hE (by decide +kernel) rfl (Nat.le_of_ble_eq_true rfl) (fun p e s m args below meth c C hr hRm => wfX10_shownOf C hRm σ x0 x1 X.1 X.2 hf (fun pc lv hd => zfin_i C hr hd))
theorem dX10_expected_0 : decode cX10_expected 0 = .ok (.aload_n 0, 1) := by decide +kernel
theorem dX10_expected_1 : decode cX10_expected 1 = .ok (.iload_n 1, 1) := by decide +kernel
theorem dX10_expected_2 : decode cX10_expected 2 = .ok (.invokestatic 326, 3) := by decide +kernel
theorem dX10_expected_5 : decode cX10_expected 5 = .ok (.ifCond .eq 12, 3) := by decide +kernel
theorem dX10_expected_8 : decode cX10_expected 8 = .ok (.iload_n 2, 1) := by decide +kernel
theorem dX10_expected_9 : decode cX10_expected 9 = .ok (.iconst 1, 1) := by decide +kernel
theorem dX10_expected_10 : decode cX10_expected 10 = .ok (.if_icmp .lt 7, 3) := by decide +kernel
theorem dX10_expected_13 : decode cX10_expected 13 = .ok (.iconst 1, 1) := by decide +kernel
theorem dX10_expected_14 : decode cX10_expected 14 = .ok (.goto 4, 3) := by decide +kernel
theorem dX10_expected_17 : decode cX10_expected 17 = .ok (.iconst 0, 1) := by decide +kernel
theorem dX10_expected_18 : decode cX10_expected 18 = .ok (.invokevirtual 96, 3) := by decide +kernel
theorem dX10_expected_21 : decode cX10_expected 21 = .ok (.ifCond .ne 5, 3) := by decide +kernel
theorem dX10_expected_24 : decode cX10_expected 24 = .ok (.iconst 0, 1) := by decide +kernel
theorem dX10_expected_25 : decode cX10_expected 25 = .ok (.ireturn, 1) := by decide +kernel
theorem dX10_expected_26 : decode cX10_expected 26 = .ok (.iload_n 1, 1) := by decide +kernel
theorem dX10_expected_27 : decode cX10_expected 27 = .ok (.iconst 4, 1) := by decide +kernel
theorem dX10_expected_28 : decode cX10_expected 28 = .ok (.irem, 1) := by decide +kernel
theorem dX10_expected_29 : decode cX10_expected 29 = .ok (.istore_n 3, 1) := by decide +kernel
theorem dX10_expected_30 : decode cX10_expected 30 = .ok (.aload_n 0, 1) := by decide +kernel
theorem dX10_expected_31 : decode cX10_expected 31 = .ok (.iload_n 3, 1) := by decide +kernel
theorem dX10_expected_32 : decode cX10_expected 32 = .ok (.invokevirtual 289, 3) := by decide +kernel
theorem dX10_expected_35 : decode cX10_expected 35 = .ok (.ifCond .ne 5, 3) := by decide +kernel
theorem dX10_expected_38 : decode cX10_expected 38 = .ok (.iconst (-1), 1) := by decide +kernel
theorem dX10_expected_39 : decode cX10_expected 39 = .ok (.ireturn, 1) := by decide +kernel
theorem dX10_expected_40 : decode cX10_expected 40 = .ok (.iload_n 2, 1) := by decide +kernel
theorem dX10_expected_41 : decode cX10_expected 41 = .ok (.istore 4, 2) := by decide +kernel
theorem dX10_expected_43 : decode cX10_expected 43 = .ok (.iconst 0, 1) := by decide +kernel
theorem dX10_expected_44 : decode cX10_expected 44 = .ok (.istore 5, 2) := by decide +kernel
theorem dX10_expected_46 : decode cX10_expected 46 = .ok (.iconst 0, 1) := by decide +kernel
theorem dX10_expected_47 : decode cX10_expected 47 = .ok (.istore 6, 2) := by decide +kernel
theorem dX10_expected_49 : decode cX10_expected 49 = .ok (.iload 6, 2) := by decide +kernel
theorem dX10_expected_51 : decode cX10_expected 51 = .ok (.aload_n 0, 1) := by decide +kernel
theorem dX10_expected_52 : decode cX10_expected 52 = .ok (.getfield 7, 3) := by decide +kernel
theorem dX10_expected_55 : decode cX10_expected 55 = .ok (.iload_n 3, 1) := by decide +kernel
theorem dX10_expected_56 : decode cX10_expected 56 = .ok (.iaload, 1) := by decide +kernel
theorem dX10_expected_57 : decode cX10_expected 57 = .ok (.if_icmp .ge 46, 3) := by decide +kernel
theorem dX10_expected_60 : decode cX10_expected 60 = .ok (.iload 4, 2) := by decide +kernel
theorem dX10_expected_62 : decode cX10_expected 62 = .ok (.ifCond .le 41, 3) := by decide +kernel
theorem dX10_expected_65 : decode cX10_expected 65 = .ok (.aload_n 0, 1) := by decide +kernel
theorem dX10_expected_66 : decode cX10_expected 66 = .ok (.iload_n 3, 1) := by decide +kernel
theorem dX10_expected_67 : decode cX10_expected 67 = .ok (.iload 6, 2) := by decide +kernel
theorem dX10_expected_69 : decode cX10_expected 69 = .ok (.invokevirtual 185, 3) := by decide +kernel
theorem dX10_expected_72 : decode cX10_expected 72 = .ok (.iload_n 1, 1) := by decide +kernel
theorem dX10_expected_73 : decode cX10_expected 73 = .ok (.if_icmp .eq 6, 3) := by decide +kernel
theorem dX10_expected_76 : decode cX10_expected 76 = .ok (.goto 21, 3) := by decide +kernel
theorem dX10_expected_79 : decode cX10_expected 79 = .ok (.iload 5, 2) := by decide +kernel
theorem dX10_expected_81 : decode cX10_expected 81 = .ok (.aload_n 0, 1) := by decide +kernel
theorem dX10_expected_82 : decode cX10_expected 82 = .ok (.iload_n 3, 1) := by decide +kernel
theorem dX10_expected_83 : decode cX10_expected 83 = .ok (.iload 6, 2) := by decide +kernel
theorem dX10_expected_85 : decode cX10_expected 85 = .ok (.invokevirtual 209, 3) := by decide +kernel
theorem dX10_expected_88 : decode cX10_expected 88 = .ok (.iadd, 1) := by decide +kernel
theorem dX10_expected_89 : decode cX10_expected 89 = .ok (.istore 5, 2) := by decide +kernel
theorem dX10_expected_91 : decode cX10_expected 91 = .ok (.iload 4, 2) := by decide +kernel
theorem dX10_expected_93 : decode cX10_expected 93 = .ok (.iconst 1, 1) := by decide +kernel
theorem dX10_expected_94 : decode cX10_expected 94 = .ok (.isub, 1) := by decide +kernel
theorem dX10_expected_95 : decode cX10_expected 95 = .ok (.istore 4, 2) := by decide +kernel
theorem dX10_expected_97 : decode cX10_expected 97 = .ok (.iinc 6 1, 3) := by decide +kernel
theorem dX10_expected_100 : decode cX10_expected 100 = .ok (.goto (-51), 3) := by decide +kernel
theorem dX10_expected_103 : decode cX10_expected 103 = .ok (.iload 4, 2) := by decide +kernel
theorem dX10_expected_105 : decode cX10_expected 105 = .ok (.ifCond .le 7, 3) := by decide +kernel
theorem dX10_expected_108 : decode cX10_expected 108 = .ok (.iconst (-1), 1) := by decide +kernel
theorem dX10_expected_109 : decode cX10_expected 109 = .ok (.goto 5, 3) := by decide +kernel
theorem dX10_expected_112 : decode cX10_expected 112 = .ok (.iload 5, 2) := by decide +kernel
theorem dX10_expected_114 : decode cX10_expected 114 = .ok (.ireturn, 1) := by decide +kernel
theorem hyX10_expected : yX10_expected.cls ≠ "java/lang/invoke/MethodHandle" ∧ yX10_expected.cls ≠ "java/lang/invoke/VarHandle" ∧ (parseMethodDescriptor yX10_expected.desc).map (fun d => d.parameters.length) = some 2 := ⟨by decide +kernel, by decide +kernel, by decide +kernel⟩
set_option maxRecDepth 100000 in
set_option maxHeartbeats 4000000 in
theorem wjX10_expected_97_L49 (C : zC p s m args meth c cX10_expected RX10 7 D Ca B En) (hRm : zRm R 2 46 cells slots) (σ : zS) (x0 : Nat) (x1 : Int32) (x3 : Int32) (x4 : Int32) (x5 : Int32) (x6 : Int32)  (y : (zS × Int32 × Int32 × Int32) ⊕ (zS × Int32 × Int32)) (hf : jX10_expected_97_L49 σ x0 x1 x3 x4 x5 x6  = some y) (hk : (∀ z : (zS × Int32 × Int32 × Int32), y = .inl z → zW p l e R s m args below meth c cells slots Q D Ca B 7 z.1 N 49 [(0, .ref x0), (1, .int x1), (3, .int x3), (4, .int z.2.1), (5, .int z.2.2.1), (6, .int z.2.2.2)] []) ∧ (∀ z : (zS × Int32 × Int32), y = .inr z → zW p l e R s m args below meth c cells slots Q D Ca B 7 z.1 N 103 [(4, .int z.2.1), (5, .int z.2.2)] [])) : zW p l e R s m args below meth c cells slots Q D Ca B 7 σ N 97 [(0, .ref x0), (1, .int x1), (3, .int x3), (4, .int x4), (5, .int x5), (6, .int x6)] [] := by
  unfold jX10_expected_97_L49 at hf
  refine z_iinc (lv2 := [(6, .int (x6 + (zi 1))), (0, .ref x0), (1, .int x1), (3, .int x3), (4, .int x4), (5, .int x5)]) C (x6 + (zi 1)) dX10_expected_97 5 rfl rfl (by decide) rfl ?_
  refine z_goto C 49 dX10_expected_100 (by decide) ?_
  cases hf
  refine z_sub [1, 2, 3, 4, 5, 0] rfl ?_
  exact hk.1 _ rfl

set_option maxRecDepth 100000 in
set_option maxHeartbeats 4000000 in
theorem wsX10_expected_49b (C : zC p s m args meth c cX10_expected RX10 7 D Ca B En) (hRm : zRm R 2 46 cells slots) (x0 : Nat) (x1 : Int32) (x3 : Int32) (σ : zS) (u4 : Int32) (u5 : Int32) (u6 : Int32) (y : (zS × Int32 × Int32 × Int32) ⊕ (zS × Int32 × Int32)) (hf : sX10_expected_49b x0 x1 x3 σ u4 u5 u6 = some y) (hk : (∀ z : (zS × Int32 × Int32 × Int32), y = .inl z → zW p l e R s m args below meth c cells slots Q D Ca B 7 z.1 N 49 [(0, .ref x0), (1, .int x1), (3, .int x3), (4, .int z.2.1), (5, .int z.2.2.1), (6, .int z.2.2.2)] []) ∧ (∀ z : (zS × Int32 × Int32), y = .inr z → zW p l e R s m args below meth c cells slots Q D Ca B 7 z.1 N 103 [(4, .int z.2.1), (5, .int z.2.2)] [])) : zW p l e R s m args below meth c cells slots Q D Ca B 7 σ N 49 [(0, .ref x0), (1, .int x1), (3, .int x3), (4, .int u4), (5, .int u5), (6, .int u6)] [] := by
  unfold sX10_expected_49b at hf
  refine z_iload C dX10_expected_49 5 rfl ?_
  refine z_aload_n C dX10_expected_51 rfl 0 rfl ?_
  obtain ⟨v4, hv4, hf⟩ := zbind hf
  refine gf_RX10_7 C hv4 dX10_expected_52 ?_
  refine z_iload_n C dX10_expected_55 rfl 2 rfl ?_
  obtain ⟨v5, hv5, hf⟩ := zbind hf
  refine z_aI C hv5 dX10_expected_56 ?_
  refine z_icmp_ge C 103 dX10_expected_57 (by decide) (fun q10 => ?_) (fun q10 => ?_)
  · rw [if_pos q10] at hf
    cases hf
    refine z_sub [3, 4] rfl ?_
    exact hk.2 _ rfl
  · rw [if_neg q10] at hf
    refine z_iload C dX10_expected_60 3 rfl ?_
    refine z_if_le C 103 dX10_expected_62 (by decide) (fun q9 => ?_) (fun q9 => ?_)
    · rw [if_pos q9] at hf
      cases hf
      refine z_sub [3, 4] rfl ?_
      exact hk.2 _ rfl
    · rw [if_neg q9] at hf
      refine z_aload_n C dX10_expected_65 rfl 0 rfl ?_
      refine z_iload_n C dX10_expected_66 rfl 2 rfl ?_
      refine z_iload C dX10_expected_67 5 rfl ?_
      obtain ⟨c6, hc6, hf⟩ := zbind hf
      obtain ⟨kc6, hc6⟩ := zck_ok hc6
      refine z_callVi (As := [.int x3, .int u6]) (F0 := 2) (L0 := 46) C (mX10_keyOf l D Ca B En C.2.2.2.2.2.2.2.1 σ N x0 x3 u6 _ hc6) hRm kc6 rfl kw_1454 kw_14 kw_1451 kw_1453 kp_48 hyX10_keyOf (Nat.le_of_ble_eq_true rfl) (Nat.le_of_ble_eq_true rfl) rfl rfl (Nat.le_of_ble_eq_true rfl) dX10_expected_69 ?_
      refine z_iload_n C dX10_expected_72 rfl 1 rfl ?_
      refine z_icmp_eq C 79 dX10_expected_73 (by decide) (fun q8 => ?_) (fun q8 => ?_)
      · rw [if_pos q8] at hf
        refine z_iload C dX10_expected_79 4 rfl ?_
        refine z_aload_n C dX10_expected_81 rfl 0 rfl ?_
        refine z_iload_n C dX10_expected_82 rfl 2 rfl ?_
        refine z_iload C dX10_expected_83 5 rfl ?_
        obtain ⟨c7, hc7, hf⟩ := zbind hf
        obtain ⟨kc7, hc7⟩ := zck_ok hc7
        refine z_callVi (As := [.int x3, .int u6]) (F0 := 2) (L0 := 46) C (mX10_valueOf l D Ca B En C.2.2.2.2.2.2.2.1 c6.1 N x0 x3 u6 _ hc7) hRm kc7 rfl kw_1528 kw_14 kw_1525 kw_1527 kp_65 hyX10_valueOf (Nat.le_of_ble_eq_true rfl) (Nat.le_of_ble_eq_true rfl) rfl rfl (Nat.le_of_ble_eq_true rfl) dX10_expected_85 ?_
        refine z_iadd C dX10_expected_88 ?_
        refine z_istore (lv2 := [(5, .int (u5 + c7.2)), (0, .ref x0), (1, .int x1), (3, .int x3), (4, .int u4), (6, .int u6)]) C dX10_expected_89 (by decide) rfl ?_
        refine z_iload C dX10_expected_91 4 rfl ?_
        refine z_iconst C (zi 1) dX10_expected_93 (by decide) ?_
        refine z_isub C dX10_expected_94 ?_
        refine z_istore (lv2 := [(4, .int (u4 - ((zi 1)))), (5, .int (u5 + c7.2)), (0, .ref x0), (1, .int x1), (3, .int x3), (6, .int u6)]) C dX10_expected_95 (by decide) rfl ?_
        refine z_sub [2, 3, 4, 0, 1, 5] rfl ?_
        exact wjX10_expected_97_L49 C hRm _ _ _ _ _ _ _  _ hf hk
      · rw [if_neg q8] at hf
        refine z_goto C 97 dX10_expected_76 (by decide) ?_
        refine z_sub [0, 1, 2, 3, 4, 5] rfl ?_
        exact wjX10_expected_97_L49 C hRm _ _ _ _ _ _ _  _ hf hk

theorem wsX10_expected_49 (C : zC p s m args meth c cX10_expected RX10 7 D Ca B En) (hRm : zRm R 2 46 cells slots) (x0 : Nat) (x1 : Int32) (x3 : Int32) (n : Nat) (z : (zS × Int32 × Int32 × Int32)) (x : (zS × Int32 × Int32)) (hf : zloop (sX10_expected_49 x0 x1 x3) n z = some x) (hk : (∀ o : (zS × Int32 × Int32), x = o → zW p l e R s m args below meth c cells slots Q D Ca B 7 o.1 N 103 [(4, .int o.2.1), (5, .int o.2.2)] [])) : zW p l e R s m args below meth c cells slots Q D Ca B 7 z.1 N 49 [(0, .ref x0), (1, .int x1), (3, .int x3), (4, .int z.2.1), (5, .int z.2.2.1), (6, .int z.2.2.2)] [] := by
  refine zloop_W (P := fun z : (zS × Int32 × Int32 × Int32) => zW p l e R s m args below meth c cells slots Q D Ca B 7 z.1 N 49 [(0, .ref x0), (1, .int x1), (3, .int x3), (4, .int z.2.1), (5, .int z.2.2.1), (6, .int z.2.2.2)] []) (K := fun x : (zS × Int32 × Int32) => (∀ o : (zS × Int32 × Int32), x = o → zW p l e R s m args below meth c cells slots Q D Ca B 7 o.1 N 103 [(4, .int o.2.1), (5, .int o.2.2)] [])) ?_ n z x hf hk
  intro z y hy h1 h2
  refine wsX10_expected_49b C hRm x0 x1 x3 z.1 z.2.1 z.2.2.1 z.2.2.2 y hy ⟨fun z2 e => h1 z2 e, fun o e => (h2 _ e) o rfl⟩
set_option maxRecDepth 100000 in
set_option maxHeartbeats 4000000 in
theorem wjX10_expected_103 (C : zC p s m args meth c cX10_expected RX10 7 D Ca B En) (hRm : zRm R 2 46 cells slots) (σ : zS) (x4 : Int32) (x5 : Int32)  (τ : zS) (r : Int32) (hf : jX10_expected_103 σ x4 x5  = some (τ, r)) (hq : ∀ (pc : Nat) (lv : List (Nat × Value)), decode cX10_expected pc = .ok (.ireturn, 1) → zW p l e R s m args below meth c cells slots Q D Ca B 7 τ N pc lv [.int r]) : zW p l e R s m args below meth c cells slots Q D Ca B 7 σ N 103 [(4, .int x4), (5, .int x5)] [] := by
  unfold jX10_expected_103 at hf
  refine z_iload C dX10_expected_103 0 rfl ?_
  refine z_if_le C 112 dX10_expected_105 (by decide) (fun q12 => ?_) (fun q12 => ?_)
  · rw [if_pos q12] at hf
    refine z_iload C dX10_expected_112 1 rfl ?_
    cases hf
    exact hq _ _ dX10_expected_114
  · rw [if_neg q12] at hf
    refine z_iconst C (zi (-1)) dX10_expected_108 (by decide) ?_
    refine z_goto C 114 dX10_expected_109 (by decide) ?_
    cases hf
    exact hq _ _ dX10_expected_114

set_option maxRecDepth 100000 in
set_option maxHeartbeats 4000000 in
theorem wjX10_expected_18 (C : zC p s m args meth c cX10_expected RX10 7 D Ca B En) (hRm : zRm R 2 46 cells slots) (σ : zS) (x0 : Nat) (x1 : Int32) (x2 : Int32) (y0 : Int32) (y1 : Nat) (τ : zS) (r : Int32) (hf : jX10_expected_18 σ x0 x1 x2 y0 y1 = some (τ, r)) (hq : ∀ (pc : Nat) (lv : List (Nat × Value)), decode cX10_expected pc = .ok (.ireturn, 1) → zW p l e R s m args below meth c cells slots Q D Ca B 7 τ N pc lv [.int r]) : zW p l e R s m args below meth c cells slots Q D Ca B 7 σ N 18 [(0, .ref x0), (1, .int x1), (2, .int x2)] [.int y0, .ref y1] := by
  unfold jX10_expected_18 at hf
  obtain ⟨c2, hc2, hf⟩ := zbind hf
  obtain ⟨kc2, hc2⟩ := zck_ok hc2
  refine z_callVi (As := [.int y0]) (F0 := 2) (L0 := 46) C (mX10_is l D Ca B En C.2.2.2.2.2.2.2.1 σ N y1 y0 _ hc2) hRm kc2 rfl kw_1373 kw_14 kw_1370 kw_1372 kp_37 hyX10_is (Nat.le_of_ble_eq_true rfl) (Nat.le_of_ble_eq_true rfl) rfl rfl (Nat.le_of_ble_eq_true rfl) dX10_expected_18 ?_
  refine z_if_ne C 26 dX10_expected_21 (by decide) (fun q14 => ?_) (fun q14 => ?_)
  · rw [if_neg q14] at hf
    refine z_iload_n C dX10_expected_26 rfl 1 rfl ?_
    refine z_iconst C (zi 4) dX10_expected_27 (by decide) ?_
    refine z_irem C dX10_expected_28 (by decide) ?_
    refine z_istore_n (lv2 := [(3, .int (x1 - x1 / ((zi 4)) * ((zi 4)))), (0, .ref x0), (1, .int x1), (2, .int x2)]) C dX10_expected_29 rfl (by decide) rfl ?_
    refine z_aload_n C dX10_expected_30 rfl 1 rfl ?_
    refine z_iload_n C dX10_expected_31 rfl 0 rfl ?_
    obtain ⟨c3, hc3, hf⟩ := zbind hf
    obtain ⟨kc3, hc3⟩ := zck_ok hc3
    refine z_callVi (As := [.int (x1 - x1 / ((zi 4)) * ((zi 4)))]) (F0 := 2) (L0 := 46) C (mX10_isSource l D Ca B En C.2.2.2.2.2.2.2.1 c2.1 N x0 (x1 - x1 / ((zi 4)) * ((zi 4))) _ hc3) hRm kc3 rfl kw_1632 kw_14 kw_1629 kw_1631 kp_83 hyX10_isSource (Nat.le_of_ble_eq_true rfl) (Nat.le_of_ble_eq_true rfl) rfl rfl (Nat.le_of_ble_eq_true rfl) dX10_expected_32 ?_
    refine z_if_ne C 40 dX10_expected_35 (by decide) (fun q13 => ?_) (fun q13 => ?_)
    · rw [if_neg q13] at hf
      refine z_iload_n C dX10_expected_40 rfl 3 rfl ?_
      refine z_istore (lv2 := [(4, .int x2), (3, .int (x1 - x1 / ((zi 4)) * ((zi 4)))), (0, .ref x0), (1, .int x1), (2, .int x2)]) C dX10_expected_41 (by decide) rfl ?_
      refine z_iconst C (zi 0) dX10_expected_43 (by decide) ?_
      refine z_istore (lv2 := [(5, .int ((zi 0))), (4, .int x2), (3, .int (x1 - x1 / ((zi 4)) * ((zi 4)))), (0, .ref x0), (1, .int x1), (2, .int x2)]) C dX10_expected_44 (by decide) rfl ?_
      refine z_iconst C (zi 0) dX10_expected_46 (by decide) ?_
      refine z_istore (lv2 := [(6, .int ((zi 0))), (5, .int ((zi 0))), (4, .int x2), (3, .int (x1 - x1 / ((zi 4)) * ((zi 4)))), (0, .ref x0), (1, .int x1), (2, .int x2)]) C dX10_expected_47 (by decide) rfl ?_
      obtain ⟨o11, ho11, hf⟩ := zbind hf
      refine z_sub [4, 5, 3, 2, 1, 0] rfl ?_
      refine wsX10_expected_49 C hRm _ _ _ zfuel (c3.1, x2, (zi 0), (zi 0)) o11 ho11 ?_
      intro z9 e9
      subst e9
      refine z_sub [0, 1] rfl ?_
      exact wjX10_expected_103 C hRm _ _ _  _ _ hf hq
    · rw [if_pos q13] at hf
      refine z_iconst C (zi (-1)) dX10_expected_38 (by decide) ?_
      cases hf
      exact hq _ _ dX10_expected_39
  · rw [if_pos q14] at hf
    refine z_iconst C (zi 0) dX10_expected_24 (by decide) ?_
    cases hf
    exact hq _ _ dX10_expected_25

set_option maxRecDepth 100000 in
set_option maxHeartbeats 4000000 in
theorem wjX10_expected_17 (C : zC p s m args meth c cX10_expected RX10 7 D Ca B En) (hRm : zRm R 2 46 cells slots) (σ : zS) (x0 : Nat) (x1 : Int32) (x2 : Int32) (y0 : Nat) (τ : zS) (r : Int32) (hf : jX10_expected_17 σ x0 x1 x2 y0 = some (τ, r)) (hq : ∀ (pc : Nat) (lv : List (Nat × Value)), decode cX10_expected pc = .ok (.ireturn, 1) → zW p l e R s m args below meth c cells slots Q D Ca B 7 τ N pc lv [.int r]) : zW p l e R s m args below meth c cells slots Q D Ca B 7 σ N 17 [(0, .ref x0), (1, .int x1), (2, .int x2)] [.ref y0] := by
  unfold jX10_expected_17 at hf
  refine z_iconst C (zi 0) dX10_expected_17 (by decide) ?_
  refine z_sub [0, 1, 2] rfl ?_
  exact wjX10_expected_18 C hRm _ _ _ _ _ _ _ _ hf hq

set_option maxRecDepth 100000 in
set_option maxHeartbeats 4000000 in
theorem wfX10_expected (C : zC p s m args meth c cX10_expected RX10 7 D Ca B En) (hRm : zRm R 2 46 cells slots) (σ : zS) (x0 : Nat) (x1 : Int32) (x2 : Int32) (τ : zS) (r : Int32) (hf : fX10_expected σ x0 x1 x2 = some (τ, r)) (hq : ∀ (pc : Nat) (lv : List (Nat × Value)), decode cX10_expected pc = .ok (.ireturn, 1) → zW p l e R s m args below meth c cells slots Q D Ca B 7 τ N pc lv [.int r]) : zW p l e R s m args below meth c cells slots Q D Ca B 7 σ N 0 [(0, .ref x0), (1, .int x1), (2, .int x2)] [] := by
  unfold fX10_expected at hf
  refine z_aload_n C dX10_expected_0 rfl 0 rfl ?_
  refine z_iload_n C dX10_expected_1 rfl 1 rfl ?_
  obtain ⟨c1, hc1, hf⟩ := zbind hf
  refine z_callSi (As := [.int x1]) (F0 := 2) (L0 := 46) C (mX10_isKey l D Ca B En C.2.2.2.2.2.2.2.1 σ N x1 _ hc1) hRm kw_1713 kw_14 kw_1711 kw_1712 hyX10_isKey (Nat.le_of_ble_eq_true rfl) (Nat.le_of_ble_eq_true rfl) rfl rfl (Nat.le_of_ble_eq_true rfl) dX10_expected_2 ?_
  refine z_if_eq C 17 dX10_expected_5 (by decide) (fun q16 => ?_) (fun q16 => ?_)
  · rw [if_pos q16] at hf
    refine z_sub [0, 1, 2] rfl ?_
    exact wjX10_expected_17 C hRm _ _ _ _ _ _ _ hf hq
  · rw [if_neg q16] at hf
    refine z_iload_n C dX10_expected_8 rfl 2 rfl ?_
    refine z_iconst C (zi 1) dX10_expected_9 (by decide) ?_
    refine z_icmp_lt C 17 dX10_expected_10 (by decide) (fun q15 => ?_) (fun q15 => ?_)
    · rw [if_pos q15] at hf
      refine z_sub [0, 1, 2] rfl ?_
      exact wjX10_expected_17 C hRm _ _ _ _ _ _ _ hf hq
    · rw [if_neg q15] at hf
      refine z_iconst C (zi 1) dX10_expected_13 (by decide) ?_
      refine z_goto C 18 dX10_expected_14 (by decide) ?_
      refine z_sub [0, 1, 2] rfl ?_
      exact wjX10_expected_18 C hRm _ _ _ _ _ _ _ _ hf hq

theorem mX10_expected (l : Launch) (D : va_G) (Ca : Nat → ClassId) (B : Nat) (En : State → Prop) (hE : zEk B En) (σ : zS) (N : Nat) (x0 : Nat) (x1 : Int32) (x2 : Int32) (X : zS × Int32) (hf : fX10_expected σ x0 x1 x2 = some X) : zMi l D Ca B En yX10_expected cX10_expected 7 (Option.some Jvm.ClassFile.FieldType.int) 2 46 [.ref x0, .int x1, .int x2] σ N X.1 X.2 :=
  zMet_i (own := RX10) hE (by decide +kernel) rfl (Nat.le_of_ble_eq_true rfl) (fun p e s m args below meth c C hr hRm => wfX10_expected C hRm σ x0 x1 x2 X.1 X.2 hf (fun pc lv hd => zfin_i C hr hd))
theorem dX10_atRisk_0 : decode cX10_atRisk 0 = .ok (.aload_n 0, 1) := by decide +kernel
theorem dX10_atRisk_1 : decode cX10_atRisk 1 = .ok (.iconst 0, 1) := by decide +kernel
theorem dX10_atRisk_2 : decode cX10_atRisk 2 = .ok (.putfield 92, 3) := by decide +kernel
theorem dX10_atRisk_5 : decode cX10_atRisk 5 = .ok (.aload_n 0, 1) := by decide +kernel
theorem dX10_atRisk_6 : decode cX10_atRisk 6 = .ok (.invokevirtual 272, 3) := by decide +kernel
theorem dX10_atRisk_9 : decode cX10_atRisk 9 = .ok (.ireturn, 1) := by decide +kernel
theorem hyX10_atRisk : yX10_atRisk.cls ≠ "java/lang/invoke/MethodHandle" ∧ yX10_atRisk.cls ≠ "java/lang/invoke/VarHandle" ∧ (parseMethodDescriptor yX10_atRisk.desc).map (fun d => d.parameters.length) = some 0 := ⟨by decide +kernel, by decide +kernel, by decide +kernel⟩
set_option maxRecDepth 100000 in
set_option maxHeartbeats 4000000 in
theorem wfX10_atRisk (C : zC p s m args meth c cX10_atRisk RX10 1 D Ca B En) (hRm : zRm R 1 22 cells slots) (σ : zS) (x0 : Nat) (τ : zS) (r : Int32) (hf : fX10_atRisk σ x0 = some (τ, r)) (hq : ∀ (pc : Nat) (lv : List (Nat × Value)), decode cX10_atRisk pc = .ok (.ireturn, 1) → zW p l e R s m args below meth c cells slots Q D Ca B 1 τ N pc lv [.int r]) : zW p l e R s m args below meth c cells slots Q D Ca B 1 σ N 0 [(0, .ref x0)] [] := by
  unfold fX10_atRisk at hf
  refine z_aload_n C dX10_atRisk_0 rfl 0 rfl ?_
  refine z_iconst C (zi 0) dX10_atRisk_1 (by decide) ?_
  obtain ⟨σ1, hσ1, hf⟩ := zbind hf
  refine gp_RX10_92 C hσ1 dX10_atRisk_2 ?_
  refine z_aload_n C dX10_atRisk_5 rfl 0 rfl ?_
  obtain ⟨c2, hc2, hf⟩ := zbind hf
  obtain ⟨kc2, hc2⟩ := zck_ok hc2
  refine z_callVi (As := []) (F0 := 1) (L0 := 22) C (mX10_risk l D Ca B En C.2.2.2.2.2.2.2.1 σ1 N x0  _ hc2) hRm kc2 rfl kw_1591 kw_14 kw_1588 kw_1590 kp_77 hyX10_risk (Nat.le_of_ble_eq_true rfl) (Nat.le_of_ble_eq_true rfl) rfl rfl (Nat.le_of_ble_eq_true rfl) dX10_atRisk_6 ?_
  cases hf
  exact hq _ _ dX10_atRisk_9

theorem mX10_atRisk (l : Launch) (D : va_G) (Ca : Nat → ClassId) (B : Nat) (En : State → Prop) (hE : zEk B En) (σ : zS) (N : Nat) (x0 : Nat) (X : zS × Int32) (hf : fX10_atRisk σ x0 = some X) : zMi l D Ca B En yX10_atRisk cX10_atRisk 1 (Option.some Jvm.ClassFile.FieldType.int) 1 22 [.ref x0] σ N X.1 X.2 :=
  zMet_i (own := RX10) hE (by decide +kernel) rfl (Nat.le_of_ble_eq_true rfl) (fun p e s m args below meth c C hr hRm => wfX10_atRisk C hRm σ x0 X.1 X.2 hf (fun pc lv hd => zfin_i C hr hd))
theorem dX10_fullest_0 : decode cX10_fullest 0 = .ok (.aload_n 0, 1) := by decide +kernel
theorem dX10_fullest_1 : decode cX10_fullest 1 = .ok (.iconst 0, 1) := by decide +kernel
theorem dX10_fullest_2 : decode cX10_fullest 2 = .ok (.putfield 92, 3) := by decide +kernel
theorem dX10_fullest_5 : decode cX10_fullest 5 = .ok (.iconst (-1), 1) := by decide +kernel
theorem dX10_fullest_6 : decode cX10_fullest 6 = .ok (.istore_n 1, 1) := by decide +kernel
theorem dX10_fullest_7 : decode cX10_fullest 7 = .ok (.iconst 0, 1) := by decide +kernel
theorem dX10_fullest_8 : decode cX10_fullest 8 = .ok (.istore_n 2, 1) := by decide +kernel
theorem dX10_fullest_9 : decode cX10_fullest 9 = .ok (.iconst 0, 1) := by decide +kernel
theorem dX10_fullest_10 : decode cX10_fullest 10 = .ok (.istore_n 3, 1) := by decide +kernel
theorem dX10_fullest_11 : decode cX10_fullest 11 = .ok (.iload_n 3, 1) := by decide +kernel
theorem dX10_fullest_12 : decode cX10_fullest 12 = .ok (.aload_n 0, 1) := by decide +kernel
theorem dX10_fullest_13 : decode cX10_fullest 13 = .ok (.getfield 75, 3) := by decide +kernel
theorem dX10_fullest_16 : decode cX10_fullest 16 = .ok (.if_icmp .ge 61, 3) := by decide +kernel
theorem dX10_fullest_19 : decode cX10_fullest 19 = .ok (.iconst 0, 1) := by decide +kernel
theorem dX10_fullest_20 : decode cX10_fullest 20 = .ok (.istore 4, 2) := by decide +kernel
theorem dX10_fullest_22 : decode cX10_fullest 22 = .ok (.iload 4, 2) := by decide +kernel
theorem dX10_fullest_24 : decode cX10_fullest 24 = .ok (.aload_n 0, 1) := by decide +kernel
theorem dX10_fullest_25 : decode cX10_fullest 25 = .ok (.getfield 21, 3) := by decide +kernel
theorem dX10_fullest_28 : decode cX10_fullest 28 = .ok (.iconst 1, 1) := by decide +kernel
theorem dX10_fullest_29 : decode cX10_fullest 29 = .ok (.iaload, 1) := by decide +kernel
theorem dX10_fullest_30 : decode cX10_fullest 30 = .ok (.if_icmp .ge 41, 3) := by decide +kernel
theorem dX10_fullest_33 : decode cX10_fullest 33 = .ok (.aload_n 0, 1) := by decide +kernel
theorem dX10_fullest_34 : decode cX10_fullest 34 = .ok (.iload_n 3, 1) := by decide +kernel
theorem dX10_fullest_35 : decode cX10_fullest 35 = .ok (.iload 4, 2) := by decide +kernel
theorem dX10_fullest_37 : decode cX10_fullest 37 = .ok (.invokestatic 176, 3) := by decide +kernel
theorem dX10_fullest_40 : decode cX10_fullest 40 = .ok (.invokevirtual 119, 3) := by decide +kernel
theorem dX10_fullest_43 : decode cX10_fullest 43 = .ok (.istore 5, 2) := by decide +kernel
theorem dX10_fullest_45 : decode cX10_fullest 45 = .ok (.iload 5, 2) := by decide +kernel
theorem dX10_fullest_47 : decode cX10_fullest 47 = .ok (.iload_n 2, 1) := by decide +kernel
theorem dX10_fullest_48 : decode cX10_fullest 48 = .ok (.if_icmp .gt 6, 3) := by decide +kernel
theorem dX10_fullest_51 : decode cX10_fullest 51 = .ok (.goto 14, 3) := by decide +kernel
theorem dX10_fullest_54 : decode cX10_fullest 54 = .ok (.bipush 10, 2) := by decide +kernel
theorem dX10_fullest_56 : decode cX10_fullest 56 = .ok (.iload_n 3, 1) := by decide +kernel
theorem dX10_fullest_57 : decode cX10_fullest 57 = .ok (.imul, 1) := by decide +kernel
theorem dX10_fullest_58 : decode cX10_fullest 58 = .ok (.iload 4, 2) := by decide +kernel
theorem dX10_fullest_60 : decode cX10_fullest 60 = .ok (.iadd, 1) := by decide +kernel
theorem dX10_fullest_61 : decode cX10_fullest 61 = .ok (.istore_n 1, 1) := by decide +kernel
theorem dX10_fullest_62 : decode cX10_fullest 62 = .ok (.iload 5, 2) := by decide +kernel
theorem dX10_fullest_64 : decode cX10_fullest 64 = .ok (.istore_n 2, 1) := by decide +kernel
theorem dX10_fullest_65 : decode cX10_fullest 65 = .ok (.iinc 4 1, 3) := by decide +kernel
theorem dX10_fullest_68 : decode cX10_fullest 68 = .ok (.goto (-46), 3) := by decide +kernel
theorem dX10_fullest_71 : decode cX10_fullest 71 = .ok (.iinc 3 1, 3) := by decide +kernel
theorem dX10_fullest_74 : decode cX10_fullest 74 = .ok (.goto (-63), 3) := by decide +kernel
theorem dX10_fullest_77 : decode cX10_fullest 77 = .ok (.iload_n 1, 1) := by decide +kernel
theorem dX10_fullest_78 : decode cX10_fullest 78 = .ok (.ireturn, 1) := by decide +kernel
theorem hyX10_fullest : yX10_fullest.cls ≠ "java/lang/invoke/MethodHandle" ∧ yX10_fullest.cls ≠ "java/lang/invoke/VarHandle" ∧ (parseMethodDescriptor yX10_fullest.desc).map (fun d => d.parameters.length) = some 0 := ⟨by decide +kernel, by decide +kernel, by decide +kernel⟩
set_option maxRecDepth 100000 in
set_option maxHeartbeats 4000000 in
theorem wjX10_fullest_65_L22 (C : zC p s m args meth c cX10_fullest RX10 6 D Ca B En) (hRm : zRm R 3 66 cells slots) (σ : zS) (x0 : Nat) (x1 : Int32) (x2 : Int32) (x3 : Int32) (x4 : Int32)  (y : (zS × Int32 × Int32 × Int32) ⊕ (zS × Int32 × Int32)) (hf : jX10_fullest_65_L22 σ x0 x1 x2 x3 x4  = some y) (hk : (∀ z : (zS × Int32 × Int32 × Int32), y = .inl z → zW p l e R s m args below meth c cells slots Q D Ca B 6 z.1 N 22 [(0, .ref x0), (1, .int z.2.1), (2, .int z.2.2.1), (3, .int x3), (4, .int z.2.2.2)] []) ∧ (∀ z : (zS × Int32 × Int32), y = .inr z → zW p l e R s m args below meth c cells slots Q D Ca B 6 z.1 N 71 [(0, .ref x0), (1, .int z.2.1), (2, .int z.2.2), (3, .int x3)] [])) : zW p l e R s m args below meth c cells slots Q D Ca B 6 σ N 65 [(0, .ref x0), (1, .int x1), (2, .int x2), (3, .int x3), (4, .int x4)] [] := by
  unfold jX10_fullest_65_L22 at hf
  refine z_iinc (lv2 := [(4, .int (x4 + (zi 1))), (0, .ref x0), (1, .int x1), (2, .int x2), (3, .int x3)]) C (x4 + (zi 1)) dX10_fullest_65 4 rfl rfl (by decide) rfl ?_
  refine z_goto C 22 dX10_fullest_68 (by decide) ?_
  cases hf
  refine z_sub [1, 2, 3, 4, 0] rfl ?_
  exact hk.1 _ rfl

set_option maxRecDepth 100000 in
set_option maxHeartbeats 4000000 in
theorem wsX10_fullest_22b (C : zC p s m args meth c cX10_fullest RX10 6 D Ca B En) (hRm : zRm R 3 66 cells slots) (x0 : Nat) (x3 : Int32) (σ : zS) (u1 : Int32) (u2 : Int32) (u4 : Int32) (y : (zS × Int32 × Int32 × Int32) ⊕ (zS × Int32 × Int32)) (hf : sX10_fullest_22b x0 x3 σ u1 u2 u4 = some y) (hk : (∀ z : (zS × Int32 × Int32 × Int32), y = .inl z → zW p l e R s m args below meth c cells slots Q D Ca B 6 z.1 N 22 [(0, .ref x0), (1, .int z.2.1), (2, .int z.2.2.1), (3, .int x3), (4, .int z.2.2.2)] []) ∧ (∀ z : (zS × Int32 × Int32), y = .inr z → zW p l e R s m args below meth c cells slots Q D Ca B 6 z.1 N 71 [(0, .ref x0), (1, .int z.2.1), (2, .int z.2.2), (3, .int x3)] [])) : zW p l e R s m args below meth c cells slots Q D Ca B 6 σ N 22 [(0, .ref x0), (1, .int u1), (2, .int u2), (3, .int x3), (4, .int u4)] [] := by
  unfold sX10_fullest_22b at hf
  refine z_iload C dX10_fullest_22 4 rfl ?_
  refine z_aload_n C dX10_fullest_24 rfl 0 rfl ?_
  obtain ⟨v3, hv3, hf⟩ := zbind hf
  refine gf_RX10_21 C hv3 dX10_fullest_25 ?_
  refine z_iconst C (zi 1) dX10_fullest_28 (by decide) ?_
  obtain ⟨v4, hv4, hf⟩ := zbind hf
  refine z_aI C hv4 dX10_fullest_29 ?_
  refine z_icmp_ge C 71 dX10_fullest_30 (by decide) (fun q8 => ?_) (fun q8 => ?_)
  · rw [if_pos q8] at hf
    cases hf
    refine z_sub [0, 1, 2, 3] rfl ?_
    exact hk.2 _ rfl
  · rw [if_neg q8] at hf
    refine z_aload_n C dX10_fullest_33 rfl 0 rfl ?_
    refine z_iload_n C dX10_fullest_34 rfl 3 rfl ?_
    refine z_iload C dX10_fullest_35 4 rfl ?_
    obtain ⟨c5, hc5, hf⟩ := zbind hf
    refine z_callSi (As := [.int x3, .int u4]) (F0 := 3) (L0 := 66) C (mX10_toInstance l D Ca B En C.2.2.2.2.2.2.2.1 σ N x3 u4 _ hc5) hRm kw_1450 kw_14 kw_1448 kw_1449 hyX10_toInstance (Nat.le_of_ble_eq_true rfl) (Nat.le_of_ble_eq_true rfl) rfl rfl (Nat.le_of_ble_eq_true rfl) dX10_fullest_37 ?_
    obtain ⟨c6, hc6, hf⟩ := zbind hf
    obtain ⟨kc6, hc6⟩ := zck_ok hc6
    refine z_callVi (As := [.int c5.2]) (F0 := 3) (L0 := 66) C (mX10_things l D Ca B En C.2.2.2.2.2.2.2.1 c5.1 N x0 c5.2 _ hc6) hRm kc6 rfl kw_1469 kw_14 kw_1466 kw_1468 kp_51 hyX10_things (Nat.le_of_ble_eq_true rfl) (Nat.le_of_ble_eq_true rfl) rfl rfl (Nat.le_of_ble_eq_true rfl) dX10_fullest_40 ?_
    refine z_istore (lv2 := [(5, .int c6.2), (0, .ref x0), (1, .int u1), (2, .int u2), (3, .int x3), (4, .int u4)]) C dX10_fullest_43 (by decide) rfl ?_
    refine z_iload C dX10_fullest_45 0 rfl ?_
    refine z_iload_n C dX10_fullest_47 rfl 3 rfl ?_
    refine z_icmp_gt C 54 dX10_fullest_48 (by decide) (fun q7 => ?_) (fun q7 => ?_)
    · rw [if_pos q7] at hf
      refine z_bipush C (zi 10) dX10_fullest_54 (by decide) ?_
      refine z_iload_n C dX10_fullest_56 rfl 4 rfl ?_
      refine z_imul C dX10_fullest_57 ?_
      refine z_iload C dX10_fullest_58 5 rfl ?_
      refine z_iadd C dX10_fullest_60 ?_
      refine z_istore_n (lv2 := [(1, .int ((((zi 10)) * x3) + u4)), (5, .int c6.2), (0, .ref x0), (2, .int u2), (3, .int x3), (4, .int u4)]) C dX10_fullest_61 rfl (by decide) rfl ?_
      refine z_iload C dX10_fullest_62 1 rfl ?_
      refine z_istore_n (lv2 := [(2, .int c6.2), (1, .int ((((zi 10)) * x3) + u4)), (5, .int c6.2), (0, .ref x0), (3, .int x3), (4, .int u4)]) C dX10_fullest_64 rfl (by decide) rfl ?_
      refine z_sub [3, 1, 0, 4, 5] rfl ?_
      exact wjX10_fullest_65_L22 C hRm _ _ _ _ _ _  _ hf hk
    · rw [if_neg q7] at hf
      refine z_goto C 65 dX10_fullest_51 (by decide) ?_
      refine z_sub [1, 2, 3, 4, 5] rfl ?_
      exact wjX10_fullest_65_L22 C hRm _ _ _ _ _ _  _ hf hk

theorem wsX10_fullest_22 (C : zC p s m args meth c cX10_fullest RX10 6 D Ca B En) (hRm : zRm R 3 66 cells slots) (x0 : Nat) (x3 : Int32) (n : Nat) (z : (zS × Int32 × Int32 × Int32)) (x : (zS × Int32 × Int32)) (hf : zloop (sX10_fullest_22 x0 x3) n z = some x) (hk : (∀ o : (zS × Int32 × Int32), x = o → zW p l e R s m args below meth c cells slots Q D Ca B 6 o.1 N 71 [(0, .ref x0), (1, .int o.2.1), (2, .int o.2.2), (3, .int x3)] [])) : zW p l e R s m args below meth c cells slots Q D Ca B 6 z.1 N 22 [(0, .ref x0), (1, .int z.2.1), (2, .int z.2.2.1), (3, .int x3), (4, .int z.2.2.2)] [] := by
  refine zloop_W (P := fun z : (zS × Int32 × Int32 × Int32) => zW p l e R s m args below meth c cells slots Q D Ca B 6 z.1 N 22 [(0, .ref x0), (1, .int z.2.1), (2, .int z.2.2.1), (3, .int x3), (4, .int z.2.2.2)] []) (K := fun x : (zS × Int32 × Int32) => (∀ o : (zS × Int32 × Int32), x = o → zW p l e R s m args below meth c cells slots Q D Ca B 6 o.1 N 71 [(0, .ref x0), (1, .int o.2.1), (2, .int o.2.2), (3, .int x3)] [])) ?_ n z x hf hk
  intro z y hy h1 h2
  refine wsX10_fullest_22b C hRm x0 x3 z.1 z.2.1 z.2.2.1 z.2.2.2 y hy ⟨fun z2 e => h1 z2 e, fun o e => (h2 _ e) o rfl⟩
set_option maxRecDepth 100000 in
set_option maxHeartbeats 4000000 in
theorem wsX10_fullest_11b (C : zC p s m args meth c cX10_fullest RX10 6 D Ca B En) (hRm : zRm R 3 66 cells slots) (x0 : Nat) (σ : zS) (u1 : Int32) (u2 : Int32) (u3 : Int32) (y : (zS × Int32 × Int32 × Int32) ⊕ (zS × Int32)) (hf : sX10_fullest_11b x0 σ u1 u2 u3 = some y) (hk : (∀ z : (zS × Int32 × Int32 × Int32), y = .inl z → zW p l e R s m args below meth c cells slots Q D Ca B 6 z.1 N 11 [(0, .ref x0), (1, .int z.2.1), (2, .int z.2.2.1), (3, .int z.2.2.2)] []) ∧ (∀ z : (zS × Int32), y = .inr z → zW p l e R s m args below meth c cells slots Q D Ca B 6 z.1 N 77 [(1, .int z.2)] [])) : zW p l e R s m args below meth c cells slots Q D Ca B 6 σ N 11 [(0, .ref x0), (1, .int u1), (2, .int u2), (3, .int u3)] [] := by
  unfold sX10_fullest_11b at hf
  refine z_iload_n C dX10_fullest_11 rfl 3 rfl ?_
  refine z_aload_n C dX10_fullest_12 rfl 0 rfl ?_
  obtain ⟨v2, hv2, hf⟩ := zbind hf
  refine gf_RX10_75 C hv2 dX10_fullest_13 ?_
  refine z_icmp_ge C 77 dX10_fullest_16 (by decide) (fun q10 => ?_) (fun q10 => ?_)
  · rw [if_pos q10] at hf
    cases hf
    refine z_sub [1] rfl ?_
    exact hk.2 _ rfl
  · rw [if_neg q10] at hf
    refine z_iconst C (zi 0) dX10_fullest_19 (by decide) ?_
    refine z_istore (lv2 := [(4, .int ((zi 0))), (0, .ref x0), (1, .int u1), (2, .int u2), (3, .int u3)]) C dX10_fullest_20 (by decide) rfl ?_
    obtain ⟨o9, ho9, hf⟩ := zbind hf
    refine z_sub [1, 2, 3, 4, 0] rfl ?_
    refine wsX10_fullest_22 C hRm _ _ zfuel (σ, u1, u2, (zi 0)) o9 ho9 ?_
    intro z9 e9
    subst e9
    refine z_iinc (lv2 := [(3, .int (u3 + (zi 1))), (0, .ref x0), (1, .int o9.2.1), (2, .int o9.2.2)]) C (u3 + (zi 1)) dX10_fullest_71 3 rfl rfl (by decide) rfl ?_
    refine z_goto C 11 dX10_fullest_74 (by decide) ?_
    cases hf
    refine z_sub [1, 2, 3, 0] rfl ?_
    exact hk.1 _ rfl

theorem wsX10_fullest_11 (C : zC p s m args meth c cX10_fullest RX10 6 D Ca B En) (hRm : zRm R 3 66 cells slots) (x0 : Nat) (n : Nat) (z : (zS × Int32 × Int32 × Int32)) (x : (zS × Int32)) (hf : zloop (sX10_fullest_11 x0) n z = some x) (hk : (∀ o : (zS × Int32), x = o → zW p l e R s m args below meth c cells slots Q D Ca B 6 o.1 N 77 [(1, .int o.2)] [])) : zW p l e R s m args below meth c cells slots Q D Ca B 6 z.1 N 11 [(0, .ref x0), (1, .int z.2.1), (2, .int z.2.2.1), (3, .int z.2.2.2)] [] := by
  refine zloop_W (P := fun z : (zS × Int32 × Int32 × Int32) => zW p l e R s m args below meth c cells slots Q D Ca B 6 z.1 N 11 [(0, .ref x0), (1, .int z.2.1), (2, .int z.2.2.1), (3, .int z.2.2.2)] []) (K := fun x : (zS × Int32) => (∀ o : (zS × Int32), x = o → zW p l e R s m args below meth c cells slots Q D Ca B 6 o.1 N 77 [(1, .int o.2)] [])) ?_ n z x hf hk
  intro z y hy h1 h2
  refine wsX10_fullest_11b C hRm x0 z.1 z.2.1 z.2.2.1 z.2.2.2 y hy ⟨fun z2 e => h1 z2 e, fun o e => (h2 _ e) o rfl⟩
set_option maxRecDepth 100000 in
set_option maxHeartbeats 4000000 in
theorem wfX10_fullest (C : zC p s m args meth c cX10_fullest RX10 6 D Ca B En) (hRm : zRm R 3 66 cells slots) (σ : zS) (x0 : Nat) (τ : zS) (r : Int32) (hf : fX10_fullest σ x0 = some (τ, r)) (hq : ∀ (pc : Nat) (lv : List (Nat × Value)), decode cX10_fullest pc = .ok (.ireturn, 1) → zW p l e R s m args below meth c cells slots Q D Ca B 6 τ N pc lv [.int r]) : zW p l e R s m args below meth c cells slots Q D Ca B 6 σ N 0 [(0, .ref x0)] [] := by
  unfold fX10_fullest at hf
  refine z_aload_n C dX10_fullest_0 rfl 0 rfl ?_
  refine z_iconst C (zi 0) dX10_fullest_1 (by decide) ?_
  obtain ⟨σ1, hσ1, hf⟩ := zbind hf
  refine gp_RX10_92 C hσ1 dX10_fullest_2 ?_
  refine z_iconst C (zi (-1)) dX10_fullest_5 (by decide) ?_
  refine z_istore_n (lv2 := [(1, .int ((zi (-1)))), (0, .ref x0)]) C dX10_fullest_6 rfl (by decide) rfl ?_
  refine z_iconst C (zi 0) dX10_fullest_7 (by decide) ?_
  refine z_istore_n (lv2 := [(2, .int ((zi 0))), (1, .int ((zi (-1)))), (0, .ref x0)]) C dX10_fullest_8 rfl (by decide) rfl ?_
  refine z_iconst C (zi 0) dX10_fullest_9 (by decide) ?_
  refine z_istore_n (lv2 := [(3, .int ((zi 0))), (2, .int ((zi 0))), (1, .int ((zi (-1)))), (0, .ref x0)]) C dX10_fullest_10 rfl (by decide) rfl ?_
  obtain ⟨o11, ho11, hf⟩ := zbind hf
  refine z_sub [3, 2, 1, 0] rfl ?_
  refine wsX10_fullest_11 C hRm _ zfuel (σ1, (zi (-1)), (zi 0), (zi 0)) o11 ho11 ?_
  intro z9 e9
  subst e9
  refine z_iload_n C dX10_fullest_77 rfl 0 rfl ?_
  cases hf
  exact hq _ _ dX10_fullest_78

theorem mX10_fullest (l : Launch) (D : va_G) (Ca : Nat → ClassId) (B : Nat) (En : State → Prop) (hE : zEk B En) (σ : zS) (N : Nat) (x0 : Nat) (X : zS × Int32) (hf : fX10_fullest σ x0 = some X) : zMi l D Ca B En yX10_fullest cX10_fullest 6 (Option.some Jvm.ClassFile.FieldType.int) 3 66 [.ref x0] σ N X.1 X.2 :=
  zMet_i (own := RX10) hE (by decide +kernel) rfl (Nat.le_of_ble_eq_true rfl) (fun p e s m args below meth c C hr hRm => wfX10_fullest C hRm σ x0 X.1 X.2 hf (fun pc lv hd => zfin_i C hr hd))
theorem dX10_feed_0 : decode cX10_feed 0 = .ok (.aload_n 0, 1) := by decide +kernel
theorem dX10_feed_1 : decode cX10_feed 1 = .ok (.iconst 0, 1) := by decide +kernel
theorem dX10_feed_2 : decode cX10_feed 2 = .ok (.putfield 92, 3) := by decide +kernel
theorem dX10_feed_5 : decode cX10_feed 5 = .ok (.aload_n 0, 1) := by decide +kernel
theorem dX10_feed_6 : decode cX10_feed 6 = .ok (.getfield 357, 3) := by decide +kernel
theorem dX10_feed_9 : decode cX10_feed 9 = .ok (.bipush 20, 2) := by decide +kernel
theorem dX10_feed_11 : decode cX10_feed 11 = .ok (.iadd, 1) := by decide +kernel
theorem dX10_feed_12 : decode cX10_feed 12 = .ok (.sipush 300, 3) := by decide +kernel
theorem dX10_feed_15 : decode cX10_feed 15 = .ok (.if_icmp .le 5, 3) := by decide +kernel
theorem dX10_feed_18 : decode cX10_feed 18 = .ok (.iconst (-1), 1) := by decide +kernel
theorem dX10_feed_19 : decode cX10_feed 19 = .ok (.ireturn, 1) := by decide +kernel
theorem dX10_feed_20 : decode cX10_feed 20 = .ok (.iconst 0, 1) := by decide +kernel
theorem dX10_feed_21 : decode cX10_feed 21 = .ok (.istore 6, 2) := by decide +kernel
theorem dX10_feed_23 : decode cX10_feed 23 = .ok (.iload 6, 2) := by decide +kernel
theorem dX10_feed_25 : decode cX10_feed 25 = .ok (.bipush 20, 2) := by decide +kernel
theorem dX10_feed_27 : decode cX10_feed 27 = .ok (.if_icmp .ge 90, 3) := by decide +kernel
theorem dX10_feed_30 : decode cX10_feed 30 = .ok (.iload 6, 2) := by decide +kernel
theorem dX10_feed_32 : decode cX10_feed 32 = .ok (.iconst 4, 1) := by decide +kernel
theorem dX10_feed_33 : decode cX10_feed 33 = .ok (.if_icmp .ge 7, 3) := by decide +kernel
theorem dX10_feed_36 : decode cX10_feed 36 = .ok (.iload_n 1, 1) := by decide +kernel
theorem dX10_feed_37 : decode cX10_feed 37 = .ok (.goto 39, 3) := by decide +kernel
theorem dX10_feed_40 : decode cX10_feed 40 = .ok (.iload 6, 2) := by decide +kernel
theorem dX10_feed_42 : decode cX10_feed 42 = .ok (.bipush 8, 2) := by decide +kernel
theorem dX10_feed_44 : decode cX10_feed 44 = .ok (.if_icmp .ge 7, 3) := by decide +kernel
theorem dX10_feed_47 : decode cX10_feed 47 = .ok (.iload_n 2, 1) := by decide +kernel
theorem dX10_feed_48 : decode cX10_feed 48 = .ok (.goto 28, 3) := by decide +kernel
theorem dX10_feed_51 : decode cX10_feed 51 = .ok (.iload 6, 2) := by decide +kernel
theorem dX10_feed_53 : decode cX10_feed 53 = .ok (.bipush 12, 2) := by decide +kernel
theorem dX10_feed_55 : decode cX10_feed 55 = .ok (.if_icmp .ge 7, 3) := by decide +kernel
theorem dX10_feed_58 : decode cX10_feed 58 = .ok (.iload_n 3, 1) := by decide +kernel
theorem dX10_feed_59 : decode cX10_feed 59 = .ok (.goto 17, 3) := by decide +kernel
theorem dX10_feed_62 : decode cX10_feed 62 = .ok (.iload 6, 2) := by decide +kernel
theorem dX10_feed_64 : decode cX10_feed 64 = .ok (.bipush 16, 2) := by decide +kernel
theorem dX10_feed_66 : decode cX10_feed 66 = .ok (.if_icmp .ge 8, 3) := by decide +kernel
theorem dX10_feed_69 : decode cX10_feed 69 = .ok (.iload 4, 2) := by decide +kernel
theorem dX10_feed_71 : decode cX10_feed 71 = .ok (.goto 5, 3) := by decide +kernel
theorem dX10_feed_74 : decode cX10_feed 74 = .ok (.iload 5, 2) := by decide +kernel
theorem dX10_feed_76 : decode cX10_feed 76 = .ok (.istore 7, 2) := by decide +kernel
theorem dX10_feed_78 : decode cX10_feed 78 = .ok (.aload_n 0, 1) := by decide +kernel
theorem dX10_feed_79 : decode cX10_feed 79 = .ok (.getfield 40, 3) := by decide +kernel
theorem dX10_feed_82 : decode cX10_feed 82 = .ok (.aload_n 0, 1) := by decide +kernel
theorem dX10_feed_83 : decode cX10_feed 83 = .ok (.getfield 357, 3) := by decide +kernel
theorem dX10_feed_86 : decode cX10_feed 86 = .ok (.iload 7, 2) := by decide +kernel
theorem dX10_feed_88 : decode cX10_feed 88 = .ok (.bipush 24, 2) := by decide +kernel
theorem dX10_feed_90 : decode cX10_feed 90 = .ok (.bipush 8, 2) := by decide +kernel
theorem dX10_feed_92 : decode cX10_feed 92 = .ok (.iload 6, 2) := by decide +kernel
theorem dX10_feed_94 : decode cX10_feed 94 = .ok (.iconst 4, 1) := by decide +kernel
theorem dX10_feed_95 : decode cX10_feed 95 = .ok (.irem, 1) := by decide +kernel
theorem dX10_feed_96 : decode cX10_feed 96 = .ok (.imul, 1) := by decide +kernel
theorem dX10_feed_97 : decode cX10_feed 97 = .ok (.isub, 1) := by decide +kernel
theorem dX10_feed_98 : decode cX10_feed 98 = .ok (.ishr, 1) := by decide +kernel
theorem dX10_feed_99 : decode cX10_feed 99 = .ok (.i2b, 1) := by decide +kernel
theorem dX10_feed_100 : decode cX10_feed 100 = .ok (.bastore, 1) := by decide +kernel
theorem dX10_feed_101 : decode cX10_feed 101 = .ok (.aload_n 0, 1) := by decide +kernel
theorem dX10_feed_102 : decode cX10_feed 102 = .ok (.aload_n 0, 1) := by decide +kernel
theorem dX10_feed_103 : decode cX10_feed 103 = .ok (.getfield 357, 3) := by decide +kernel
theorem dX10_feed_106 : decode cX10_feed 106 = .ok (.iconst 1, 1) := by decide +kernel
theorem dX10_feed_107 : decode cX10_feed 107 = .ok (.iadd, 1) := by decide +kernel
theorem dX10_feed_108 : decode cX10_feed 108 = .ok (.putfield 357, 3) := by decide +kernel
theorem dX10_feed_111 : decode cX10_feed 111 = .ok (.iinc 6 1, 3) := by decide +kernel
theorem dX10_feed_114 : decode cX10_feed 114 = .ok (.goto (-91), 3) := by decide +kernel
theorem dX10_feed_117 : decode cX10_feed 117 = .ok (.aload_n 0, 1) := by decide +kernel
theorem dX10_feed_118 : decode cX10_feed 118 = .ok (.getfield 357, 3) := by decide +kernel
theorem dX10_feed_121 : decode cX10_feed 121 = .ok (.ireturn, 1) := by decide +kernel
theorem hyX10_feed : yX10_feed.cls ≠ "java/lang/invoke/MethodHandle" ∧ yX10_feed.cls ≠ "java/lang/invoke/VarHandle" ∧ (parseMethodDescriptor yX10_feed.desc).map (fun d => d.parameters.length) = some 5 := ⟨by decide +kernel, by decide +kernel, by decide +kernel⟩
set_option maxRecDepth 100000 in
set_option maxHeartbeats 4000000 in
theorem wjX10_feed_76_L23 (C : zC p s m args meth c cX10_feed RX10 8 D Ca B En) (hRm : zRm R 0 0 cells slots) (σ : zS) (x0 : Nat) (x1 : Int32) (x2 : Int32) (x3 : Int32) (x4 : Int32) (x5 : Int32) (x6 : Int32) (y0 : Int32) (y : (zS × Int32) ⊕ zS) (hf : jX10_feed_76_L23 σ x0 x1 x2 x3 x4 x5 x6 y0 = some y) (hk : (∀ z : (zS × Int32), y = .inl z → zW p l e R s m args below meth c cells slots Q D Ca B 8 z.1 N 23 [(0, .ref x0), (1, .int x1), (2, .int x2), (3, .int x3), (4, .int x4), (5, .int x5), (6, .int z.2)] []) ∧ (∀ z : zS, y = .inr z → zW p l e R s m args below meth c cells slots Q D Ca B 8 z N 117 [(0, .ref x0)] [])) : zW p l e R s m args below meth c cells slots Q D Ca B 8 σ N 76 [(0, .ref x0), (1, .int x1), (2, .int x2), (3, .int x3), (4, .int x4), (5, .int x5), (6, .int x6)] [.int y0] := by
  unfold jX10_feed_76_L23 at hf
  refine z_istore (lv2 := [(7, .int y0), (0, .ref x0), (1, .int x1), (2, .int x2), (3, .int x3), (4, .int x4), (5, .int x5), (6, .int x6)]) C dX10_feed_76 (by decide) rfl ?_
  refine z_aload_n C dX10_feed_78 rfl 1 rfl ?_
  obtain ⟨v3, hv3, hf⟩ := zbind hf
  refine gf_RX10_40 C hv3 dX10_feed_79 ?_
  refine z_aload_n C dX10_feed_82 rfl 1 rfl ?_
  obtain ⟨v4, hv4, hf⟩ := zbind hf
  refine gf_RX10_357 C hv4 dX10_feed_83 ?_
  refine z_iload C dX10_feed_86 0 rfl ?_
  refine z_bipush C (zi 24) dX10_feed_88 (by decide) ?_
  refine z_bipush C (zi 8) dX10_feed_90 (by decide) ?_
  refine z_iload C dX10_feed_92 7 rfl ?_
  refine z_iconst C (zi 4) dX10_feed_94 (by decide) ?_
  refine z_irem C dX10_feed_95 (by decide) ?_
  refine z_imul C dX10_feed_96 ?_
  refine z_isub C dX10_feed_97 ?_
  refine z_ishr C dX10_feed_98 ?_
  refine z_i2b C dX10_feed_99 ?_
  obtain ⟨σ5, hσ5, hf⟩ := zbind hf
  refine z_sB C hσ5 dX10_feed_100 ?_
  refine z_aload_n C dX10_feed_101 rfl 1 rfl ?_
  refine z_aload_n C dX10_feed_102 rfl 1 rfl ?_
  obtain ⟨v6, hv6, hf⟩ := zbind hf
  refine gf_RX10_357 C hv6 dX10_feed_103 ?_
  refine z_iconst C (zi 1) dX10_feed_106 (by decide) ?_
  refine z_iadd C dX10_feed_107 ?_
  obtain ⟨σ7, hσ7, hf⟩ := zbind hf
  refine gp_RX10_357 C hσ7 dX10_feed_108 ?_
  refine z_iinc (lv2 := [(6, .int (x6 + (zi 1))), (7, .int y0), (0, .ref x0), (1, .int x1), (2, .int x2), (3, .int x3), (4, .int x4), (5, .int x5)]) C (x6 + (zi 1)) dX10_feed_111 7 rfl rfl (by decide) rfl ?_
  refine z_goto C 23 dX10_feed_114 (by decide) ?_
  cases hf
  refine z_sub [2, 3, 4, 5, 6, 7, 0] rfl ?_
  exact hk.1 _ rfl

set_option maxRecDepth 100000 in
set_option maxHeartbeats 4000000 in
theorem wsX10_feed_23b (C : zC p s m args meth c cX10_feed RX10 8 D Ca B En) (hRm : zRm R 0 0 cells slots) (x0 : Nat) (x1 : Int32) (x2 : Int32) (x3 : Int32) (x4 : Int32) (x5 : Int32) (σ : zS) (u6 : Int32) (y : (zS × Int32) ⊕ zS) (hf : sX10_feed_23b x0 x1 x2 x3 x4 x5 σ u6 = some y) (hk : (∀ z : (zS × Int32), y = .inl z → zW p l e R s m args below meth c cells slots Q D Ca B 8 z.1 N 23 [(0, .ref x0), (1, .int x1), (2, .int x2), (3, .int x3), (4, .int x4), (5, .int x5), (6, .int z.2)] []) ∧ (∀ z : zS, y = .inr z → zW p l e R s m args below meth c cells slots Q D Ca B 8 z N 117 [(0, .ref x0)] [])) : zW p l e R s m args below meth c cells slots Q D Ca B 8 σ N 23 [(0, .ref x0), (1, .int x1), (2, .int x2), (3, .int x3), (4, .int x4), (5, .int x5), (6, .int u6)] [] := by
  unfold sX10_feed_23b at hf
  refine z_iload C dX10_feed_23 6 rfl ?_
  refine z_bipush C (zi 20) dX10_feed_25 (by decide) ?_
  refine z_icmp_ge C 117 dX10_feed_27 (by decide) (fun q12 => ?_) (fun q12 => ?_)
  · rw [if_pos q12] at hf
    cases hf
    refine z_sub [0] rfl ?_
    exact hk.2 _ rfl
  · rw [if_neg q12] at hf
    refine z_iload C dX10_feed_30 6 rfl ?_
    refine z_iconst C (zi 4) dX10_feed_32 (by decide) ?_
    refine z_icmp_ge C 40 dX10_feed_33 (by decide) (fun q11 => ?_) (fun q11 => ?_)
    · rw [if_pos q11] at hf
      refine z_iload C dX10_feed_40 6 rfl ?_
      refine z_bipush C (zi 8) dX10_feed_42 (by decide) ?_
      refine z_icmp_ge C 51 dX10_feed_44 (by decide) (fun q10 => ?_) (fun q10 => ?_)
      · rw [if_pos q10] at hf
        refine z_iload C dX10_feed_51 6 rfl ?_
        refine z_bipush C (zi 12) dX10_feed_53 (by decide) ?_
        refine z_icmp_ge C 62 dX10_feed_55 (by decide) (fun q9 => ?_) (fun q9 => ?_)
        · rw [if_pos q9] at hf
          refine z_iload C dX10_feed_62 6 rfl ?_
          refine z_bipush C (zi 16) dX10_feed_64 (by decide) ?_
          refine z_icmp_ge C 74 dX10_feed_66 (by decide) (fun q8 => ?_) (fun q8 => ?_)
          · rw [if_pos q8] at hf
            refine z_iload C dX10_feed_74 5 rfl ?_
            refine z_sub [0, 1, 2, 3, 4, 5, 6] rfl ?_
            exact wjX10_feed_76_L23 C hRm _ _ _ _ _ _ _ _ _ _ hf hk
          · rw [if_neg q8] at hf
            refine z_iload C dX10_feed_69 4 rfl ?_
            refine z_goto C 76 dX10_feed_71 (by decide) ?_
            refine z_sub [0, 1, 2, 3, 4, 5, 6] rfl ?_
            exact wjX10_feed_76_L23 C hRm _ _ _ _ _ _ _ _ _ _ hf hk
        · rw [if_neg q9] at hf
          refine z_iload_n C dX10_feed_58 rfl 3 rfl ?_
          refine z_goto C 76 dX10_feed_59 (by decide) ?_
          refine z_sub [0, 1, 2, 3, 4, 5, 6] rfl ?_
          exact wjX10_feed_76_L23 C hRm _ _ _ _ _ _ _ _ _ _ hf hk
      · rw [if_neg q10] at hf
        refine z_iload_n C dX10_feed_47 rfl 2 rfl ?_
        refine z_goto C 76 dX10_feed_48 (by decide) ?_
        refine z_sub [0, 1, 2, 3, 4, 5, 6] rfl ?_
        exact wjX10_feed_76_L23 C hRm _ _ _ _ _ _ _ _ _ _ hf hk
    · rw [if_neg q11] at hf
      refine z_iload_n C dX10_feed_36 rfl 1 rfl ?_
      refine z_goto C 76 dX10_feed_37 (by decide) ?_
      refine z_sub [0, 1, 2, 3, 4, 5, 6] rfl ?_
      exact wjX10_feed_76_L23 C hRm _ _ _ _ _ _ _ _ _ _ hf hk

theorem wsX10_feed_23 (C : zC p s m args meth c cX10_feed RX10 8 D Ca B En) (hRm : zRm R 0 0 cells slots) (x0 : Nat) (x1 : Int32) (x2 : Int32) (x3 : Int32) (x4 : Int32) (x5 : Int32) (n : Nat) (z : (zS × Int32)) (x : zS) (hf : zloop (sX10_feed_23 x0 x1 x2 x3 x4 x5) n z = some x) (hk : (∀ o : zS, x = o → zW p l e R s m args below meth c cells slots Q D Ca B 8 o N 117 [(0, .ref x0)] [])) : zW p l e R s m args below meth c cells slots Q D Ca B 8 z.1 N 23 [(0, .ref x0), (1, .int x1), (2, .int x2), (3, .int x3), (4, .int x4), (5, .int x5), (6, .int z.2)] [] := by
  refine zloop_W (P := fun z : (zS × Int32) => zW p l e R s m args below meth c cells slots Q D Ca B 8 z.1 N 23 [(0, .ref x0), (1, .int x1), (2, .int x2), (3, .int x3), (4, .int x4), (5, .int x5), (6, .int z.2)] []) (K := fun x : zS => (∀ o : zS, x = o → zW p l e R s m args below meth c cells slots Q D Ca B 8 o N 117 [(0, .ref x0)] [])) ?_ n z x hf hk
  intro z y hy h1 h2
  refine wsX10_feed_23b C hRm x0 x1 x2 x3 x4 x5 z.1 z.2 y hy ⟨fun z2 e => h1 z2 e, fun o e => (h2 _ e) o rfl⟩
set_option maxRecDepth 100000 in
set_option maxHeartbeats 4000000 in
theorem wfX10_feed (C : zC p s m args meth c cX10_feed RX10 8 D Ca B En) (hRm : zRm R 0 0 cells slots) (σ : zS) (x0 : Nat) (x1 : Int32) (x2 : Int32) (x3 : Int32) (x4 : Int32) (x5 : Int32) (τ : zS) (r : Int32) (hf : fX10_feed σ x0 x1 x2 x3 x4 x5 = some (τ, r)) (hq : ∀ (pc : Nat) (lv : List (Nat × Value)), decode cX10_feed pc = .ok (.ireturn, 1) → zW p l e R s m args below meth c cells slots Q D Ca B 8 τ N pc lv [.int r]) : zW p l e R s m args below meth c cells slots Q D Ca B 8 σ N 0 [(0, .ref x0), (1, .int x1), (2, .int x2), (3, .int x3), (4, .int x4), (5, .int x5)] [] := by
  unfold fX10_feed at hf
  refine z_aload_n C dX10_feed_0 rfl 0 rfl ?_
  refine z_iconst C (zi 0) dX10_feed_1 (by decide) ?_
  obtain ⟨σ1, hσ1, hf⟩ := zbind hf
  refine gp_RX10_92 C hσ1 dX10_feed_2 ?_
  refine z_aload_n C dX10_feed_5 rfl 0 rfl ?_
  obtain ⟨v2, hv2, hf⟩ := zbind hf
  refine gf_RX10_357 C hv2 dX10_feed_6 ?_
  refine z_bipush C (zi 20) dX10_feed_9 (by decide) ?_
  refine z_iadd C dX10_feed_11 ?_
  refine z_sipush C (zi 300) dX10_feed_12 (by decide) ?_
  refine z_icmp_le C 20 dX10_feed_15 (by decide) (fun q15 => ?_) (fun q15 => ?_)
  · rw [if_pos q15] at hf
    refine z_iconst C (zi 0) dX10_feed_20 (by decide) ?_
    refine z_istore (lv2 := [(6, .int ((zi 0))), (0, .ref x0), (1, .int x1), (2, .int x2), (3, .int x3), (4, .int x4), (5, .int x5)]) C dX10_feed_21 (by decide) rfl ?_
    obtain ⟨o13, ho13, hf⟩ := zbind hf
    refine z_sub [1, 2, 3, 4, 5, 6, 0] rfl ?_
    refine wsX10_feed_23 C hRm _ _ _ _ _ _ zfuel (σ1, (zi 0)) o13 ho13 ?_
    intro z9 e9
    subst e9
    refine z_aload_n C dX10_feed_117 rfl 0 rfl ?_
    obtain ⟨v14, hv14, hf⟩ := zbind hf
    refine gf_RX10_357 C hv14 dX10_feed_118 ?_
    cases hf
    exact hq _ _ dX10_feed_121
  · rw [if_neg q15] at hf
    refine z_iconst C (zi (-1)) dX10_feed_18 (by decide) ?_
    cases hf
    exact hq _ _ dX10_feed_19

theorem mX10_feed (l : Launch) (D : va_G) (Ca : Nat → ClassId) (B : Nat) (En : State → Prop) (hE : zEk B En) (σ : zS) (N : Nat) (x0 : Nat) (x1 : Int32) (x2 : Int32) (x3 : Int32) (x4 : Int32) (x5 : Int32) (X : zS × Int32) (hf : fX10_feed σ x0 x1 x2 x3 x4 x5 = some X) : zMi l D Ca B En yX10_feed cX10_feed 8 (Option.some Jvm.ClassFile.FieldType.int) 0 0 [.ref x0, .int x1, .int x2, .int x3, .int x4, .int x5] σ N X.1 X.2 :=
  zMet_i (own := RX10) hE (by decide +kernel) rfl (Nat.le_of_ble_eq_true rfl) (fun p e s m args below meth c C hr hRm => wfX10_feed C hRm σ x0 x1 x2 x3 x4 x5 X.1 X.2 hf (fun pc lv hd => zfin_i C hr hd))
theorem dX10_truncate_0 : decode cX10_truncate 0 = .ok (.aload_n 0, 1) := by decide +kernel
theorem dX10_truncate_1 : decode cX10_truncate 1 = .ok (.iconst 0, 1) := by decide +kernel
theorem dX10_truncate_2 : decode cX10_truncate 2 = .ok (.putfield 92, 3) := by decide +kernel
theorem dX10_truncate_5 : decode cX10_truncate 5 = .ok (.iload_n 1, 1) := by decide +kernel
theorem dX10_truncate_6 : decode cX10_truncate 6 = .ok (.i2l, 1) := by decide +kernel
theorem dX10_truncate_7 : decode cX10_truncate 7 = .ok (.lconst 0, 1) := by decide +kernel
theorem dX10_truncate_8 : decode cX10_truncate 8 = .ok (.aload_n 0, 1) := by decide +kernel
theorem dX10_truncate_9 : decode cX10_truncate 9 = .ok (.getfield 357, 3) := by decide +kernel
theorem dX10_truncate_12 : decode cX10_truncate 12 = .ok (.i2l, 1) := by decide +kernel
theorem dX10_truncate_13 : decode cX10_truncate 13 = .ok (.invokestatic 247, 3) := by decide +kernel
theorem dX10_truncate_16 : decode cX10_truncate 16 = .ok (.ifCond .ne 5, 3) := by decide +kernel
theorem dX10_truncate_19 : decode cX10_truncate 19 = .ok (.iconst 0, 1) := by decide +kernel
theorem dX10_truncate_20 : decode cX10_truncate 20 = .ok (.ireturn, 1) := by decide +kernel
theorem dX10_truncate_21 : decode cX10_truncate 21 = .ok (.aload_n 0, 1) := by decide +kernel
theorem dX10_truncate_22 : decode cX10_truncate 22 = .ok (.iload_n 1, 1) := by decide +kernel
theorem dX10_truncate_23 : decode cX10_truncate 23 = .ok (.putfield 357, 3) := by decide +kernel
theorem dX10_truncate_26 : decode cX10_truncate 26 = .ok (.iconst 1, 1) := by decide +kernel
theorem dX10_truncate_27 : decode cX10_truncate 27 = .ok (.ireturn, 1) := by decide +kernel
theorem hyX10_truncate : yX10_truncate.cls ≠ "java/lang/invoke/MethodHandle" ∧ yX10_truncate.cls ≠ "java/lang/invoke/VarHandle" ∧ (parseMethodDescriptor yX10_truncate.desc).map (fun d => d.parameters.length) = some 1 := ⟨by decide +kernel, by decide +kernel, by decide +kernel⟩
set_option maxRecDepth 100000 in
set_option maxHeartbeats 4000000 in
theorem wfX10_truncate (C : zC p s m args meth c cX10_truncate RX10 2 D Ca B En) (hRm : zRm R 1 25 cells slots) (σ : zS) (x0 : Nat) (x1 : Int32) (τ : zS) (r : Int32) (hf : fX10_truncate σ x0 x1 = some (τ, r)) (hq : ∀ (pc : Nat) (lv : List (Nat × Value)), (r = 0 ∨ r = 1) → decode cX10_truncate pc = .ok (.ireturn, 1) → zW p l e R s m args below meth c cells slots Q D Ca B 2 τ N pc lv [.int r]) : zW p l e R s m args below meth c cells slots Q D Ca B 2 σ N 0 [(0, .ref x0), (1, .int x1)] [] := by
  unfold fX10_truncate at hf
  refine z_aload_n C dX10_truncate_0 rfl 0 rfl ?_
  refine z_iconst C (zi 0) dX10_truncate_1 (by decide) ?_
  obtain ⟨σ1, hσ1, hf⟩ := zbind hf
  refine gp_RX10_92 C hσ1 dX10_truncate_2 ?_
  refine z_iload_n C dX10_truncate_5 rfl 1 rfl ?_
  refine z_i2l C dX10_truncate_6 ?_
  refine z_lconst C 0 dX10_truncate_7 (by decide) ?_
  refine z_aload_n C dX10_truncate_8 rfl 0 rfl ?_
  obtain ⟨v2, hv2, hf⟩ := zbind hf
  refine gf_RX10_357 C hv2 dX10_truncate_9 ?_
  refine z_i2l C dX10_truncate_12 ?_
  obtain ⟨c3, hc3, hf⟩ := zbind hf
  refine z_callSi (As := [.long x1.toInt64, .long 0, .long v2.toInt64]) (F0 := 1) (L0 := 25) C (mX10_isIn l D Ca B En C.2.2.2.2.2.2.2.1 σ1 N x1.toInt64 0 v2.toInt64 _ hc3) hRm kw_1392 kw_14 kw_1390 kw_1391 hyX10_isIn (Nat.le_of_ble_eq_true rfl) (Nat.le_of_ble_eq_true rfl) rfl rfl (Nat.le_of_ble_eq_true rfl) dX10_truncate_13 ?_
  refine z_if_ne C 21 dX10_truncate_16 (by decide) (fun q5 => ?_) (fun q5 => ?_)
  · rw [if_neg q5] at hf
    refine z_aload_n C dX10_truncate_21 rfl 0 rfl ?_
    refine z_iload_n C dX10_truncate_22 rfl 1 rfl ?_
    obtain ⟨σ4, hσ4, hf⟩ := zbind hf
    refine gp_RX10_357 C hσ4 dX10_truncate_23 ?_
    refine z_iconst C (zi 1) dX10_truncate_26 (by decide) ?_
    obtain ⟨e9, b9⟩ := zrZ_ok hf
    cases e9
    exact hq _ _ b9 dX10_truncate_27
  · rw [if_pos q5] at hf
    refine z_iconst C (zi 0) dX10_truncate_19 (by decide) ?_
    obtain ⟨e9, b9⟩ := zrZ_ok hf
    cases e9
    exact hq _ _ b9 dX10_truncate_20

theorem mX10_truncate (l : Launch) (D : va_G) (Ca : Nat → ClassId) (B : Nat) (En : State → Prop) (hE : zEk B En) (σ : zS) (N : Nat) (x0 : Nat) (x1 : Int32) (X : zS × Int32) (hf : fX10_truncate σ x0 x1 = some X) : zMi l D Ca B En yX10_truncate cX10_truncate 2 (Option.some Jvm.ClassFile.FieldType.boolean) 1 25 [.ref x0, .int x1] σ N X.1 X.2 :=
  zMet_i (own := RX10) hE (by decide +kernel) rfl (Nat.le_of_ble_eq_true rfl) (fun p e s m args below meth c C hr hRm => wfX10_truncate C hRm σ x0 x1 X.1 X.2 hf (fun pc lv hb hd => zfin_z C hb hr hd))
theorem dX10_here_0 : decode cX10_here 0 = .ok (.iload_n 1, 1) := by decide +kernel
theorem dX10_here_1 : decode cX10_here 1 = .ok (.aload_n 0, 1) := by decide +kernel
theorem dX10_here_2 : decode cX10_here 2 = .ok (.getfield 360, 3) := by decide +kernel
theorem dX10_here_5 : decode cX10_here 5 = .ok (.if_icmp .ge 16, 3) := by decide +kernel
theorem dX10_here_8 : decode cX10_here 8 = .ok (.aload_n 0, 1) := by decide +kernel
theorem dX10_here_9 : decode cX10_here 9 = .ok (.getfield 40, 3) := by decide +kernel
theorem dX10_here_12 : decode cX10_here 12 = .ok (.iload_n 1, 1) := by decide +kernel
theorem dX10_here_13 : decode cX10_here 13 = .ok (.baload, 1) := by decide +kernel
theorem dX10_here_14 : decode cX10_here 14 = .ok (.sipush 255, 3) := by decide +kernel
theorem dX10_here_17 : decode cX10_here 17 = .ok (.iand, 1) := by decide +kernel
theorem dX10_here_18 : decode cX10_here 18 = .ok (.goto 4, 3) := by decide +kernel
theorem dX10_here_21 : decode cX10_here 21 = .ok (.iconst (-1), 1) := by decide +kernel
theorem dX10_here_22 : decode cX10_here 22 = .ok (.ireturn, 1) := by decide +kernel
theorem hyX10_here : yX10_here.cls ≠ "java/lang/invoke/MethodHandle" ∧ yX10_here.cls ≠ "java/lang/invoke/VarHandle" ∧ (parseMethodDescriptor yX10_here.desc).map (fun d => d.parameters.length) = some 1 := ⟨by decide +kernel, by decide +kernel, by decide +kernel⟩
set_option maxRecDepth 100000 in
set_option maxHeartbeats 4000000 in
theorem wfX10_here (C : zC p s m args meth c cX10_here RX10 2 D Ca B En) (hRm : zRm R 0 0 cells slots) (σ : zS) (x0 : Nat) (x1 : Int32) (τ : zS) (r : Int32) (hf : fX10_here σ x0 x1 = some (τ, r)) (hq : ∀ (pc : Nat) (lv : List (Nat × Value)), decode cX10_here pc = .ok (.ireturn, 1) → zW p l e R s m args below meth c cells slots Q D Ca B 2 τ N pc lv [.int r]) : zW p l e R s m args below meth c cells slots Q D Ca B 2 σ N 0 [(0, .ref x0), (1, .int x1)] [] := by
  unfold fX10_here at hf
  refine z_iload_n C dX10_here_0 rfl 1 rfl ?_
  refine z_aload_n C dX10_here_1 rfl 0 rfl ?_
  obtain ⟨v1, hv1, hf⟩ := zbind hf
  refine gf_RX10_360 C hv1 dX10_here_2 ?_
  refine z_icmp_ge C 21 dX10_here_5 (by decide) (fun q4 => ?_) (fun q4 => ?_)
  · rw [if_pos q4] at hf
    refine z_iconst C (zi (-1)) dX10_here_21 (by decide) ?_
    cases hf
    exact hq _ _ dX10_here_22
  · rw [if_neg q4] at hf
    refine z_aload_n C dX10_here_8 rfl 0 rfl ?_
    obtain ⟨v2, hv2, hf⟩ := zbind hf
    refine gf_RX10_40 C hv2 dX10_here_9 ?_
    refine z_iload_n C dX10_here_12 rfl 1 rfl ?_
    obtain ⟨v3, hv3, hf⟩ := zbind hf
    refine z_aB C hv3 dX10_here_13 ?_
    refine z_sipush C (zi 255) dX10_here_14 (by decide) ?_
    refine z_iand C dX10_here_17 ?_
    refine z_goto C 22 dX10_here_18 (by decide) ?_
    cases hf
    exact hq _ _ dX10_here_22

theorem mX10_here (l : Launch) (D : va_G) (Ca : Nat → ClassId) (B : Nat) (En : State → Prop) (hE : zEk B En) (σ : zS) (N : Nat) (x0 : Nat) (x1 : Int32) (X : zS × Int32) (hf : fX10_here σ x0 x1 = some X) : zMi l D Ca B En yX10_here cX10_here 2 (Option.some Jvm.ClassFile.FieldType.int) 0 0 [.ref x0, .int x1] σ N X.1 X.2 :=
  zMet_i (own := RX10) hE (by decide +kernel) rfl (Nat.le_of_ble_eq_true rfl) (fun p e s m args below meth c C hr hRm => wfX10_here C hRm σ x0 x1 X.1 X.2 hf (fun pc lv hd => zfin_i C hr hd))
theorem dX10_wordHere_0 : decode cX10_wordHere 0 = .ok (.iconst 0, 1) := by decide +kernel
theorem dX10_wordHere_1 : decode cX10_wordHere 1 = .ok (.istore_n 1, 1) := by decide +kernel
theorem dX10_wordHere_2 : decode cX10_wordHere 2 = .ok (.iconst 0, 1) := by decide +kernel
theorem dX10_wordHere_3 : decode cX10_wordHere 3 = .ok (.istore_n 2, 1) := by decide +kernel
theorem dX10_wordHere_4 : decode cX10_wordHere 4 = .ok (.iload_n 2, 1) := by decide +kernel
theorem dX10_wordHere_5 : decode cX10_wordHere 5 = .ok (.ldc_w 392, 3) := by decide +kernel
theorem dX10_wordHere_8 : decode cX10_wordHere 8 = .ok (.invokevirtual 394, 3) := by decide +kernel
theorem dX10_wordHere_11 : decode cX10_wordHere 11 = .ok (.if_icmp .ge 121, 3) := by decide +kernel
theorem dX10_wordHere_14 : decode cX10_wordHere 14 = .ok (.iconst 0, 1) := by decide +kernel
theorem dX10_wordHere_15 : decode cX10_wordHere 15 = .ok (.istore_n 3, 1) := by decide +kernel
theorem dX10_wordHere_16 : decode cX10_wordHere 16 = .ok (.ldc_w 392, 3) := by decide +kernel
theorem dX10_wordHere_19 : decode cX10_wordHere 19 = .ok (.iload_n 2, 1) := by decide +kernel
theorem dX10_wordHere_20 : decode cX10_wordHere 20 = .ok (.iload_n 3, 1) := by decide +kernel
theorem dX10_wordHere_21 : decode cX10_wordHere 21 = .ok (.iadd, 1) := by decide +kernel
theorem dX10_wordHere_22 : decode cX10_wordHere 22 = .ok (.invokevirtual 398, 3) := by decide +kernel
theorem dX10_wordHere_25 : decode cX10_wordHere 25 = .ok (.bipush 32, 2) := by decide +kernel
theorem dX10_wordHere_27 : decode cX10_wordHere 27 = .ok (.if_icmp .eq 46, 3) := by decide +kernel
theorem dX10_wordHere_30 : decode cX10_wordHere 30 = .ok (.aload_n 0, 1) := by decide +kernel
theorem dX10_wordHere_31 : decode cX10_wordHere 31 = .ok (.getfield 369, 3) := by decide +kernel
theorem dX10_wordHere_34 : decode cX10_wordHere 34 = .ok (.iload_n 3, 1) := by decide +kernel
theorem dX10_wordHere_35 : decode cX10_wordHere 35 = .ok (.iadd, 1) := by decide +kernel
theorem dX10_wordHere_36 : decode cX10_wordHere 36 = .ok (.aload_n 0, 1) := by decide +kernel
theorem dX10_wordHere_37 : decode cX10_wordHere 37 = .ok (.getfield 363, 3) := by decide +kernel
theorem dX10_wordHere_40 : decode cX10_wordHere 40 = .ok (.if_icmp .ge 33, 3) := by decide +kernel
theorem dX10_wordHere_43 : decode cX10_wordHere 43 = .ok (.aload_n 0, 1) := by decide +kernel
theorem dX10_wordHere_44 : decode cX10_wordHere 44 = .ok (.getfield 40, 3) := by decide +kernel
theorem dX10_wordHere_47 : decode cX10_wordHere 47 = .ok (.aload_n 0, 1) := by decide +kernel
theorem dX10_wordHere_48 : decode cX10_wordHere 48 = .ok (.getfield 369, 3) := by decide +kernel
theorem dX10_wordHere_51 : decode cX10_wordHere 51 = .ok (.iload_n 3, 1) := by decide +kernel
theorem dX10_wordHere_52 : decode cX10_wordHere 52 = .ok (.iadd, 1) := by decide +kernel
theorem dX10_wordHere_53 : decode cX10_wordHere 53 = .ok (.baload, 1) := by decide +kernel
theorem dX10_wordHere_54 : decode cX10_wordHere 54 = .ok (.ldc_w 392, 3) := by decide +kernel
theorem dX10_wordHere_57 : decode cX10_wordHere 57 = .ok (.iload_n 2, 1) := by decide +kernel
theorem dX10_wordHere_58 : decode cX10_wordHere 58 = .ok (.iload_n 3, 1) := by decide +kernel
theorem dX10_wordHere_59 : decode cX10_wordHere 59 = .ok (.iadd, 1) := by decide +kernel
theorem dX10_wordHere_60 : decode cX10_wordHere 60 = .ok (.invokevirtual 398, 3) := by decide +kernel
theorem dX10_wordHere_63 : decode cX10_wordHere 63 = .ok (.if_icmp .ne 10, 3) := by decide +kernel
theorem dX10_wordHere_66 : decode cX10_wordHere 66 = .ok (.iload_n 3, 1) := by decide +kernel
theorem dX10_wordHere_67 : decode cX10_wordHere 67 = .ok (.iconst 1, 1) := by decide +kernel
theorem dX10_wordHere_68 : decode cX10_wordHere 68 = .ok (.iadd, 1) := by decide +kernel
theorem dX10_wordHere_69 : decode cX10_wordHere 69 = .ok (.istore_n 3, 1) := by decide +kernel
theorem dX10_wordHere_70 : decode cX10_wordHere 70 = .ok (.goto (-54), 3) := by decide +kernel
theorem dX10_wordHere_73 : decode cX10_wordHere 73 = .ok (.ldc_w 392, 3) := by decide +kernel
theorem dX10_wordHere_76 : decode cX10_wordHere 76 = .ok (.iload_n 2, 1) := by decide +kernel
theorem dX10_wordHere_77 : decode cX10_wordHere 77 = .ok (.iload_n 3, 1) := by decide +kernel
theorem dX10_wordHere_78 : decode cX10_wordHere 78 = .ok (.iadd, 1) := by decide +kernel
theorem dX10_wordHere_79 : decode cX10_wordHere 79 = .ok (.invokevirtual 398, 3) := by decide +kernel
theorem dX10_wordHere_82 : decode cX10_wordHere 82 = .ok (.bipush 32, 2) := by decide +kernel
theorem dX10_wordHere_84 : decode cX10_wordHere 84 = .ok (.if_icmp .ne 18, 3) := by decide +kernel
theorem dX10_wordHere_87 : decode cX10_wordHere 87 = .ok (.aload_n 0, 1) := by decide +kernel
theorem dX10_wordHere_88 : decode cX10_wordHere 88 = .ok (.getfield 369, 3) := by decide +kernel
theorem dX10_wordHere_91 : decode cX10_wordHere 91 = .ok (.iload_n 3, 1) := by decide +kernel
theorem dX10_wordHere_92 : decode cX10_wordHere 92 = .ok (.iadd, 1) := by decide +kernel
theorem dX10_wordHere_93 : decode cX10_wordHere 93 = .ok (.aload_n 0, 1) := by decide +kernel
theorem dX10_wordHere_94 : decode cX10_wordHere 94 = .ok (.getfield 363, 3) := by decide +kernel
theorem dX10_wordHere_97 : decode cX10_wordHere 97 = .ok (.if_icmp .ne 5, 3) := by decide +kernel
theorem dX10_wordHere_100 : decode cX10_wordHere 100 = .ok (.iload_n 1, 1) := by decide +kernel
theorem dX10_wordHere_101 : decode cX10_wordHere 101 = .ok (.ireturn, 1) := by decide +kernel
theorem dX10_wordHere_102 : decode cX10_wordHere 102 = .ok (.ldc_w 392, 3) := by decide +kernel
theorem dX10_wordHere_105 : decode cX10_wordHere 105 = .ok (.iload_n 2, 1) := by decide +kernel
theorem dX10_wordHere_106 : decode cX10_wordHere 106 = .ok (.invokevirtual 398, 3) := by decide +kernel
theorem dX10_wordHere_109 : decode cX10_wordHere 109 = .ok (.bipush 32, 2) := by decide +kernel
theorem dX10_wordHere_111 : decode cX10_wordHere 111 = .ok (.if_icmp .eq 10, 3) := by decide +kernel
theorem dX10_wordHere_114 : decode cX10_wordHere 114 = .ok (.iload_n 2, 1) := by decide +kernel
theorem dX10_wordHere_115 : decode cX10_wordHere 115 = .ok (.iconst 1, 1) := by decide +kernel
theorem dX10_wordHere_116 : decode cX10_wordHere 116 = .ok (.iadd, 1) := by decide +kernel
theorem dX10_wordHere_117 : decode cX10_wordHere 117 = .ok (.istore_n 2, 1) := by decide +kernel
theorem dX10_wordHere_118 : decode cX10_wordHere 118 = .ok (.goto (-16), 3) := by decide +kernel
theorem dX10_wordHere_121 : decode cX10_wordHere 121 = .ok (.iload_n 2, 1) := by decide +kernel
theorem dX10_wordHere_122 : decode cX10_wordHere 122 = .ok (.iconst 1, 1) := by decide +kernel
theorem dX10_wordHere_123 : decode cX10_wordHere 123 = .ok (.iadd, 1) := by decide +kernel
theorem dX10_wordHere_124 : decode cX10_wordHere 124 = .ok (.istore_n 2, 1) := by decide +kernel
theorem dX10_wordHere_125 : decode cX10_wordHere 125 = .ok (.iload_n 1, 1) := by decide +kernel
theorem dX10_wordHere_126 : decode cX10_wordHere 126 = .ok (.iconst 1, 1) := by decide +kernel
theorem dX10_wordHere_127 : decode cX10_wordHere 127 = .ok (.iadd, 1) := by decide +kernel
theorem dX10_wordHere_128 : decode cX10_wordHere 128 = .ok (.istore_n 1, 1) := by decide +kernel
theorem dX10_wordHere_129 : decode cX10_wordHere 129 = .ok (.goto (-125), 3) := by decide +kernel
theorem dX10_wordHere_132 : decode cX10_wordHere 132 = .ok (.iconst (-1), 1) := by decide +kernel
theorem dX10_wordHere_133 : decode cX10_wordHere 133 = .ok (.ireturn, 1) := by decide +kernel
theorem hyX10_wordHere : yX10_wordHere.cls ≠ "java/lang/invoke/MethodHandle" ∧ yX10_wordHere.cls ≠ "java/lang/invoke/VarHandle" ∧ (parseMethodDescriptor yX10_wordHere.desc).map (fun d => d.parameters.length) = some 0 := ⟨by decide +kernel, by decide +kernel, by decide +kernel⟩
set_option maxRecDepth 100000 in
set_option maxHeartbeats 4000000 in
theorem wsX10_wordHere_16b (C : zC p s m args meth c cX10_wordHere RX10 4 D Ca B En) (hRm : zRm R 4 85 cells slots) (ev : zEv) (hZ : ∀ U : State, En U → zEnv ev B U) (x0 : Nat) (x1 : Int32) (x2 : Int32) (σ : zS) (u3 : Int32) (y : (zS × Int32) ⊕ (zS × Int32)) (hf : sX10_wordHere_16b x0 x1 x2 σ u3 = some y) (hk : (∀ z : (zS × Int32), y = .inl z → zW p l e R s m args below meth c cells slots Q D Ca B 4 z.1 N 16 [(0, .ref x0), (1, .int x1), (2, .int x2), (3, .int z.2)] []) ∧ (∀ z : (zS × Int32), y = .inr z → zW p l e R s m args below meth c cells slots Q D Ca B 4 z.1 N 73 [(0, .ref x0), (1, .int x1), (2, .int x2), (3, .int z.2)] [])) : zW p l e R s m args below meth c cells slots Q D Ca B 4 σ N 16 [(0, .ref x0), (1, .int x1), (2, .int x2), (3, .int u3)] [] := by
  unfold sX10_wordHere_16b at hf
  refine z_ldSw C ev hZ dX10_wordHere_16 ?_
  refine z_iload_n C dX10_wordHere_19 rfl 2 rfl ?_
  refine z_iload_n C dX10_wordHere_20 rfl 3 rfl ?_
  refine z_iadd C dX10_wordHere_21 ?_
  obtain ⟨c2, hc2, hf⟩ := zbind hf
  obtain ⟨kc2, hc2⟩ := zsck_ok hc2
  refine z_callTi (As := [.int (x2 + u3)]) (F0 := 4) (L0 := 85) C ev hZ (mJ0_charAt_5068e l D Ca B En C.2.2.2.2.2.2.2.1 ev hZ σ N 9 (x2 + u3) _ hc2) hRm kc2 rfl kw_544 kw_15 kw_1845 kw_542 kw_543 hyJ0_charAt_5068e (Nat.le_of_ble_eq_true rfl) (Nat.le_of_ble_eq_true rfl) rfl rfl (Nat.le_of_ble_eq_true rfl) dX10_wordHere_22 ?_
  refine z_bipush C (zi 32) dX10_wordHere_25 (by decide) ?_
  refine z_icmp_eq C 73 dX10_wordHere_27 (by decide) (fun q11 => ?_) (fun q11 => ?_)
  · rw [if_pos q11] at hf
    cases hf
    refine z_sub [0, 1, 2, 3] rfl ?_
    exact hk.2 _ rfl
  · rw [if_neg q11] at hf
    refine z_aload_n C dX10_wordHere_30 rfl 0 rfl ?_
    obtain ⟨v3, hv3, hf⟩ := zbind hf
    refine gf_RX10_369 C hv3 dX10_wordHere_31 ?_
    refine z_iload_n C dX10_wordHere_34 rfl 3 rfl ?_
    refine z_iadd C dX10_wordHere_35 ?_
    refine z_aload_n C dX10_wordHere_36 rfl 0 rfl ?_
    obtain ⟨v4, hv4, hf⟩ := zbind hf
    refine gf_RX10_363 C hv4 dX10_wordHere_37 ?_
    refine z_icmp_ge C 73 dX10_wordHere_40 (by decide) (fun q10 => ?_) (fun q10 => ?_)
    · rw [if_pos q10] at hf
      cases hf
      refine z_sub [0, 1, 2, 3] rfl ?_
      exact hk.2 _ rfl
    · rw [if_neg q10] at hf
      refine z_aload_n C dX10_wordHere_43 rfl 0 rfl ?_
      obtain ⟨v5, hv5, hf⟩ := zbind hf
      refine gf_RX10_40 C hv5 dX10_wordHere_44 ?_
      refine z_aload_n C dX10_wordHere_47 rfl 0 rfl ?_
      obtain ⟨v6, hv6, hf⟩ := zbind hf
      refine gf_RX10_369 C hv6 dX10_wordHere_48 ?_
      refine z_iload_n C dX10_wordHere_51 rfl 3 rfl ?_
      refine z_iadd C dX10_wordHere_52 ?_
      obtain ⟨v7, hv7, hf⟩ := zbind hf
      refine z_aB C hv7 dX10_wordHere_53 ?_
      refine z_ldSw C ev hZ dX10_wordHere_54 ?_
      refine z_iload_n C dX10_wordHere_57 rfl 2 rfl ?_
      refine z_iload_n C dX10_wordHere_58 rfl 3 rfl ?_
      refine z_iadd C dX10_wordHere_59 ?_
      obtain ⟨c8, hc8, hf⟩ := zbind hf
      obtain ⟨kc8, hc8⟩ := zsck_ok hc8
      refine z_callTi (As := [.int (x2 + u3)]) (F0 := 4) (L0 := 85) C ev hZ (mJ0_charAt_5068e l D Ca B En C.2.2.2.2.2.2.2.1 ev hZ c2.1 N 9 (x2 + u3) _ hc8) hRm kc8 rfl kw_544 kw_15 kw_1845 kw_542 kw_543 hyJ0_charAt_5068e (Nat.le_of_ble_eq_true rfl) (Nat.le_of_ble_eq_true rfl) rfl rfl (Nat.le_of_ble_eq_true rfl) dX10_wordHere_60 ?_
      refine z_icmp_ne C 73 dX10_wordHere_63 (by decide) (fun q9 => ?_) (fun q9 => ?_)
      · rw [if_neg q9] at hf
        cases hf
        refine z_sub [0, 1, 2, 3] rfl ?_
        exact hk.2 _ rfl
      · rw [if_pos q9] at hf
        refine z_iload_n C dX10_wordHere_66 rfl 3 rfl ?_
        refine z_iconst C (zi 1) dX10_wordHere_67 (by decide) ?_
        refine z_iadd C dX10_wordHere_68 ?_
        refine z_istore_n (lv2 := [(3, .int (u3 + ((zi 1)))), (0, .ref x0), (1, .int x1), (2, .int x2)]) C dX10_wordHere_69 rfl (by decide) rfl ?_
        refine z_goto C 16 dX10_wordHere_70 (by decide) ?_
        cases hf
        refine z_sub [1, 2, 3, 0] rfl ?_
        exact hk.1 _ rfl

theorem wsX10_wordHere_16 (C : zC p s m args meth c cX10_wordHere RX10 4 D Ca B En) (hRm : zRm R 4 85 cells slots) (ev : zEv) (hZ : ∀ U : State, En U → zEnv ev B U) (x0 : Nat) (x1 : Int32) (x2 : Int32) (n : Nat) (z : (zS × Int32)) (x : (zS × Int32)) (hf : zloop (sX10_wordHere_16 x0 x1 x2) n z = some x) (hk : (∀ o : (zS × Int32), x = o → zW p l e R s m args below meth c cells slots Q D Ca B 4 o.1 N 73 [(0, .ref x0), (1, .int x1), (2, .int x2), (3, .int o.2)] [])) : zW p l e R s m args below meth c cells slots Q D Ca B 4 z.1 N 16 [(0, .ref x0), (1, .int x1), (2, .int x2), (3, .int z.2)] [] := by
  refine zloop_W (P := fun z : (zS × Int32) => zW p l e R s m args below meth c cells slots Q D Ca B 4 z.1 N 16 [(0, .ref x0), (1, .int x1), (2, .int x2), (3, .int z.2)] []) (K := fun x : (zS × Int32) => (∀ o : (zS × Int32), x = o → zW p l e R s m args below meth c cells slots Q D Ca B 4 o.1 N 73 [(0, .ref x0), (1, .int x1), (2, .int x2), (3, .int o.2)] [])) ?_ n z x hf hk
  intro z y hy h1 h2
  refine wsX10_wordHere_16b C hRm ev hZ x0 x1 x2 z.1 z.2 y hy ⟨fun z2 e => h1 z2 e, fun o e => (h2 _ e) o rfl⟩
set_option maxRecDepth 100000 in
set_option maxHeartbeats 4000000 in
theorem wsX10_wordHere_102b (C : zC p s m args meth c cX10_wordHere RX10 4 D Ca B En) (hRm : zRm R 4 85 cells slots) (ev : zEv) (hZ : ∀ U : State, En U → zEnv ev B U) (x0 : Nat) (x1 : Int32) (σ : zS) (u2 : Int32) (y : (zS × Int32) ⊕ (zS × Int32)) (hf : sX10_wordHere_102b x0 x1 σ u2 = some y) (hk : (∀ z : (zS × Int32), y = .inl z → zW p l e R s m args below meth c cells slots Q D Ca B 4 z.1 N 102 [(0, .ref x0), (1, .int x1), (2, .int z.2)] []) ∧ (∀ z : (zS × Int32), y = .inr z → zW p l e R s m args below meth c cells slots Q D Ca B 4 z.1 N 121 [(0, .ref x0), (1, .int x1), (2, .int z.2)] [])) : zW p l e R s m args below meth c cells slots Q D Ca B 4 σ N 102 [(0, .ref x0), (1, .int x1), (2, .int u2)] [] := by
  unfold sX10_wordHere_102b at hf
  refine z_ldSw C ev hZ dX10_wordHere_102 ?_
  refine z_iload_n C dX10_wordHere_105 rfl 2 rfl ?_
  obtain ⟨c14, hc14, hf⟩ := zbind hf
  obtain ⟨kc14, hc14⟩ := zsck_ok hc14
  refine z_callTi (As := [.int u2]) (F0 := 4) (L0 := 85) C ev hZ (mJ0_charAt_5068e l D Ca B En C.2.2.2.2.2.2.2.1 ev hZ σ N 9 u2 _ hc14) hRm kc14 rfl kw_544 kw_15 kw_1845 kw_542 kw_543 hyJ0_charAt_5068e (Nat.le_of_ble_eq_true rfl) (Nat.le_of_ble_eq_true rfl) rfl rfl (Nat.le_of_ble_eq_true rfl) dX10_wordHere_106 ?_
  refine z_bipush C (zi 32) dX10_wordHere_109 (by decide) ?_
  refine z_icmp_eq C 121 dX10_wordHere_111 (by decide) (fun q15 => ?_) (fun q15 => ?_)
  · rw [if_pos q15] at hf
    cases hf
    refine z_sub [0, 1, 2] rfl ?_
    exact hk.2 _ rfl
  · rw [if_neg q15] at hf
    refine z_iload_n C dX10_wordHere_114 rfl 2 rfl ?_
    refine z_iconst C (zi 1) dX10_wordHere_115 (by decide) ?_
    refine z_iadd C dX10_wordHere_116 ?_
    refine z_istore_n (lv2 := [(2, .int (u2 + ((zi 1)))), (0, .ref x0), (1, .int x1)]) C dX10_wordHere_117 rfl (by decide) rfl ?_
    refine z_goto C 102 dX10_wordHere_118 (by decide) ?_
    cases hf
    refine z_sub [1, 2, 0] rfl ?_
    exact hk.1 _ rfl

theorem wsX10_wordHere_102 (C : zC p s m args meth c cX10_wordHere RX10 4 D Ca B En) (hRm : zRm R 4 85 cells slots) (ev : zEv) (hZ : ∀ U : State, En U → zEnv ev B U) (x0 : Nat) (x1 : Int32) (n : Nat) (z : (zS × Int32)) (x : (zS × Int32)) (hf : zloop (sX10_wordHere_102 x0 x1) n z = some x) (hk : (∀ o : (zS × Int32), x = o → zW p l e R s m args below meth c cells slots Q D Ca B 4 o.1 N 121 [(0, .ref x0), (1, .int x1), (2, .int o.2)] [])) : zW p l e R s m args below meth c cells slots Q D Ca B 4 z.1 N 102 [(0, .ref x0), (1, .int x1), (2, .int z.2)] [] := by
  refine zloop_W (P := fun z : (zS × Int32) => zW p l e R s m args below meth c cells slots Q D Ca B 4 z.1 N 102 [(0, .ref x0), (1, .int x1), (2, .int z.2)] []) (K := fun x : (zS × Int32) => (∀ o : (zS × Int32), x = o → zW p l e R s m args below meth c cells slots Q D Ca B 4 o.1 N 121 [(0, .ref x0), (1, .int x1), (2, .int o.2)] [])) ?_ n z x hf hk
  intro z y hy h1 h2
  refine wsX10_wordHere_102b C hRm ev hZ x0 x1 z.1 z.2 y hy ⟨fun z2 e => h1 z2 e, fun o e => (h2 _ e) o rfl⟩
set_option maxRecDepth 100000 in
set_option maxHeartbeats 4000000 in
theorem wjX10_wordHere_102_L4 (C : zC p s m args meth c cX10_wordHere RX10 4 D Ca B En) (hRm : zRm R 4 85 cells slots) (ev : zEv) (hZ : ∀ U : State, En U → zEnv ev B U) (σ : zS) (x0 : Nat) (x1 : Int32) (x2 : Int32)  (y : (zS × Int32 × Int32) ⊕ ((zS × Int32) ⊕ zS)) (hf : jX10_wordHere_102_L4 σ x0 x1 x2  = some y) (hk : (∀ z : (zS × Int32 × Int32), y = .inl z → zW p l e R s m args below meth c cells slots Q D Ca B 4 z.1 N 4 [(0, .ref x0), (1, .int z.2.1), (2, .int z.2.2)] []) ∧ (∀ z : (zS × Int32), y = .inr (.inl z) → zW p l e R s m args below meth c cells slots Q D Ca B 4 z.1 N 100 [(1, .int z.2)] []) ∧ (∀ z : zS, y = .inr (.inr z) → zW p l e R s m args below meth c cells slots Q D Ca B 4 z N 132 [] [])) : zW p l e R s m args below meth c cells slots Q D Ca B 4 σ N 102 [(0, .ref x0), (1, .int x1), (2, .int x2)] [] := by
  unfold jX10_wordHere_102_L4 at hf
  obtain ⟨o16, ho16, hf⟩ := zbind hf
  refine z_sub [0, 1, 2] rfl ?_
  refine wsX10_wordHere_102 C hRm ev hZ _ _ zfuel (σ, x2) o16 ho16 ?_
  intro z9 e9
  subst e9
  refine z_iload_n C dX10_wordHere_121 rfl 2 rfl ?_
  refine z_iconst C (zi 1) dX10_wordHere_122 (by decide) ?_
  refine z_iadd C dX10_wordHere_123 ?_
  refine z_istore_n (lv2 := [(2, .int (o16.2 + ((zi 1)))), (0, .ref x0), (1, .int x1)]) C dX10_wordHere_124 rfl (by decide) rfl ?_
  refine z_iload_n C dX10_wordHere_125 rfl 2 rfl ?_
  refine z_iconst C (zi 1) dX10_wordHere_126 (by decide) ?_
  refine z_iadd C dX10_wordHere_127 ?_
  refine z_istore_n (lv2 := [(1, .int (x1 + ((zi 1)))), (2, .int (o16.2 + ((zi 1)))), (0, .ref x0)]) C dX10_wordHere_128 rfl (by decide) rfl ?_
  refine z_goto C 4 dX10_wordHere_129 (by decide) ?_
  cases hf
  refine z_sub [2, 0, 1] rfl ?_
  exact hk.1 _ rfl

set_option maxRecDepth 100000 in
set_option maxHeartbeats 4000000 in
theorem wjX10_wordHere_73_L4 (C : zC p s m args meth c cX10_wordHere RX10 4 D Ca B En) (hRm : zRm R 4 85 cells slots) (ev : zEv) (hZ : ∀ U : State, En U → zEnv ev B U) (σ : zS) (x0 : Nat) (x1 : Int32) (x2 : Int32) (x3 : Int32)  (y : (zS × Int32 × Int32) ⊕ ((zS × Int32) ⊕ zS)) (hf : jX10_wordHere_73_L4 σ x0 x1 x2 x3  = some y) (hk : (∀ z : (zS × Int32 × Int32), y = .inl z → zW p l e R s m args below meth c cells slots Q D Ca B 4 z.1 N 4 [(0, .ref x0), (1, .int z.2.1), (2, .int z.2.2)] []) ∧ (∀ z : (zS × Int32), y = .inr (.inl z) → zW p l e R s m args below meth c cells slots Q D Ca B 4 z.1 N 100 [(1, .int z.2)] []) ∧ (∀ z : zS, y = .inr (.inr z) → zW p l e R s m args below meth c cells slots Q D Ca B 4 z N 132 [] [])) : zW p l e R s m args below meth c cells slots Q D Ca B 4 σ N 73 [(0, .ref x0), (1, .int x1), (2, .int x2), (3, .int x3)] [] := by
  unfold jX10_wordHere_73_L4 at hf
  refine z_ldSw C ev hZ dX10_wordHere_73 ?_
  refine z_iload_n C dX10_wordHere_76 rfl 2 rfl ?_
  refine z_iload_n C dX10_wordHere_77 rfl 3 rfl ?_
  refine z_iadd C dX10_wordHere_78 ?_
  obtain ⟨c13, hc13, hf⟩ := zbind hf
  obtain ⟨kc13, hc13⟩ := zsck_ok hc13
  refine z_callTi (As := [.int (x2 + x3)]) (F0 := 4) (L0 := 85) C ev hZ (mJ0_charAt_5068e l D Ca B En C.2.2.2.2.2.2.2.1 ev hZ σ N 9 (x2 + x3) _ hc13) hRm kc13 rfl kw_544 kw_15 kw_1845 kw_542 kw_543 hyJ0_charAt_5068e (Nat.le_of_ble_eq_true rfl) (Nat.le_of_ble_eq_true rfl) rfl rfl (Nat.le_of_ble_eq_true rfl) dX10_wordHere_79 ?_
  refine z_bipush C (zi 32) dX10_wordHere_82 (by decide) ?_
  refine z_icmp_ne C 102 dX10_wordHere_84 (by decide) (fun q20 => ?_) (fun q20 => ?_)
  · rw [if_neg q20] at hf
    refine z_sub [0, 1, 2] rfl ?_
    exact wjX10_wordHere_102_L4 C hRm ev hZ _ _ _ _  _ hf hk
  · rw [if_pos q20] at hf
    refine z_aload_n C dX10_wordHere_87 rfl 0 rfl ?_
    obtain ⟨v17, hv17, hf⟩ := zbind hf
    refine gf_RX10_369 C hv17 dX10_wordHere_88 ?_
    refine z_iload_n C dX10_wordHere_91 rfl 3 rfl ?_
    refine z_iadd C dX10_wordHere_92 ?_
    refine z_aload_n C dX10_wordHere_93 rfl 0 rfl ?_
    obtain ⟨v18, hv18, hf⟩ := zbind hf
    refine gf_RX10_363 C hv18 dX10_wordHere_94 ?_
    refine z_icmp_ne C 102 dX10_wordHere_97 (by decide) (fun q19 => ?_) (fun q19 => ?_)
    · rw [if_neg q19] at hf
      refine z_sub [0, 1, 2] rfl ?_
      exact wjX10_wordHere_102_L4 C hRm ev hZ _ _ _ _  _ hf hk
    · rw [if_pos q19] at hf
      cases hf
      refine z_sub [1] rfl ?_
      exact hk.2.1 _ rfl

set_option maxRecDepth 100000 in
set_option maxHeartbeats 4000000 in
theorem wsX10_wordHere_4b (C : zC p s m args meth c cX10_wordHere RX10 4 D Ca B En) (hRm : zRm R 4 85 cells slots) (ev : zEv) (hZ : ∀ U : State, En U → zEnv ev B U) (x0 : Nat) (σ : zS) (u1 : Int32) (u2 : Int32) (y : (zS × Int32 × Int32) ⊕ ((zS × Int32) ⊕ zS)) (hf : sX10_wordHere_4b x0 σ u1 u2 = some y) (hk : (∀ z : (zS × Int32 × Int32), y = .inl z → zW p l e R s m args below meth c cells slots Q D Ca B 4 z.1 N 4 [(0, .ref x0), (1, .int z.2.1), (2, .int z.2.2)] []) ∧ (∀ z : (zS × Int32), y = .inr (.inl z) → zW p l e R s m args below meth c cells slots Q D Ca B 4 z.1 N 100 [(1, .int z.2)] []) ∧ (∀ z : zS, y = .inr (.inr z) → zW p l e R s m args below meth c cells slots Q D Ca B 4 z N 132 [] [])) : zW p l e R s m args below meth c cells slots Q D Ca B 4 σ N 4 [(0, .ref x0), (1, .int u1), (2, .int u2)] [] := by
  unfold sX10_wordHere_4b at hf
  refine z_iload_n C dX10_wordHere_4 rfl 2 rfl ?_
  refine z_ldSw C ev hZ dX10_wordHere_5 ?_
  obtain ⟨c1, hc1, hf⟩ := zbind hf
  obtain ⟨kc1, hc1⟩ := zsck_ok hc1
  refine z_callTi (As := []) (F0 := 4) (L0 := 85) C ev hZ (mJ0_length_8abf5 l D Ca B En C.2.2.2.2.2.2.2.1 ev hZ σ N 9  _ hc1) hRm kc1 rfl kw_534 kw_15 kw_1844 kw_532 kw_533 hyJ0_length_8abf5 (Nat.le_of_ble_eq_true rfl) (Nat.le_of_ble_eq_true rfl) rfl rfl (Nat.le_of_ble_eq_true rfl) dX10_wordHere_8 ?_
  refine z_icmp_ge C 132 dX10_wordHere_11 (by decide) (fun q21 => ?_) (fun q21 => ?_)
  · rw [if_pos q21] at hf
    cases hf
    refine z_sub [] rfl ?_
    exact hk.2.2 _ rfl
  · rw [if_neg q21] at hf
    refine z_iconst C (zi 0) dX10_wordHere_14 (by decide) ?_
    refine z_istore_n (lv2 := [(3, .int ((zi 0))), (0, .ref x0), (1, .int u1), (2, .int u2)]) C dX10_wordHere_15 rfl (by decide) rfl ?_
    obtain ⟨o12, ho12, hf⟩ := zbind hf
    refine z_sub [1, 2, 3, 0] rfl ?_
    refine wsX10_wordHere_16 C hRm ev hZ _ _ _ zfuel (c1.1, (zi 0)) o12 ho12 ?_
    intro z9 e9
    subst e9
    refine z_sub [0, 1, 2, 3] rfl ?_
    exact wjX10_wordHere_73_L4 C hRm ev hZ _ _ _ _ _  _ hf hk

theorem wsX10_wordHere_4 (C : zC p s m args meth c cX10_wordHere RX10 4 D Ca B En) (hRm : zRm R 4 85 cells slots) (ev : zEv) (hZ : ∀ U : State, En U → zEnv ev B U) (x0 : Nat) (n : Nat) (z : (zS × Int32 × Int32)) (x : ((zS × Int32) ⊕ zS)) (hf : zloop (sX10_wordHere_4 x0) n z = some x) (hk : (∀ o : (zS × Int32), x = (.inl o) → zW p l e R s m args below meth c cells slots Q D Ca B 4 o.1 N 100 [(1, .int o.2)] []) ∧ (∀ o : zS, x = (.inr o) → zW p l e R s m args below meth c cells slots Q D Ca B 4 o N 132 [] [])) : zW p l e R s m args below meth c cells slots Q D Ca B 4 z.1 N 4 [(0, .ref x0), (1, .int z.2.1), (2, .int z.2.2)] [] := by
  refine zloop_W (P := fun z : (zS × Int32 × Int32) => zW p l e R s m args below meth c cells slots Q D Ca B 4 z.1 N 4 [(0, .ref x0), (1, .int z.2.1), (2, .int z.2.2)] []) (K := fun x : ((zS × Int32) ⊕ zS) => (∀ o : (zS × Int32), x = (.inl o) → zW p l e R s m args below meth c cells slots Q D Ca B 4 o.1 N 100 [(1, .int o.2)] []) ∧ (∀ o : zS, x = (.inr o) → zW p l e R s m args below meth c cells slots Q D Ca B 4 o N 132 [] [])) ?_ n z x hf hk
  intro z y hy h1 h2
  refine wsX10_wordHere_4b C hRm ev hZ x0 z.1 z.2.1 z.2.2 y hy ⟨fun z2 e => h1 z2 e, fun o e => (h2 _ e).1 o rfl, fun o e => (h2 _ e).2 o rfl⟩
set_option maxRecDepth 100000 in
set_option maxHeartbeats 4000000 in
theorem wfX10_wordHere (C : zC p s m args meth c cX10_wordHere RX10 4 D Ca B En) (hRm : zRm R 4 85 cells slots) (ev : zEv) (hZ : ∀ U : State, En U → zEnv ev B U) (σ : zS) (x0 : Nat) (τ : zS) (r : Int32) (hf : fX10_wordHere σ x0 = some (τ, r)) (hq : ∀ (pc : Nat) (lv : List (Nat × Value)), decode cX10_wordHere pc = .ok (.ireturn, 1) → zW p l e R s m args below meth c cells slots Q D Ca B 4 τ N pc lv [.int r]) : zW p l e R s m args below meth c cells slots Q D Ca B 4 σ N 0 [(0, .ref x0)] [] := by
  unfold fX10_wordHere at hf
  refine z_iconst C (zi 0) dX10_wordHere_0 (by decide) ?_
  refine z_istore_n (lv2 := [(1, .int ((zi 0))), (0, .ref x0)]) C dX10_wordHere_1 rfl (by decide) rfl ?_
  refine z_iconst C (zi 0) dX10_wordHere_2 (by decide) ?_
  refine z_istore_n (lv2 := [(2, .int ((zi 0))), (1, .int ((zi 0))), (0, .ref x0)]) C dX10_wordHere_3 rfl (by decide) rfl ?_
  obtain ⟨o22, ho22, hf⟩ := zbind hf
  refine z_sub [2, 1, 0] rfl ?_
  refine wsX10_wordHere_4 C hRm ev hZ _ zfuel (σ, (zi 0), (zi 0)) o22 ho22 ⟨?_, ?_⟩
  · intro z23 e9
    subst e9
    dsimp only at hf
    refine z_iload_n C dX10_wordHere_100 rfl 0 rfl ?_
    cases hf
    exact hq _ _ dX10_wordHere_101
  · intro z24 e9
    subst e9
    dsimp only at hf
    refine z_iconst C (zi (-1)) dX10_wordHere_132 (by decide) ?_
    cases hf
    exact hq _ _ dX10_wordHere_133

theorem mX10_wordHere (l : Launch) (D : va_G) (Ca : Nat → ClassId) (B : Nat) (En : State → Prop) (hE : zEk B En) (ev : zEv) (hZ : ∀ U : State, En U → zEnv ev B U) (σ : zS) (N : Nat) (x0 : Nat) (X : zS × Int32) (hf : fX10_wordHere σ x0 = some X) : zMi l D Ca B En yX10_wordHere cX10_wordHere 4 (Option.some Jvm.ClassFile.FieldType.int) 4 85 [.ref x0] σ N X.1 X.2 :=
  zMet_i (own := RX10) hE (by decide +kernel) rfl (Nat.le_of_ble_eq_true rfl) (fun p e s m args below meth c C hr hRm => wfX10_wordHere C hRm ev hZ σ x0 X.1 X.2 hf (fun pc lv hd => zfin_i C hr hd))
theorem dX10_next_0 : decode cX10_next 0 = .ok (.aload_n 0, 1) := by decide +kernel
theorem dX10_next_1 : decode cX10_next 1 = .ok (.aload_n 0, 1) := by decide +kernel
theorem dX10_next_2 : decode cX10_next 2 = .ok (.getfield 363, 3) := by decide +kernel
theorem dX10_next_5 : decode cX10_next 5 = .ok (.invokevirtual 366, 3) := by decide +kernel
theorem dX10_next_8 : decode cX10_next 8 = .ok (.bipush 32, 2) := by decide +kernel
theorem dX10_next_10 : decode cX10_next 10 = .ok (.if_icmp .eq 16, 3) := by decide +kernel
theorem dX10_next_13 : decode cX10_next 13 = .ok (.aload_n 0, 1) := by decide +kernel
theorem dX10_next_14 : decode cX10_next 14 = .ok (.aload_n 0, 1) := by decide +kernel
theorem dX10_next_15 : decode cX10_next 15 = .ok (.getfield 363, 3) := by decide +kernel
theorem dX10_next_18 : decode cX10_next 18 = .ok (.invokevirtual 366, 3) := by decide +kernel
theorem dX10_next_21 : decode cX10_next 21 = .ok (.bipush 10, 2) := by decide +kernel
theorem dX10_next_23 : decode cX10_next 23 = .ok (.if_icmp .ne 16, 3) := by decide +kernel
theorem dX10_next_26 : decode cX10_next 26 = .ok (.aload_n 0, 1) := by decide +kernel
theorem dX10_next_27 : decode cX10_next 27 = .ok (.aload_n 0, 1) := by decide +kernel
theorem dX10_next_28 : decode cX10_next 28 = .ok (.getfield 363, 3) := by decide +kernel
theorem dX10_next_31 : decode cX10_next 31 = .ok (.iconst 1, 1) := by decide +kernel
theorem dX10_next_32 : decode cX10_next 32 = .ok (.iadd, 1) := by decide +kernel
theorem dX10_next_33 : decode cX10_next 33 = .ok (.putfield 363, 3) := by decide +kernel
theorem dX10_next_36 : decode cX10_next 36 = .ok (.goto (-36), 3) := by decide +kernel
theorem dX10_next_39 : decode cX10_next 39 = .ok (.aload_n 0, 1) := by decide +kernel
theorem dX10_next_40 : decode cX10_next 40 = .ok (.aload_n 0, 1) := by decide +kernel
theorem dX10_next_41 : decode cX10_next 41 = .ok (.getfield 363, 3) := by decide +kernel
theorem dX10_next_44 : decode cX10_next 44 = .ok (.putfield 369, 3) := by decide +kernel
theorem dX10_next_47 : decode cX10_next 47 = .ok (.aload_n 0, 1) := by decide +kernel
theorem dX10_next_48 : decode cX10_next 48 = .ok (.aload_n 0, 1) := by decide +kernel
theorem dX10_next_49 : decode cX10_next 49 = .ok (.getfield 363, 3) := by decide +kernel
theorem dX10_next_52 : decode cX10_next 52 = .ok (.invokevirtual 366, 3) := by decide +kernel
theorem dX10_next_55 : decode cX10_next 55 = .ok (.istore_n 1, 1) := by decide +kernel
theorem dX10_next_56 : decode cX10_next 56 = .ok (.iload_n 1, 1) := by decide +kernel
theorem dX10_next_57 : decode cX10_next 57 = .ok (.iconst (-1), 1) := by decide +kernel
theorem dX10_next_58 : decode cX10_next 58 = .ok (.if_icmp .ne 11, 3) := by decide +kernel
theorem dX10_next_61 : decode cX10_next 61 = .ok (.aload_n 0, 1) := by decide +kernel
theorem dX10_next_62 : decode cX10_next 62 = .ok (.iconst 0, 1) := by decide +kernel
theorem dX10_next_63 : decode cX10_next 63 = .ok (.putfield 372, 3) := by decide +kernel
theorem dX10_next_66 : decode cX10_next 66 = .ok (.goto 206, 3) := by decide +kernel
theorem dX10_next_69 : decode cX10_next 69 = .ok (.iload_n 1, 1) := by decide +kernel
theorem dX10_next_70 : decode cX10_next 70 = .ok (.i2l, 1) := by decide +kernel
theorem dX10_next_71 : decode cX10_next 71 = .ok (.ldc2_w 375, 3) := by decide +kernel
theorem dX10_next_74 : decode cX10_next 74 = .ok (.ldc2_w 377, 3) := by decide +kernel
theorem dX10_next_77 : decode cX10_next 77 = .ok (.invokestatic 247, 3) := by decide +kernel
theorem dX10_next_80 : decode cX10_next 80 = .ok (.ifCond .eq 53, 3) := by decide +kernel
theorem dX10_next_83 : decode cX10_next 83 = .ok (.aload_n 0, 1) := by decide +kernel
theorem dX10_next_84 : decode cX10_next 84 = .ok (.aload_n 0, 1) := by decide +kernel
theorem dX10_next_85 : decode cX10_next 85 = .ok (.getfield 363, 3) := by decide +kernel
theorem dX10_next_88 : decode cX10_next 88 = .ok (.invokevirtual 366, 3) := by decide +kernel
theorem dX10_next_91 : decode cX10_next 91 = .ok (.i2l, 1) := by decide +kernel
theorem dX10_next_92 : decode cX10_next 92 = .ok (.ldc2_w 375, 3) := by decide +kernel
theorem dX10_next_95 : decode cX10_next 95 = .ok (.ldc2_w 377, 3) := by decide +kernel
theorem dX10_next_98 : decode cX10_next 98 = .ok (.invokestatic 247, 3) := by decide +kernel
theorem dX10_next_101 : decode cX10_next 101 = .ok (.ifCond .eq 16, 3) := by decide +kernel
theorem dX10_next_104 : decode cX10_next 104 = .ok (.aload_n 0, 1) := by decide +kernel
theorem dX10_next_105 : decode cX10_next 105 = .ok (.aload_n 0, 1) := by decide +kernel
theorem dX10_next_106 : decode cX10_next 106 = .ok (.getfield 363, 3) := by decide +kernel
theorem dX10_next_109 : decode cX10_next 109 = .ok (.iconst 1, 1) := by decide +kernel
theorem dX10_next_110 : decode cX10_next 110 = .ok (.iadd, 1) := by decide +kernel
theorem dX10_next_111 : decode cX10_next 111 = .ok (.putfield 363, 3) := by decide +kernel
theorem dX10_next_114 : decode cX10_next 114 = .ok (.goto (-31), 3) := by decide +kernel
theorem dX10_next_117 : decode cX10_next 117 = .ok (.aload_n 0, 1) := by decide +kernel
theorem dX10_next_118 : decode cX10_next 118 = .ok (.iconst 1, 1) := by decide +kernel
theorem dX10_next_119 : decode cX10_next 119 = .ok (.putfield 372, 3) := by decide +kernel
theorem dX10_next_122 : decode cX10_next 122 = .ok (.aload_n 0, 1) := by decide +kernel
theorem dX10_next_123 : decode cX10_next 123 = .ok (.aload_n 0, 1) := by decide +kernel
theorem dX10_next_124 : decode cX10_next 124 = .ok (.invokevirtual 379, 3) := by decide +kernel
theorem dX10_next_127 : decode cX10_next 127 = .ok (.putfield 382, 3) := by decide +kernel
theorem dX10_next_130 : decode cX10_next 130 = .ok (.goto 142, 3) := by decide +kernel
theorem dX10_next_133 : decode cX10_next 133 = .ok (.iload_n 1, 1) := by decide +kernel
theorem dX10_next_134 : decode cX10_next 134 = .ok (.i2l, 1) := by decide +kernel
theorem dX10_next_135 : decode cX10_next 135 = .ok (.ldc2_w 385, 3) := by decide +kernel
theorem dX10_next_138 : decode cX10_next 138 = .ok (.ldc2_w 387, 3) := by decide +kernel
theorem dX10_next_141 : decode cX10_next 141 = .ok (.invokestatic 247, 3) := by decide +kernel
theorem dX10_next_144 : decode cX10_next 144 = .ok (.ifCond .eq 103, 3) := by decide +kernel
theorem dX10_next_147 : decode cX10_next 147 = .ok (.aload_n 0, 1) := by decide +kernel
theorem dX10_next_148 : decode cX10_next 148 = .ok (.iconst 0, 1) := by decide +kernel
theorem dX10_next_149 : decode cX10_next 149 = .ok (.putfield 389, 3) := by decide +kernel
theorem dX10_next_152 : decode cX10_next 152 = .ok (.aload_n 0, 1) := by decide +kernel
theorem dX10_next_153 : decode cX10_next 153 = .ok (.aload_n 0, 1) := by decide +kernel
theorem dX10_next_154 : decode cX10_next 154 = .ok (.getfield 363, 3) := by decide +kernel
theorem dX10_next_157 : decode cX10_next 157 = .ok (.invokevirtual 366, 3) := by decide +kernel
theorem dX10_next_160 : decode cX10_next 160 = .ok (.i2l, 1) := by decide +kernel
theorem dX10_next_161 : decode cX10_next 161 = .ok (.ldc2_w 385, 3) := by decide +kernel
theorem dX10_next_164 : decode cX10_next 164 = .ok (.ldc2_w 387, 3) := by decide +kernel
theorem dX10_next_167 : decode cX10_next 167 = .ok (.invokestatic 247, 3) := by decide +kernel
theorem dX10_next_170 : decode cX10_next 170 = .ok (.ifCond .eq 52, 3) := by decide +kernel
theorem dX10_next_173 : decode cX10_next 173 = .ok (.aload_n 0, 1) := by decide +kernel
theorem dX10_next_174 : decode cX10_next 174 = .ok (.getfield 363, 3) := by decide +kernel
theorem dX10_next_177 : decode cX10_next 177 = .ok (.aload_n 0, 1) := by decide +kernel
theorem dX10_next_178 : decode cX10_next 178 = .ok (.getfield 369, 3) := by decide +kernel
theorem dX10_next_181 : decode cX10_next 181 = .ok (.isub, 1) := by decide +kernel
theorem dX10_next_182 : decode cX10_next 182 = .ok (.iconst 3, 1) := by decide +kernel
theorem dX10_next_183 : decode cX10_next 183 = .ok (.if_icmp .ge 26, 3) := by decide +kernel
theorem dX10_next_186 : decode cX10_next 186 = .ok (.aload_n 0, 1) := by decide +kernel
theorem dX10_next_187 : decode cX10_next 187 = .ok (.bipush 10, 2) := by decide +kernel
theorem dX10_next_189 : decode cX10_next 189 = .ok (.aload_n 0, 1) := by decide +kernel
theorem dX10_next_190 : decode cX10_next 190 = .ok (.getfield 389, 3) := by decide +kernel
theorem dX10_next_193 : decode cX10_next 193 = .ok (.imul, 1) := by decide +kernel
theorem dX10_next_194 : decode cX10_next 194 = .ok (.aload_n 0, 1) := by decide +kernel
theorem dX10_next_195 : decode cX10_next 195 = .ok (.aload_n 0, 1) := by decide +kernel
theorem dX10_next_196 : decode cX10_next 196 = .ok (.getfield 363, 3) := by decide +kernel
theorem dX10_next_199 : decode cX10_next 199 = .ok (.invokevirtual 366, 3) := by decide +kernel
theorem dX10_next_202 : decode cX10_next 202 = .ok (.iadd, 1) := by decide +kernel
theorem dX10_next_203 : decode cX10_next 203 = .ok (.bipush 48, 2) := by decide +kernel
theorem dX10_next_205 : decode cX10_next 205 = .ok (.isub, 1) := by decide +kernel
theorem dX10_next_206 : decode cX10_next 206 = .ok (.putfield 389, 3) := by decide +kernel
theorem dX10_next_209 : decode cX10_next 209 = .ok (.aload_n 0, 1) := by decide +kernel
theorem dX10_next_210 : decode cX10_next 210 = .ok (.dup, 1) := by decide +kernel
theorem dX10_next_211 : decode cX10_next 211 = .ok (.getfield 363, 3) := by decide +kernel
theorem dX10_next_214 : decode cX10_next 214 = .ok (.iconst 1, 1) := by decide +kernel
theorem dX10_next_215 : decode cX10_next 215 = .ok (.iadd, 1) := by decide +kernel
theorem dX10_next_216 : decode cX10_next 216 = .ok (.putfield 363, 3) := by decide +kernel
theorem dX10_next_219 : decode cX10_next 219 = .ok (.goto (-67), 3) := by decide +kernel
theorem dX10_next_222 : decode cX10_next 222 = .ok (.aload_n 0, 1) := by decide +kernel
theorem dX10_next_223 : decode cX10_next 223 = .ok (.aload_n 0, 1) := by decide +kernel
theorem dX10_next_224 : decode cX10_next 224 = .ok (.getfield 363, 3) := by decide +kernel
theorem dX10_next_227 : decode cX10_next 227 = .ok (.aload_n 0, 1) := by decide +kernel
theorem dX10_next_228 : decode cX10_next 228 = .ok (.getfield 369, 3) := by decide +kernel
theorem dX10_next_231 : decode cX10_next 231 = .ok (.isub, 1) := by decide +kernel
theorem dX10_next_232 : decode cX10_next 232 = .ok (.iconst 3, 1) := by decide +kernel
theorem dX10_next_233 : decode cX10_next 233 = .ok (.if_icmp .le 7, 3) := by decide +kernel
theorem dX10_next_236 : decode cX10_next 236 = .ok (.iconst 4, 1) := by decide +kernel
theorem dX10_next_237 : decode cX10_next 237 = .ok (.goto 4, 3) := by decide +kernel
theorem dX10_next_240 : decode cX10_next 240 = .ok (.iconst 2, 1) := by decide +kernel
theorem dX10_next_241 : decode cX10_next 241 = .ok (.putfield 372, 3) := by decide +kernel
theorem dX10_next_244 : decode cX10_next 244 = .ok (.goto 28, 3) := by decide +kernel
theorem dX10_next_247 : decode cX10_next 247 = .ok (.aload_n 0, 1) := by decide +kernel
theorem dX10_next_248 : decode cX10_next 248 = .ok (.aload_n 0, 1) := by decide +kernel
theorem dX10_next_249 : decode cX10_next 249 = .ok (.getfield 363, 3) := by decide +kernel
theorem dX10_next_252 : decode cX10_next 252 = .ok (.iconst 1, 1) := by decide +kernel
theorem dX10_next_253 : decode cX10_next 253 = .ok (.iadd, 1) := by decide +kernel
theorem dX10_next_254 : decode cX10_next 254 = .ok (.putfield 363, 3) := by decide +kernel
theorem dX10_next_257 : decode cX10_next 257 = .ok (.aload_n 0, 1) := by decide +kernel
theorem dX10_next_258 : decode cX10_next 258 = .ok (.iload_n 1, 1) := by decide +kernel
theorem dX10_next_259 : decode cX10_next 259 = .ok (.bipush 59, 2) := by decide +kernel
theorem dX10_next_261 : decode cX10_next 261 = .ok (.if_icmp .ne 7, 3) := by decide +kernel
theorem dX10_next_264 : decode cX10_next 264 = .ok (.iconst 3, 1) := by decide +kernel
theorem dX10_next_265 : decode cX10_next 265 = .ok (.goto 4, 3) := by decide +kernel
theorem dX10_next_268 : decode cX10_next 268 = .ok (.iconst 4, 1) := by decide +kernel
theorem dX10_next_269 : decode cX10_next 269 = .ok (.putfield 372, 3) := by decide +kernel
theorem dX10_next_272 : decode cX10_next 272 = .ok (.return_, 1) := by decide +kernel
theorem hyX10_next : yX10_next.cls ≠ "java/lang/invoke/MethodHandle" ∧ yX10_next.cls ≠ "java/lang/invoke/VarHandle" ∧ (parseMethodDescriptor yX10_next.desc).map (fun d => d.parameters.length) = some 0 := ⟨by decide +kernel, by decide +kernel, by decide +kernel⟩
set_option maxRecDepth 100000 in
set_option maxHeartbeats 4000000 in
theorem wjX10_next_26_L0 (C : zC p s m args meth c cX10_next RX10 2 D Ca B En) (hRm : zRm R 5 108 cells slots) (ev : zEv) (hZ : ∀ U : State, En U → zEnv ev B U) (σ : zS) (x0 : Nat)  (y : zS ⊕ zS) (hf : jX10_next_26_L0 σ x0  = some y) (hk : (∀ z : zS, y = .inl z → zW p l e R s m args below meth c cells slots Q D Ca B 2 z N 0 [(0, .ref x0)] []) ∧ (∀ z : zS, y = .inr z → zW p l e R s m args below meth c cells slots Q D Ca B 2 z N 39 [(0, .ref x0)] [])) : zW p l e R s m args below meth c cells slots Q D Ca B 2 σ N 26 [(0, .ref x0)] [] := by
  unfold jX10_next_26_L0 at hf
  refine z_aload_n C dX10_next_26 rfl 0 rfl ?_
  refine z_aload_n C dX10_next_27 rfl 0 rfl ?_
  obtain ⟨v3, hv3, hf⟩ := zbind hf
  refine gf_RX10_363 C hv3 dX10_next_28 ?_
  refine z_iconst C (zi 1) dX10_next_31 (by decide) ?_
  refine z_iadd C dX10_next_32 ?_
  obtain ⟨σ4, hσ4, hf⟩ := zbind hf
  refine gp_RX10_363 C hσ4 dX10_next_33 ?_
  refine z_goto C 0 dX10_next_36 (by decide) ?_
  cases hf
  refine z_sub [0] rfl ?_
  exact hk.1 _ rfl

set_option maxRecDepth 100000 in
set_option maxHeartbeats 4000000 in
theorem wsX10_next_0b (C : zC p s m args meth c cX10_next RX10 2 D Ca B En) (hRm : zRm R 5 108 cells slots) (ev : zEv) (hZ : ∀ U : State, En U → zEnv ev B U) (x0 : Nat) (σ : zS)  (y : zS ⊕ zS) (hf : sX10_next_0b x0 σ  = some y) (hk : (∀ z : zS, y = .inl z → zW p l e R s m args below meth c cells slots Q D Ca B 2 z N 0 [(0, .ref x0)] []) ∧ (∀ z : zS, y = .inr z → zW p l e R s m args below meth c cells slots Q D Ca B 2 z N 39 [(0, .ref x0)] [])) : zW p l e R s m args below meth c cells slots Q D Ca B 2 σ N 0 [(0, .ref x0)] [] := by
  unfold sX10_next_0b at hf
  refine z_aload_n C dX10_next_0 rfl 0 rfl ?_
  refine z_aload_n C dX10_next_1 rfl 0 rfl ?_
  obtain ⟨v1, hv1, hf⟩ := zbind hf
  refine gf_RX10_363 C hv1 dX10_next_2 ?_
  obtain ⟨c2, hc2, hf⟩ := zbind hf
  obtain ⟨kc2, hc2⟩ := zck_ok hc2
  refine z_callVi (As := [.int v1]) (F0 := 5) (L0 := 108) C (mX10_here l D Ca B En C.2.2.2.2.2.2.2.1 σ N x0 v1 _ hc2) hRm kc2 rfl kw_1836 kw_14 kw_1833 kw_1835 kp_103 hyX10_here (Nat.le_of_ble_eq_true rfl) (Nat.le_of_ble_eq_true rfl) rfl rfl (Nat.le_of_ble_eq_true rfl) dX10_next_5 ?_
  refine z_bipush C (zi 32) dX10_next_8 (by decide) ?_
  refine z_icmp_eq C 26 dX10_next_10 (by decide) (fun q8 => ?_) (fun q8 => ?_)
  · rw [if_pos q8] at hf
    refine z_sub [0] rfl ?_
    exact wjX10_next_26_L0 C hRm ev hZ _ _  _ hf hk
  · rw [if_neg q8] at hf
    refine z_aload_n C dX10_next_13 rfl 0 rfl ?_
    refine z_aload_n C dX10_next_14 rfl 0 rfl ?_
    obtain ⟨v5, hv5, hf⟩ := zbind hf
    refine gf_RX10_363 C hv5 dX10_next_15 ?_
    obtain ⟨c6, hc6, hf⟩ := zbind hf
    obtain ⟨kc6, hc6⟩ := zck_ok hc6
    refine z_callVi (As := [.int v5]) (F0 := 5) (L0 := 108) C (mX10_here l D Ca B En C.2.2.2.2.2.2.2.1 c2.1 N x0 v5 _ hc6) hRm kc6 rfl kw_1836 kw_14 kw_1833 kw_1835 kp_103 hyX10_here (Nat.le_of_ble_eq_true rfl) (Nat.le_of_ble_eq_true rfl) rfl rfl (Nat.le_of_ble_eq_true rfl) dX10_next_18 ?_
    refine z_bipush C (zi 10) dX10_next_21 (by decide) ?_
    refine z_icmp_ne C 39 dX10_next_23 (by decide) (fun q7 => ?_) (fun q7 => ?_)
    · rw [if_neg q7] at hf
      cases hf
      refine z_sub [0] rfl ?_
      exact hk.2 _ rfl
    · rw [if_pos q7] at hf
      refine z_sub [0] rfl ?_
      exact wjX10_next_26_L0 C hRm ev hZ _ _  _ hf hk

theorem wsX10_next_0 (C : zC p s m args meth c cX10_next RX10 2 D Ca B En) (hRm : zRm R 5 108 cells slots) (ev : zEv) (hZ : ∀ U : State, En U → zEnv ev B U) (x0 : Nat) (n : Nat) (z : zS) (x : zS) (hf : zloop (sX10_next_0 x0) n z = some x) (hk : (∀ o : zS, x = o → zW p l e R s m args below meth c cells slots Q D Ca B 2 o N 39 [(0, .ref x0)] [])) : zW p l e R s m args below meth c cells slots Q D Ca B 2 z N 0 [(0, .ref x0)] [] := by
  refine zloop_W (P := fun z : zS => zW p l e R s m args below meth c cells slots Q D Ca B 2 z N 0 [(0, .ref x0)] []) (K := fun x : zS => (∀ o : zS, x = o → zW p l e R s m args below meth c cells slots Q D Ca B 2 o N 39 [(0, .ref x0)] [])) ?_ n z x hf hk
  intro z y hy h1 h2
  refine wsX10_next_0b C hRm ev hZ x0 z y hy ⟨fun z2 e => h1 z2 e, fun o e => (h2 _ e) o rfl⟩
set_option maxRecDepth 100000 in
set_option maxHeartbeats 4000000 in
theorem wjX10_next_209_L152 (C : zC p s m args meth c cX10_next RX10 2 D Ca B En) (hRm : zRm R 5 108 cells slots) (ev : zEv) (hZ : ∀ U : State, En U → zEnv ev B U) (σ : zS) (x0 : Nat)  (y : zS ⊕ zS) (hf : jX10_next_209_L152 σ x0  = some y) (hk : (∀ z : zS, y = .inl z → zW p l e R s m args below meth c cells slots Q D Ca B 2 z N 152 [(0, .ref x0)] []) ∧ (∀ z : zS, y = .inr z → zW p l e R s m args below meth c cells slots Q D Ca B 2 z N 222 [(0, .ref x0)] [])) : zW p l e R s m args below meth c cells slots Q D Ca B 2 σ N 209 [(0, .ref x0)] [] := by
  unfold jX10_next_209_L152 at hf
  refine z_aload_n C dX10_next_209 rfl 0 rfl ?_
  refine z_dup C dX10_next_210 rfl ?_
  obtain ⟨v27, hv27, hf⟩ := zbind hf
  refine gf_RX10_363 C hv27 dX10_next_211 ?_
  refine z_iconst C (zi 1) dX10_next_214 (by decide) ?_
  refine z_iadd C dX10_next_215 ?_
  obtain ⟨σ28, hσ28, hf⟩ := zbind hf
  refine gp_RX10_363 C hσ28 dX10_next_216 ?_
  refine z_goto C 152 dX10_next_219 (by decide) ?_
  cases hf
  refine z_sub [0] rfl ?_
  exact hk.1 _ rfl

set_option maxRecDepth 100000 in
set_option maxHeartbeats 4000000 in
theorem wsX10_next_152b (C : zC p s m args meth c cX10_next RX10 2 D Ca B En) (hRm : zRm R 5 108 cells slots) (ev : zEv) (hZ : ∀ U : State, En U → zEnv ev B U) (x0 : Nat) (σ : zS)  (y : zS ⊕ zS) (hf : sX10_next_152b x0 σ  = some y) (hk : (∀ z : zS, y = .inl z → zW p l e R s m args below meth c cells slots Q D Ca B 2 z N 152 [(0, .ref x0)] []) ∧ (∀ z : zS, y = .inr z → zW p l e R s m args below meth c cells slots Q D Ca B 2 z N 222 [(0, .ref x0)] [])) : zW p l e R s m args below meth c cells slots Q D Ca B 2 σ N 152 [(0, .ref x0)] [] := by
  unfold sX10_next_152b at hf
  refine z_aload_n C dX10_next_152 rfl 0 rfl ?_
  refine z_aload_n C dX10_next_153 rfl 0 rfl ?_
  obtain ⟨v22, hv22, hf⟩ := zbind hf
  refine gf_RX10_363 C hv22 dX10_next_154 ?_
  obtain ⟨c23, hc23, hf⟩ := zbind hf
  obtain ⟨kc23, hc23⟩ := zck_ok hc23
  refine z_callVi (As := [.int v22]) (F0 := 5) (L0 := 108) C (mX10_here l D Ca B En C.2.2.2.2.2.2.2.1 σ N x0 v22 _ hc23) hRm kc23 rfl kw_1836 kw_14 kw_1833 kw_1835 kp_103 hyX10_here (Nat.le_of_ble_eq_true rfl) (Nat.le_of_ble_eq_true rfl) rfl rfl (Nat.le_of_ble_eq_true rfl) dX10_next_157 ?_
  refine z_i2l C dX10_next_160 ?_
  refine z_ldc2 C kw_1846 dX10_next_161 ?_
  refine z_ldc2 C kw_1847 dX10_next_164 ?_
  obtain ⟨c24, hc24, hf⟩ := zbind hf
  refine z_callSi (As := [.long c23.2.toInt64, .long 48, .long 57]) (F0 := 5) (L0 := 108) C (mX10_isIn l D Ca B En C.2.2.2.2.2.2.2.1 c23.1 N c23.2.toInt64 48 57 _ hc24) hRm kw_1392 kw_14 kw_1390 kw_1391 hyX10_isIn (Nat.le_of_ble_eq_true rfl) (Nat.le_of_ble_eq_true rfl) rfl rfl (Nat.le_of_ble_eq_true rfl) dX10_next_167 ?_
  refine z_if_eq C 222 dX10_next_170 (by decide) (fun q34 => ?_) (fun q34 => ?_)
  · rw [if_pos q34] at hf
    cases hf
    refine z_sub [0] rfl ?_
    exact hk.2 _ rfl
  · rw [if_neg q34] at hf
    refine z_aload_n C dX10_next_173 rfl 0 rfl ?_
    obtain ⟨v25, hv25, hf⟩ := zbind hf
    refine gf_RX10_363 C hv25 dX10_next_174 ?_
    refine z_aload_n C dX10_next_177 rfl 0 rfl ?_
    obtain ⟨v26, hv26, hf⟩ := zbind hf
    refine gf_RX10_369 C hv26 dX10_next_178 ?_
    refine z_isub C dX10_next_181 ?_
    refine z_iconst C (zi 3) dX10_next_182 (by decide) ?_
    refine z_icmp_ge C 209 dX10_next_183 (by decide) (fun q33 => ?_) (fun q33 => ?_)
    · rw [if_pos q33] at hf
      refine z_sub [0] rfl ?_
      exact wjX10_next_209_L152 C hRm ev hZ _ _  _ hf hk
    · rw [if_neg q33] at hf
      refine z_aload_n C dX10_next_186 rfl 0 rfl ?_
      refine z_bipush C (zi 10) dX10_next_187 (by decide) ?_
      refine z_aload_n C dX10_next_189 rfl 0 rfl ?_
      obtain ⟨v29, hv29, hf⟩ := zbind hf
      refine gf_RX10_389 C hv29 dX10_next_190 ?_
      refine z_imul C dX10_next_193 ?_
      refine z_aload_n C dX10_next_194 rfl 0 rfl ?_
      refine z_aload_n C dX10_next_195 rfl 0 rfl ?_
      obtain ⟨v30, hv30, hf⟩ := zbind hf
      refine gf_RX10_363 C hv30 dX10_next_196 ?_
      obtain ⟨c31, hc31, hf⟩ := zbind hf
      obtain ⟨kc31, hc31⟩ := zck_ok hc31
      refine z_callVi (As := [.int v30]) (F0 := 5) (L0 := 108) C (mX10_here l D Ca B En C.2.2.2.2.2.2.2.1 c24.1 N x0 v30 _ hc31) hRm kc31 rfl kw_1836 kw_14 kw_1833 kw_1835 kp_103 hyX10_here (Nat.le_of_ble_eq_true rfl) (Nat.le_of_ble_eq_true rfl) rfl rfl (Nat.le_of_ble_eq_true rfl) dX10_next_199 ?_
      refine z_iadd C dX10_next_202 ?_
      refine z_bipush C (zi 48) dX10_next_203 (by decide) ?_
      refine z_isub C dX10_next_205 ?_
      obtain ⟨σ32, hσ32, hf⟩ := zbind hf
      refine gp_RX10_389 C hσ32 dX10_next_206 ?_
      refine z_sub [0] rfl ?_
      exact wjX10_next_209_L152 C hRm ev hZ _ _  _ hf hk

theorem wsX10_next_152 (C : zC p s m args meth c cX10_next RX10 2 D Ca B En) (hRm : zRm R 5 108 cells slots) (ev : zEv) (hZ : ∀ U : State, En U → zEnv ev B U) (x0 : Nat) (n : Nat) (z : zS) (x : zS) (hf : zloop (sX10_next_152 x0) n z = some x) (hk : (∀ o : zS, x = o → zW p l e R s m args below meth c cells slots Q D Ca B 2 o N 222 [(0, .ref x0)] [])) : zW p l e R s m args below meth c cells slots Q D Ca B 2 z N 152 [(0, .ref x0)] [] := by
  refine zloop_W (P := fun z : zS => zW p l e R s m args below meth c cells slots Q D Ca B 2 z N 152 [(0, .ref x0)] []) (K := fun x : zS => (∀ o : zS, x = o → zW p l e R s m args below meth c cells slots Q D Ca B 2 o N 222 [(0, .ref x0)] [])) ?_ n z x hf hk
  intro z y hy h1 h2
  refine wsX10_next_152b C hRm ev hZ x0 z y hy ⟨fun z2 e => h1 z2 e, fun o e => (h2 _ e) o rfl⟩
set_option maxRecDepth 100000 in
set_option maxHeartbeats 4000000 in
theorem wjX10_next_241 (C : zC p s m args meth c cX10_next RX10 2 D Ca B En) (hRm : zRm R 5 108 cells slots) (ev : zEv) (hZ : ∀ U : State, En U → zEnv ev B U) (σ : zS)  (y0 : Int32) (y1 : Nat) (τ : zS) (hf : jX10_next_241 σ  y0 y1 = some τ) (hq : ∀ (pc : Nat) (lv : List (Nat × Value)), decode cX10_next pc = .ok (.return_, 1) → zW p l e R s m args below meth c cells slots Q D Ca B 2 τ N pc lv []) : zW p l e R s m args below meth c cells slots Q D Ca B 2 σ N 241 [] [.int y0, .ref y1] := by
  unfold jX10_next_241 at hf
  obtain ⟨σ38, hσ38, hf⟩ := zbind hf
  refine gp_RX10_372 C hσ38 dX10_next_241 ?_
  refine z_goto C 272 dX10_next_244 (by decide) ?_
  cases hf
  exact hq _ _ dX10_next_272

set_option maxRecDepth 100000 in
set_option maxHeartbeats 4000000 in
theorem wsX10_next_83b (C : zC p s m args meth c cX10_next RX10 2 D Ca B En) (hRm : zRm R 5 108 cells slots) (ev : zEv) (hZ : ∀ U : State, En U → zEnv ev B U) (x0 : Nat) (σ : zS)  (y : zS ⊕ zS) (hf : sX10_next_83b x0 σ  = some y) (hk : (∀ z : zS, y = .inl z → zW p l e R s m args below meth c cells slots Q D Ca B 2 z N 83 [(0, .ref x0)] []) ∧ (∀ z : zS, y = .inr z → zW p l e R s m args below meth c cells slots Q D Ca B 2 z N 117 [(0, .ref x0)] [])) : zW p l e R s m args below meth c cells slots Q D Ca B 2 σ N 83 [(0, .ref x0)] [] := by
  unfold sX10_next_83b at hf
  refine z_aload_n C dX10_next_83 rfl 0 rfl ?_
  refine z_aload_n C dX10_next_84 rfl 0 rfl ?_
  obtain ⟨v41, hv41, hf⟩ := zbind hf
  refine gf_RX10_363 C hv41 dX10_next_85 ?_
  obtain ⟨c42, hc42, hf⟩ := zbind hf
  obtain ⟨kc42, hc42⟩ := zck_ok hc42
  refine z_callVi (As := [.int v41]) (F0 := 5) (L0 := 108) C (mX10_here l D Ca B En C.2.2.2.2.2.2.2.1 σ N x0 v41 _ hc42) hRm kc42 rfl kw_1836 kw_14 kw_1833 kw_1835 kp_103 hyX10_here (Nat.le_of_ble_eq_true rfl) (Nat.le_of_ble_eq_true rfl) rfl rfl (Nat.le_of_ble_eq_true rfl) dX10_next_88 ?_
  refine z_i2l C dX10_next_91 ?_
  refine z_ldc2 C kw_1837 dX10_next_92 ?_
  refine z_ldc2 C kw_1838 dX10_next_95 ?_
  obtain ⟨c43, hc43, hf⟩ := zbind hf
  refine z_callSi (As := [.long c42.2.toInt64, .long 97, .long 122]) (F0 := 5) (L0 := 108) C (mX10_isIn l D Ca B En C.2.2.2.2.2.2.2.1 c42.1 N c42.2.toInt64 97 122 _ hc43) hRm kw_1392 kw_14 kw_1390 kw_1391 hyX10_isIn (Nat.le_of_ble_eq_true rfl) (Nat.le_of_ble_eq_true rfl) rfl rfl (Nat.le_of_ble_eq_true rfl) dX10_next_98 ?_
  refine z_if_eq C 117 dX10_next_101 (by decide) (fun q46 => ?_) (fun q46 => ?_)
  · rw [if_pos q46] at hf
    cases hf
    refine z_sub [0] rfl ?_
    exact hk.2 _ rfl
  · rw [if_neg q46] at hf
    refine z_aload_n C dX10_next_104 rfl 0 rfl ?_
    refine z_aload_n C dX10_next_105 rfl 0 rfl ?_
    obtain ⟨v44, hv44, hf⟩ := zbind hf
    refine gf_RX10_363 C hv44 dX10_next_106 ?_
    refine z_iconst C (zi 1) dX10_next_109 (by decide) ?_
    refine z_iadd C dX10_next_110 ?_
    obtain ⟨σ45, hσ45, hf⟩ := zbind hf
    refine gp_RX10_363 C hσ45 dX10_next_111 ?_
    refine z_goto C 83 dX10_next_114 (by decide) ?_
    cases hf
    refine z_sub [0] rfl ?_
    exact hk.1 _ rfl

theorem wsX10_next_83 (C : zC p s m args meth c cX10_next RX10 2 D Ca B En) (hRm : zRm R 5 108 cells slots) (ev : zEv) (hZ : ∀ U : State, En U → zEnv ev B U) (x0 : Nat) (n : Nat) (z : zS) (x : zS) (hf : zloop (sX10_next_83 x0) n z = some x) (hk : (∀ o : zS, x = o → zW p l e R s m args below meth c cells slots Q D Ca B 2 o N 117 [(0, .ref x0)] [])) : zW p l e R s m args below meth c cells slots Q D Ca B 2 z N 83 [(0, .ref x0)] [] := by
  refine zloop_W (P := fun z : zS => zW p l e R s m args below meth c cells slots Q D Ca B 2 z N 83 [(0, .ref x0)] []) (K := fun x : zS => (∀ o : zS, x = o → zW p l e R s m args below meth c cells slots Q D Ca B 2 o N 117 [(0, .ref x0)] [])) ?_ n z x hf hk
  intro z y hy h1 h2
  refine wsX10_next_83b C hRm ev hZ x0 z y hy ⟨fun z2 e => h1 z2 e, fun o e => (h2 _ e) o rfl⟩
set_option maxRecDepth 100000 in
set_option maxHeartbeats 4000000 in
theorem wfX10_next (C : zC p s m args meth c cX10_next RX10 2 D Ca B En) (hRm : zRm R 5 108 cells slots) (ev : zEv) (hZ : ∀ U : State, En U → zEnv ev B U) (σ : zS) (x0 : Nat) (τ : zS) (hf : fX10_next σ x0 = some τ) (hq : ∀ (pc : Nat) (lv : List (Nat × Value)), decode cX10_next pc = .ok (.return_, 1) → zW p l e R s m args below meth c cells slots Q D Ca B 2 τ N pc lv []) : zW p l e R s m args below meth c cells slots Q D Ca B 2 σ N 0 [(0, .ref x0)] [] := by
  unfold fX10_next at hf
  obtain ⟨o9, ho9, hf⟩ := zbind hf
  refine z_sub [0] rfl ?_
  refine wsX10_next_0 C hRm ev hZ _ zfuel σ o9 ho9 ?_
  intro z9 e9
  subst e9
  refine z_aload_n C dX10_next_39 rfl 0 rfl ?_
  refine z_aload_n C dX10_next_40 rfl 0 rfl ?_
  obtain ⟨v10, hv10, hf⟩ := zbind hf
  refine gf_RX10_363 C hv10 dX10_next_41 ?_
  obtain ⟨σ11, hσ11, hf⟩ := zbind hf
  refine gp_RX10_369 C hσ11 dX10_next_44 ?_
  refine z_aload_n C dX10_next_47 rfl 0 rfl ?_
  refine z_aload_n C dX10_next_48 rfl 0 rfl ?_
  obtain ⟨v12, hv12, hf⟩ := zbind hf
  refine gf_RX10_363 C hv12 dX10_next_49 ?_
  obtain ⟨c13, hc13, hf⟩ := zbind hf
  obtain ⟨kc13, hc13⟩ := zck_ok hc13
  refine z_callVi (As := [.int v12]) (F0 := 5) (L0 := 108) C (mX10_here l D Ca B En C.2.2.2.2.2.2.2.1 σ11 N x0 v12 _ hc13) hRm kc13 rfl kw_1836 kw_14 kw_1833 kw_1835 kp_103 hyX10_here (Nat.le_of_ble_eq_true rfl) (Nat.le_of_ble_eq_true rfl) rfl rfl (Nat.le_of_ble_eq_true rfl) dX10_next_52 ?_
  refine z_istore_n (lv2 := [(1, .int c13.2), (0, .ref x0)]) C dX10_next_55 rfl (by decide) rfl ?_
  refine z_iload_n C dX10_next_56 rfl 0 rfl ?_
  refine z_iconst C (zi (-1)) dX10_next_57 (by decide) ?_
  refine z_icmp_ne C 69 dX10_next_58 (by decide) (fun q53 => ?_) (fun q53 => ?_)
  · rw [if_neg q53] at hf
    refine z_iload_n C dX10_next_69 rfl 0 rfl ?_
    refine z_i2l C dX10_next_70 ?_
    refine z_ldc2 C kw_1837 dX10_next_71 ?_
    refine z_ldc2 C kw_1838 dX10_next_74 ?_
    obtain ⟨c14, hc14, hf⟩ := zbind hf
    refine z_callSi (As := [.long c13.2.toInt64, .long 97, .long 122]) (F0 := 5) (L0 := 108) C (mX10_isIn l D Ca B En C.2.2.2.2.2.2.2.1 c13.1 N c13.2.toInt64 97 122 _ hc14) hRm kw_1392 kw_14 kw_1390 kw_1391 hyX10_isIn (Nat.le_of_ble_eq_true rfl) (Nat.le_of_ble_eq_true rfl) rfl rfl (Nat.le_of_ble_eq_true rfl) dX10_next_77 ?_
    refine z_if_eq C 133 dX10_next_80 (by decide) (fun q51 => ?_) (fun q51 => ?_)
    · rw [if_pos q51] at hf
      refine z_iload_n C dX10_next_133 rfl 0 rfl ?_
      refine z_i2l C dX10_next_134 ?_
      refine z_ldc2 C kw_1846 dX10_next_135 ?_
      refine z_ldc2 C kw_1847 dX10_next_138 ?_
      obtain ⟨c15, hc15, hf⟩ := zbind hf
      refine z_callSi (As := [.long c13.2.toInt64, .long 48, .long 57]) (F0 := 5) (L0 := 108) C (mX10_isIn l D Ca B En C.2.2.2.2.2.2.2.1 c14.1 N c13.2.toInt64 48 57 _ hc15) hRm kw_1392 kw_14 kw_1390 kw_1391 hyX10_isIn (Nat.le_of_ble_eq_true rfl) (Nat.le_of_ble_eq_true rfl) rfl rfl (Nat.le_of_ble_eq_true rfl) dX10_next_141 ?_
      refine z_if_eq C 247 dX10_next_144 (by decide) (fun q40 => ?_) (fun q40 => ?_)
      · rw [if_pos q40] at hf
        refine z_aload_n C dX10_next_247 rfl 1 rfl ?_
        refine z_aload_n C dX10_next_248 rfl 1 rfl ?_
        obtain ⟨v16, hv16, hf⟩ := zbind hf
        refine gf_RX10_363 C hv16 dX10_next_249 ?_
        refine z_iconst C (zi 1) dX10_next_252 (by decide) ?_
        refine z_iadd C dX10_next_253 ?_
        obtain ⟨σ17, hσ17, hf⟩ := zbind hf
        refine gp_RX10_363 C hσ17 dX10_next_254 ?_
        refine z_aload_n C dX10_next_257 rfl 1 rfl ?_
        refine z_iload_n C dX10_next_258 rfl 0 rfl ?_
        refine z_bipush C (zi 59) dX10_next_259 (by decide) ?_
        refine z_icmp_ne C 268 dX10_next_261 (by decide) (fun q20 => ?_) (fun q20 => ?_)
        · rw [if_neg q20] at hf
          refine z_iconst C (zi 4) dX10_next_268 (by decide) ?_
          obtain ⟨σ18, hσ18, hf⟩ := zbind hf
          refine gp_RX10_372 C hσ18 dX10_next_269 ?_
          cases hf
          exact hq _ _ dX10_next_272
        · rw [if_pos q20] at hf
          refine z_iconst C (zi 3) dX10_next_264 (by decide) ?_
          refine z_goto C 269 dX10_next_265 (by decide) ?_
          obtain ⟨σ19, hσ19, hf⟩ := zbind hf
          refine gp_RX10_372 C hσ19 dX10_next_269 ?_
          cases hf
          exact hq _ _ dX10_next_272
      · rw [if_neg q40] at hf
        refine z_aload_n C dX10_next_147 rfl 1 rfl ?_
        refine z_iconst C (zi 0) dX10_next_148 (by decide) ?_
        obtain ⟨σ21, hσ21, hf⟩ := zbind hf
        refine gp_RX10_389 C hσ21 dX10_next_149 ?_
        obtain ⟨o35, ho35, hf⟩ := zbind hf
        refine z_sub [1] rfl ?_
        refine wsX10_next_152 C hRm ev hZ _ zfuel σ21 o35 ho35 ?_
        intro z9 e9
        subst e9
        refine z_aload_n C dX10_next_222 rfl 0 rfl ?_
        refine z_aload_n C dX10_next_223 rfl 0 rfl ?_
        obtain ⟨v36, hv36, hf⟩ := zbind hf
        refine gf_RX10_363 C hv36 dX10_next_224 ?_
        refine z_aload_n C dX10_next_227 rfl 0 rfl ?_
        obtain ⟨v37, hv37, hf⟩ := zbind hf
        refine gf_RX10_369 C hv37 dX10_next_228 ?_
        refine z_isub C dX10_next_231 ?_
        refine z_iconst C (zi 3) dX10_next_232 (by decide) ?_
        refine z_icmp_le C 240 dX10_next_233 (by decide) (fun q39 => ?_) (fun q39 => ?_)
        · rw [if_pos q39] at hf
          refine z_iconst C (zi 2) dX10_next_240 (by decide) ?_
          refine z_sub [] rfl ?_
          exact wjX10_next_241 C hRm ev hZ _  _ _ _ hf hq
        · rw [if_neg q39] at hf
          refine z_iconst C (zi 4) dX10_next_236 (by decide) ?_
          refine z_goto C 241 dX10_next_237 (by decide) ?_
          refine z_sub [] rfl ?_
          exact wjX10_next_241 C hRm ev hZ _  _ _ _ hf hq
    · rw [if_neg q51] at hf
      obtain ⟨o47, ho47, hf⟩ := zbind hf
      refine z_sub [1] rfl ?_
      refine wsX10_next_83 C hRm ev hZ _ zfuel c14.1 o47 ho47 ?_
      intro z9 e9
      subst e9
      refine z_aload_n C dX10_next_117 rfl 0 rfl ?_
      refine z_iconst C (zi 1) dX10_next_118 (by decide) ?_
      obtain ⟨σ48, hσ48, hf⟩ := zbind hf
      refine gp_RX10_372 C hσ48 dX10_next_119 ?_
      refine z_aload_n C dX10_next_122 rfl 0 rfl ?_
      refine z_aload_n C dX10_next_123 rfl 0 rfl ?_
      obtain ⟨c49, hc49, hf⟩ := zbind hf
      obtain ⟨kc49, hc49⟩ := zck_ok hc49
      refine z_callVi (As := []) (F0 := 5) (L0 := 108) C (mX10_wordHere l D Ca B En C.2.2.2.2.2.2.2.1 ev hZ σ48 N x0  _ hc49) hRm kc49 rfl kw_1842 kw_14 kw_1839 kw_1841 kp_104 hyX10_wordHere (Nat.le_of_ble_eq_true rfl) (Nat.le_of_ble_eq_true rfl) rfl rfl (Nat.le_of_ble_eq_true rfl) dX10_next_124 ?_
      obtain ⟨σ50, hσ50, hf⟩ := zbind hf
      refine gp_RX10_382 C hσ50 dX10_next_127 ?_
      refine z_goto C 272 dX10_next_130 (by decide) ?_
      cases hf
      exact hq _ _ dX10_next_272
  · rw [if_pos q53] at hf
    refine z_aload_n C dX10_next_61 rfl 1 rfl ?_
    refine z_iconst C (zi 0) dX10_next_62 (by decide) ?_
    obtain ⟨σ52, hσ52, hf⟩ := zbind hf
    refine gp_RX10_372 C hσ52 dX10_next_63 ?_
    refine z_goto C 272 dX10_next_66 (by decide) ?_
    cases hf
    exact hq _ _ dX10_next_272

theorem mX10_next (l : Launch) (D : va_G) (Ca : Nat → ClassId) (B : Nat) (En : State → Prop) (hE : zEk B En) (ev : zEv) (hZ : ∀ U : State, En U → zEnv ev B U) (σ : zS) (N : Nat) (x0 : Nat) (X : zS) (hf : fX10_next σ x0 = some X) : zMv l D Ca B En yX10_next cX10_next 2 (Option.none : Option Jvm.ClassFile.FieldType) 5 108 [.ref x0] σ N X () :=
  zMet_v (own := RX10) hE (by decide +kernel) rfl (Nat.le_of_ble_eq_true rfl) (fun p e s m args below meth c C hr hRm => wfX10_next C hRm ev hZ σ x0 X hf (fun pc lv hd => zfin_v (r := ()) C hr hd))
theorem dX10_fine_0 : decode cX10_fine 0 = .ok (.aload_n 0, 1) := by decide +kernel
theorem dX10_fine_1 : decode cX10_fine 1 = .ok (.getfield 402, 3) := by decide +kernel
theorem dX10_fine_4 : decode cX10_fine 4 = .ok (.ifCond .ne 7, 3) := by decide +kernel
theorem dX10_fine_7 : decode cX10_fine 7 = .ok (.iconst 1, 1) := by decide +kernel
theorem dX10_fine_8 : decode cX10_fine 8 = .ok (.goto 4, 3) := by decide +kernel
theorem dX10_fine_11 : decode cX10_fine 11 = .ok (.iconst 0, 1) := by decide +kernel
theorem dX10_fine_12 : decode cX10_fine 12 = .ok (.ireturn, 1) := by decide +kernel
theorem hyX10_fine : yX10_fine.cls ≠ "java/lang/invoke/MethodHandle" ∧ yX10_fine.cls ≠ "java/lang/invoke/VarHandle" ∧ (parseMethodDescriptor yX10_fine.desc).map (fun d => d.parameters.length) = some 0 := ⟨by decide +kernel, by decide +kernel, by decide +kernel⟩
set_option maxRecDepth 100000 in
set_option maxHeartbeats 4000000 in
theorem wfX10_fine (C : zC p s m args meth c cX10_fine RX10 1 D Ca B En) (hRm : zRm R 0 0 cells slots) (σ : zS) (x0 : Nat) (τ : zS) (r : Int32) (hf : fX10_fine σ x0 = some (τ, r)) (hq : ∀ (pc : Nat) (lv : List (Nat × Value)), (r = 0 ∨ r = 1) → decode cX10_fine pc = .ok (.ireturn, 1) → zW p l e R s m args below meth c cells slots Q D Ca B 1 τ N pc lv [.int r]) : zW p l e R s m args below meth c cells slots Q D Ca B 1 σ N 0 [(0, .ref x0)] [] := by
  unfold fX10_fine at hf
  refine z_aload_n C dX10_fine_0 rfl 0 rfl ?_
  obtain ⟨v1, hv1, hf⟩ := zbind hf
  refine gf_RX10_402 C hv1 dX10_fine_1 ?_
  refine z_if_ne C 11 dX10_fine_4 (by decide) (fun q2 => ?_) (fun q2 => ?_)
  · rw [if_neg q2] at hf
    refine z_iconst C (zi 0) dX10_fine_11 (by decide) ?_
    obtain ⟨e9, b9⟩ := zrZ_ok hf
    cases e9
    exact hq _ _ b9 dX10_fine_12
  · rw [if_pos q2] at hf
    refine z_iconst C (zi 1) dX10_fine_7 (by decide) ?_
    refine z_goto C 12 dX10_fine_8 (by decide) ?_
    obtain ⟨e9, b9⟩ := zrZ_ok hf
    cases e9
    exact hq _ _ b9 dX10_fine_12

theorem mX10_fine (l : Launch) (D : va_G) (Ca : Nat → ClassId) (B : Nat) (En : State → Prop) (hE : zEk B En) (σ : zS) (N : Nat) (x0 : Nat) (X : zS × Int32) (hf : fX10_fine σ x0 = some X) : zMi l D Ca B En yX10_fine cX10_fine 1 (Option.some Jvm.ClassFile.FieldType.boolean) 0 0 [.ref x0] σ N X.1 X.2 :=
  zMet_i (own := RX10) hE (by decide +kernel) rfl (Nat.le_of_ble_eq_true rfl) (fun p e s m args below meth c C hr hRm => wfX10_fine C hRm σ x0 X.1 X.2 hf (fun pc lv hb hd => zfin_z C hb hr hd))
theorem dX10_needs_0 : decode cX10_needs 0 = .ok (.aload_n 0, 1) := by decide +kernel
theorem dX10_needs_1 : decode cX10_needs 1 = .ok (.getfield 402, 3) := by decide +kernel
theorem dX10_needs_4 : decode cX10_needs 4 = .ok (.ifCond .ne 7, 3) := by decide +kernel
theorem dX10_needs_7 : decode cX10_needs 7 = .ok (.iload_n 1, 1) := by decide +kernel
theorem dX10_needs_8 : decode cX10_needs 8 = .ok (.ifCond .eq 4, 3) := by decide +kernel
theorem dX10_needs_11 : decode cX10_needs 11 = .ok (.return_, 1) := by decide +kernel
theorem dX10_needs_12 : decode cX10_needs 12 = .ok (.aload_n 0, 1) := by decide +kernel
theorem dX10_needs_13 : decode cX10_needs 13 = .ok (.iload_n 2, 1) := by decide +kernel
theorem dX10_needs_14 : decode cX10_needs 14 = .ok (.putfield 402, 3) := by decide +kernel
theorem dX10_needs_17 : decode cX10_needs 17 = .ok (.aload_n 0, 1) := by decide +kernel
theorem dX10_needs_18 : decode cX10_needs 18 = .ok (.aload_n 0, 1) := by decide +kernel
theorem dX10_needs_19 : decode cX10_needs 19 = .ok (.getfield 369, 3) := by decide +kernel
theorem dX10_needs_22 : decode cX10_needs 22 = .ok (.putfield 44, 3) := by decide +kernel
theorem dX10_needs_25 : decode cX10_needs 25 = .ok (.return_, 1) := by decide +kernel
theorem hyX10_needs : yX10_needs.cls ≠ "java/lang/invoke/MethodHandle" ∧ yX10_needs.cls ≠ "java/lang/invoke/VarHandle" ∧ (parseMethodDescriptor yX10_needs.desc).map (fun d => d.parameters.length) = some 2 := ⟨by decide +kernel, by decide +kernel, by decide +kernel⟩
set_option maxRecDepth 100000 in
set_option maxHeartbeats 4000000 in
theorem wfX10_needs (C : zC p s m args meth c cX10_needs RX10 3 D Ca B En) (hRm : zRm R 0 0 cells slots) (σ : zS) (x0 : Nat) (x1 : Int32) (x2 : Int32) (τ : zS) (hf : fX10_needs σ x0 x1 x2 = some τ) (hq : ∀ (pc : Nat) (lv : List (Nat × Value)), decode cX10_needs pc = .ok (.return_, 1) → zW p l e R s m args below meth c cells slots Q D Ca B 3 τ N pc lv []) : zW p l e R s m args below meth c cells slots Q D Ca B 3 σ N 0 [(0, .ref x0), (1, .int x1), (2, .int x2)] [] := by
  unfold fX10_needs at hf
  refine z_aload_n C dX10_needs_0 rfl 0 rfl ?_
  obtain ⟨v1, hv1, hf⟩ := zbind hf
  refine gf_RX10_402 C hv1 dX10_needs_1 ?_
  refine z_if_ne C 11 dX10_needs_4 (by decide) (fun q6 => ?_) (fun q6 => ?_)
  · rw [if_neg q6] at hf
    cases hf
    exact hq _ _ dX10_needs_11
  · rw [if_pos q6] at hf
    refine z_iload_n C dX10_needs_7 rfl 1 rfl ?_
    refine z_if_eq C 12 dX10_needs_8 (by decide) (fun q5 => ?_) (fun q5 => ?_)
    · rw [if_pos q5] at hf
      refine z_aload_n C dX10_needs_12 rfl 0 rfl ?_
      refine z_iload_n C dX10_needs_13 rfl 2 rfl ?_
      obtain ⟨σ2, hσ2, hf⟩ := zbind hf
      refine gp_RX10_402 C hσ2 dX10_needs_14 ?_
      refine z_aload_n C dX10_needs_17 rfl 0 rfl ?_
      refine z_aload_n C dX10_needs_18 rfl 0 rfl ?_
      obtain ⟨v3, hv3, hf⟩ := zbind hf
      refine gf_RX10_369 C hv3 dX10_needs_19 ?_
      obtain ⟨σ4, hσ4, hf⟩ := zbind hf
      refine gp_RX10_44 C hσ4 dX10_needs_22 ?_
      cases hf
      exact hq _ _ dX10_needs_25
    · rw [if_neg q5] at hf
      cases hf
      exact hq _ _ dX10_needs_11

theorem mX10_needs (l : Launch) (D : va_G) (Ca : Nat → ClassId) (B : Nat) (En : State → Prop) (hE : zEk B En) (σ : zS) (N : Nat) (x0 : Nat) (x1 : Int32) (x2 : Int32) (X : zS) (hf : fX10_needs σ x0 x1 x2 = some X) : zMv l D Ca B En yX10_needs cX10_needs 3 (Option.none : Option Jvm.ClassFile.FieldType) 0 0 [.ref x0, .int x1, .int x2] σ N X () :=
  zMet_v (own := RX10) hE (by decide +kernel) rfl (Nat.le_of_ble_eq_true rfl) (fun p e s m args below meth c C hr hRm => wfX10_needs C hRm σ x0 x1 x2 X hf (fun pc lv hd => zfin_v (r := ()) C hr hd))
theorem dX10_goOn_0 : decode cX10_goOn 0 = .ok (.aload_n 0, 1) := by decide +kernel
theorem dX10_goOn_1 : decode cX10_goOn 1 = .ok (.invokevirtual 405, 3) := by decide +kernel
theorem dX10_goOn_4 : decode cX10_goOn 4 = .ok (.ifCond .eq 7, 3) := by decide +kernel
theorem dX10_goOn_7 : decode cX10_goOn 7 = .ok (.aload_n 0, 1) := by decide +kernel
theorem dX10_goOn_8 : decode cX10_goOn 8 = .ok (.invokevirtual 408, 3) := by decide +kernel
theorem dX10_goOn_11 : decode cX10_goOn 11 = .ok (.return_, 1) := by decide +kernel
theorem hyX10_goOn : yX10_goOn.cls ≠ "java/lang/invoke/MethodHandle" ∧ yX10_goOn.cls ≠ "java/lang/invoke/VarHandle" ∧ (parseMethodDescriptor yX10_goOn.desc).map (fun d => d.parameters.length) = some 0 := ⟨by decide +kernel, by decide +kernel, by decide +kernel⟩
set_option maxRecDepth 100000 in
set_option maxHeartbeats 4000000 in
theorem wfX10_goOn (C : zC p s m args meth c cX10_goOn RX10 1 D Ca B En) (hRm : zRm R 6 129 cells slots) (ev : zEv) (hZ : ∀ U : State, En U → zEnv ev B U) (σ : zS) (x0 : Nat) (τ : zS) (hf : fX10_goOn σ x0 = some τ) (hq : ∀ (pc : Nat) (lv : List (Nat × Value)), decode cX10_goOn pc = .ok (.return_, 1) → zW p l e R s m args below meth c cells slots Q D Ca B 1 τ N pc lv []) : zW p l e R s m args below meth c cells slots Q D Ca B 1 σ N 0 [(0, .ref x0)] [] := by
  unfold fX10_goOn at hf
  refine z_aload_n C dX10_goOn_0 rfl 0 rfl ?_
  obtain ⟨c1, hc1, hf⟩ := zbind hf
  obtain ⟨kc1, hc1⟩ := zck_ok hc1
  refine z_callVi (As := []) (F0 := 6) (L0 := 129) C (mX10_fine l D Ca B En C.2.2.2.2.2.2.2.1 σ N x0  _ hc1) hRm kc1 rfl kw_1851 kw_14 kw_1848 kw_1850 kp_105 hyX10_fine (Nat.le_of_ble_eq_true rfl) (Nat.le_of_ble_eq_true rfl) rfl rfl (Nat.le_of_ble_eq_true rfl) dX10_goOn_1 ?_
  refine z_if_eq C 11 dX10_goOn_4 (by decide) (fun q3 => ?_) (fun q3 => ?_)
  · rw [if_pos q3] at hf
    cases hf
    exact hq _ _ dX10_goOn_11
  · rw [if_neg q3] at hf
    refine z_aload_n C dX10_goOn_7 rfl 0 rfl ?_
    obtain ⟨c2, hc2, hf⟩ := zbind hf
    obtain ⟨kc2, hc2⟩ := zck_ok hc2
    refine z_callVv (As := []) (F0 := 6) (L0 := 129) C (mX10_next l D Ca B En C.2.2.2.2.2.2.2.1 ev hZ c1.1 N x0  _ hc2) hRm kc2 rfl kw_1832 kw_14 kw_1829 kw_1831 kp_102 hyX10_next (Nat.le_of_ble_eq_true rfl) (Nat.le_of_ble_eq_true rfl) rfl rfl (Nat.le_of_ble_eq_true rfl) dX10_goOn_8 ?_
    cases hf
    exact hq _ _ dX10_goOn_11

theorem mX10_goOn (l : Launch) (D : va_G) (Ca : Nat → ClassId) (B : Nat) (En : State → Prop) (hE : zEk B En) (ev : zEv) (hZ : ∀ U : State, En U → zEnv ev B U) (σ : zS) (N : Nat) (x0 : Nat) (X : zS) (hf : fX10_goOn σ x0 = some X) : zMv l D Ca B En yX10_goOn cX10_goOn 1 (Option.none : Option Jvm.ClassFile.FieldType) 6 129 [.ref x0] σ N X () :=
  zMet_v (own := RX10) hE (by decide +kernel) rfl (Nat.le_of_ble_eq_true rfl) (fun p e s m args below meth c C hr hRm => wfX10_goOn C hRm ev hZ σ x0 X hf (fun pc lv hd => zfin_v (r := ()) C hr hd))
theorem dX10_isWord_0 : decode cX10_isWord 0 = .ok (.aload_n 0, 1) := by decide +kernel
theorem dX10_isWord_1 : decode cX10_isWord 1 = .ok (.invokevirtual 405, 3) := by decide +kernel
theorem dX10_isWord_4 : decode cX10_isWord 4 = .ok (.ifCond .eq 23, 3) := by decide +kernel
theorem dX10_isWord_7 : decode cX10_isWord 7 = .ok (.aload_n 0, 1) := by decide +kernel
theorem dX10_isWord_8 : decode cX10_isWord 8 = .ok (.getfield 372, 3) := by decide +kernel
theorem dX10_isWord_11 : decode cX10_isWord 11 = .ok (.iconst 1, 1) := by decide +kernel
theorem dX10_isWord_12 : decode cX10_isWord 12 = .ok (.if_icmp .ne 15, 3) := by decide +kernel
theorem dX10_isWord_15 : decode cX10_isWord 15 = .ok (.aload_n 0, 1) := by decide +kernel
theorem dX10_isWord_16 : decode cX10_isWord 16 = .ok (.getfield 382, 3) := by decide +kernel
theorem dX10_isWord_19 : decode cX10_isWord 19 = .ok (.iload_n 1, 1) := by decide +kernel
theorem dX10_isWord_20 : decode cX10_isWord 20 = .ok (.if_icmp .ne 7, 3) := by decide +kernel
theorem dX10_isWord_23 : decode cX10_isWord 23 = .ok (.iconst 1, 1) := by decide +kernel
theorem dX10_isWord_24 : decode cX10_isWord 24 = .ok (.goto 4, 3) := by decide +kernel
theorem dX10_isWord_27 : decode cX10_isWord 27 = .ok (.iconst 0, 1) := by decide +kernel
theorem dX10_isWord_28 : decode cX10_isWord 28 = .ok (.ireturn, 1) := by decide +kernel
theorem hyX10_isWord : yX10_isWord.cls ≠ "java/lang/invoke/MethodHandle" ∧ yX10_isWord.cls ≠ "java/lang/invoke/VarHandle" ∧ (parseMethodDescriptor yX10_isWord.desc).map (fun d => d.parameters.length) = some 1 := ⟨by decide +kernel, by decide +kernel, by decide +kernel⟩
set_option maxRecDepth 100000 in
set_option maxHeartbeats 4000000 in
theorem wfX10_isWord (C : zC p s m args meth c cX10_isWord RX10 2 D Ca B En) (hRm : zRm R 1 20 cells slots) (σ : zS) (x0 : Nat) (x1 : Int32) (τ : zS) (r : Int32) (hf : fX10_isWord σ x0 x1 = some (τ, r)) (hq : ∀ (pc : Nat) (lv : List (Nat × Value)), (r = 0 ∨ r = 1) → decode cX10_isWord pc = .ok (.ireturn, 1) → zW p l e R s m args below meth c cells slots Q D Ca B 2 τ N pc lv [.int r]) : zW p l e R s m args below meth c cells slots Q D Ca B 2 σ N 0 [(0, .ref x0), (1, .int x1)] [] := by
  unfold fX10_isWord at hf
  refine z_aload_n C dX10_isWord_0 rfl 0 rfl ?_
  obtain ⟨c1, hc1, hf⟩ := zbind hf
  obtain ⟨kc1, hc1⟩ := zck_ok hc1
  refine z_callVi (As := []) (F0 := 1) (L0 := 20) C (mX10_fine l D Ca B En C.2.2.2.2.2.2.2.1 σ N x0  _ hc1) hRm kc1 rfl kw_1851 kw_14 kw_1848 kw_1850 kp_105 hyX10_fine (Nat.le_of_ble_eq_true rfl) (Nat.le_of_ble_eq_true rfl) rfl rfl (Nat.le_of_ble_eq_true rfl) dX10_isWord_1 ?_
  refine z_if_eq C 27 dX10_isWord_4 (by decide) (fun q6 => ?_) (fun q6 => ?_)
  · rw [if_pos q6] at hf
    refine z_iconst C (zi 0) dX10_isWord_27 (by decide) ?_
    obtain ⟨e9, b9⟩ := zrZ_ok hf
    cases e9
    exact hq _ _ b9 dX10_isWord_28
  · rw [if_neg q6] at hf
    refine z_aload_n C dX10_isWord_7 rfl 0 rfl ?_
    obtain ⟨v2, hv2, hf⟩ := zbind hf
    refine gf_RX10_372 C hv2 dX10_isWord_8 ?_
    refine z_iconst C (zi 1) dX10_isWord_11 (by decide) ?_
    refine z_icmp_ne C 27 dX10_isWord_12 (by decide) (fun q5 => ?_) (fun q5 => ?_)
    · rw [if_neg q5] at hf
      refine z_iconst C (zi 0) dX10_isWord_27 (by decide) ?_
      obtain ⟨e9, b9⟩ := zrZ_ok hf
      cases e9
      exact hq _ _ b9 dX10_isWord_28
    · rw [if_pos q5] at hf
      refine z_aload_n C dX10_isWord_15 rfl 0 rfl ?_
      obtain ⟨v3, hv3, hf⟩ := zbind hf
      refine gf_RX10_382 C hv3 dX10_isWord_16 ?_
      refine z_iload_n C dX10_isWord_19 rfl 1 rfl ?_
      refine z_icmp_ne C 27 dX10_isWord_20 (by decide) (fun q4 => ?_) (fun q4 => ?_)
      · rw [if_neg q4] at hf
        refine z_iconst C (zi 0) dX10_isWord_27 (by decide) ?_
        obtain ⟨e9, b9⟩ := zrZ_ok hf
        cases e9
        exact hq _ _ b9 dX10_isWord_28
      · rw [if_pos q4] at hf
        refine z_iconst C (zi 1) dX10_isWord_23 (by decide) ?_
        refine z_goto C 28 dX10_isWord_24 (by decide) ?_
        obtain ⟨e9, b9⟩ := zrZ_ok hf
        cases e9
        exact hq _ _ b9 dX10_isWord_28

theorem mX10_isWord (l : Launch) (D : va_G) (Ca : Nat → ClassId) (B : Nat) (En : State → Prop) (hE : zEk B En) (σ : zS) (N : Nat) (x0 : Nat) (x1 : Int32) (X : zS × Int32) (hf : fX10_isWord σ x0 x1 = some X) : zMi l D Ca B En yX10_isWord cX10_isWord 2 (Option.some Jvm.ClassFile.FieldType.boolean) 1 20 [.ref x0, .int x1] σ N X.1 X.2 :=
  zMet_i (own := RX10) hE (by decide +kernel) rfl (Nat.le_of_ble_eq_true rfl) (fun p e s m args below meth c C hr hRm => wfX10_isWord C hRm σ x0 x1 X.1 X.2 hf (fun pc lv hb hd => zfin_z C hb hr hd))
theorem dX10_number_0 : decode cX10_number 0 = .ok (.aload_n 0, 1) := by decide +kernel
theorem dX10_number_1 : decode cX10_number 1 = .ok (.aload_n 0, 1) := by decide +kernel
theorem dX10_number_2 : decode cX10_number 2 = .ok (.getfield 372, 3) := by decide +kernel
theorem dX10_number_5 : decode cX10_number 5 = .ok (.iconst 2, 1) := by decide +kernel
theorem dX10_number_6 : decode cX10_number 6 = .ok (.if_icmp .ne 7, 3) := by decide +kernel
theorem dX10_number_9 : decode cX10_number 9 = .ok (.iconst 1, 1) := by decide +kernel
theorem dX10_number_10 : decode cX10_number 10 = .ok (.goto 4, 3) := by decide +kernel
theorem dX10_number_13 : decode cX10_number 13 = .ok (.iconst 0, 1) := by decide +kernel
theorem dX10_number_14 : decode cX10_number 14 = .ok (.iconst 1, 1) := by decide +kernel
theorem dX10_number_15 : decode cX10_number 15 = .ok (.invokevirtual 411, 3) := by decide +kernel
theorem dX10_number_18 : decode cX10_number 18 = .ok (.aload_n 0, 1) := by decide +kernel
theorem dX10_number_19 : decode cX10_number 19 = .ok (.invokevirtual 405, 3) := by decide +kernel
theorem dX10_number_22 : decode cX10_number 22 = .ok (.ifCond .eq 20, 3) := by decide +kernel
theorem dX10_number_25 : decode cX10_number 25 = .ok (.aload_n 0, 1) := by decide +kernel
theorem dX10_number_26 : decode cX10_number 26 = .ok (.aload_n 0, 1) := by decide +kernel
theorem dX10_number_27 : decode cX10_number 27 = .ok (.getfield 389, 3) := by decide +kernel
theorem dX10_number_30 : decode cX10_number 30 = .ok (.i2l, 1) := by decide +kernel
theorem dX10_number_31 : decode cX10_number 31 = .ok (.iload_n 1, 1) := by decide +kernel
theorem dX10_number_32 : decode cX10_number 32 = .ok (.i2l, 1) := by decide +kernel
theorem dX10_number_33 : decode cX10_number 33 = .ok (.iload_n 2, 1) := by decide +kernel
theorem dX10_number_34 : decode cX10_number 34 = .ok (.i2l, 1) := by decide +kernel
theorem dX10_number_35 : decode cX10_number 35 = .ok (.invokestatic 247, 3) := by decide +kernel
theorem dX10_number_38 : decode cX10_number 38 = .ok (.iconst 2, 1) := by decide +kernel
theorem dX10_number_39 : decode cX10_number 39 = .ok (.invokevirtual 411, 3) := by decide +kernel
theorem dX10_number_42 : decode cX10_number 42 = .ok (.aload_n 0, 1) := by decide +kernel
theorem dX10_number_43 : decode cX10_number 43 = .ok (.getfield 389, 3) := by decide +kernel
theorem dX10_number_46 : decode cX10_number 46 = .ok (.istore_n 3, 1) := by decide +kernel
theorem dX10_number_47 : decode cX10_number 47 = .ok (.aload_n 0, 1) := by decide +kernel
theorem dX10_number_48 : decode cX10_number 48 = .ok (.invokevirtual 415, 3) := by decide +kernel
theorem dX10_number_51 : decode cX10_number 51 = .ok (.iload_n 3, 1) := by decide +kernel
theorem dX10_number_52 : decode cX10_number 52 = .ok (.ireturn, 1) := by decide +kernel
theorem hyX10_number : yX10_number.cls ≠ "java/lang/invoke/MethodHandle" ∧ yX10_number.cls ≠ "java/lang/invoke/VarHandle" ∧ (parseMethodDescriptor yX10_number.desc).map (fun d => d.parameters.length) = some 2 := ⟨by decide +kernel, by decide +kernel, by decide +kernel⟩
set_option maxRecDepth 100000 in
set_option maxHeartbeats 4000000 in
theorem wjX10_number_42 (C : zC p s m args meth c cX10_number RX10 4 D Ca B En) (hRm : zRm R 7 149 cells slots) (ev : zEv) (hZ : ∀ U : State, En U → zEnv ev B U) (σ : zS) (x0 : Nat)  (τ : zS) (r : Int32) (hf : jX10_number_42 σ x0  = some (τ, r)) (hq : ∀ (pc : Nat) (lv : List (Nat × Value)), decode cX10_number pc = .ok (.ireturn, 1) → zW p l e R s m args below meth c cells slots Q D Ca B 4 τ N pc lv [.int r]) : zW p l e R s m args below meth c cells slots Q D Ca B 4 σ N 42 [(0, .ref x0)] [] := by
  unfold jX10_number_42 at hf
  refine z_aload_n C dX10_number_42 rfl 0 rfl ?_
  obtain ⟨v4, hv4, hf⟩ := zbind hf
  refine gf_RX10_389 C hv4 dX10_number_43 ?_
  refine z_istore_n (lv2 := [(3, .int v4), (0, .ref x0)]) C dX10_number_46 rfl (by decide) rfl ?_
  refine z_aload_n C dX10_number_47 rfl 1 rfl ?_
  obtain ⟨c5, hc5, hf⟩ := zbind hf
  obtain ⟨kc5, hc5⟩ := zck_ok hc5
  refine z_callVv (As := []) (F0 := 7) (L0 := 149) C (mX10_goOn l D Ca B En C.2.2.2.2.2.2.2.1 ev hZ σ N x0  _ hc5) hRm kc5 rfl kw_1871 kw_14 kw_1868 kw_1870 kp_110 hyX10_goOn (Nat.le_of_ble_eq_true rfl) (Nat.le_of_ble_eq_true rfl) rfl rfl (Nat.le_of_ble_eq_true rfl) dX10_number_48 ?_
  refine z_iload_n C dX10_number_51 rfl 0 rfl ?_
  cases hf
  exact hq _ _ dX10_number_52

set_option maxRecDepth 100000 in
set_option maxHeartbeats 4000000 in
theorem wjX10_number_14 (C : zC p s m args meth c cX10_number RX10 4 D Ca B En) (hRm : zRm R 7 149 cells slots) (ev : zEv) (hZ : ∀ U : State, En U → zEnv ev B U) (σ : zS) (x0 : Nat) (x1 : Int32) (x2 : Int32) (y0 : Int32) (y1 : Nat) (τ : zS) (r : Int32) (hf : jX10_number_14 σ x0 x1 x2 y0 y1 = some (τ, r)) (hq : ∀ (pc : Nat) (lv : List (Nat × Value)), decode cX10_number pc = .ok (.ireturn, 1) → zW p l e R s m args below meth c cells slots Q D Ca B 4 τ N pc lv [.int r]) : zW p l e R s m args below meth c cells slots Q D Ca B 4 σ N 14 [(0, .ref x0), (1, .int x1), (2, .int x2)] [.int y0, .ref y1] := by
  unfold jX10_number_14 at hf
  refine z_iconst C (zi 1) dX10_number_14 (by decide) ?_
  obtain ⟨c2, hc2, hf⟩ := zbind hf
  obtain ⟨kc2, hc2⟩ := zck_ok hc2
  refine z_callVv (As := [.int y0, .int ((zi 1))]) (F0 := 7) (L0 := 149) C (mX10_needs l D Ca B En C.2.2.2.2.2.2.2.1 σ N y1 y0 ((zi 1)) _ hc2) hRm kc2 rfl kw_1867 kw_14 kw_1864 kw_1866 kp_109 hyX10_needs (Nat.le_of_ble_eq_true rfl) (Nat.le_of_ble_eq_true rfl) rfl rfl (Nat.le_of_ble_eq_true rfl) dX10_number_15 ?_
  refine z_aload_n C dX10_number_18 rfl 0 rfl ?_
  obtain ⟨c3, hc3, hf⟩ := zbind hf
  obtain ⟨kc3, hc3⟩ := zck_ok hc3
  refine z_callVi (As := []) (F0 := 7) (L0 := 149) C (mX10_fine l D Ca B En C.2.2.2.2.2.2.2.1 c2 N x0  _ hc3) hRm kc3 rfl kw_1851 kw_14 kw_1848 kw_1850 kp_105 hyX10_fine (Nat.le_of_ble_eq_true rfl) (Nat.le_of_ble_eq_true rfl) rfl rfl (Nat.le_of_ble_eq_true rfl) dX10_number_19 ?_
  refine z_if_eq C 42 dX10_number_22 (by decide) (fun q9 => ?_) (fun q9 => ?_)
  · rw [if_pos q9] at hf
    refine z_sub [0] rfl ?_
    exact wjX10_number_42 C hRm ev hZ _ _  _ _ hf hq
  · rw [if_neg q9] at hf
    refine z_aload_n C dX10_number_25 rfl 0 rfl ?_
    refine z_aload_n C dX10_number_26 rfl 0 rfl ?_
    obtain ⟨v6, hv6, hf⟩ := zbind hf
    refine gf_RX10_389 C hv6 dX10_number_27 ?_
    refine z_i2l C dX10_number_30 ?_
    refine z_iload_n C dX10_number_31 rfl 1 rfl ?_
    refine z_i2l C dX10_number_32 ?_
    refine z_iload_n C dX10_number_33 rfl 2 rfl ?_
    refine z_i2l C dX10_number_34 ?_
    obtain ⟨c7, hc7, hf⟩ := zbind hf
    refine z_callSi (As := [.long v6.toInt64, .long x1.toInt64, .long x2.toInt64]) (F0 := 7) (L0 := 149) C (mX10_isIn l D Ca B En C.2.2.2.2.2.2.2.1 c3.1 N v6.toInt64 x1.toInt64 x2.toInt64 _ hc7) hRm kw_1392 kw_14 kw_1390 kw_1391 hyX10_isIn (Nat.le_of_ble_eq_true rfl) (Nat.le_of_ble_eq_true rfl) rfl rfl (Nat.le_of_ble_eq_true rfl) dX10_number_35 ?_
    refine z_iconst C (zi 2) dX10_number_38 (by decide) ?_
    obtain ⟨c8, hc8, hf⟩ := zbind hf
    obtain ⟨kc8, hc8⟩ := zck_ok hc8
    refine z_callVv (As := [.int c7.2, .int ((zi 2))]) (F0 := 7) (L0 := 149) C (mX10_needs l D Ca B En C.2.2.2.2.2.2.2.1 c7.1 N x0 c7.2 ((zi 2)) _ hc8) hRm kc8 rfl kw_1867 kw_14 kw_1864 kw_1866 kp_109 hyX10_needs (Nat.le_of_ble_eq_true rfl) (Nat.le_of_ble_eq_true rfl) rfl rfl (Nat.le_of_ble_eq_true rfl) dX10_number_39 ?_
    refine z_sub [0] rfl ?_
    exact wjX10_number_42 C hRm ev hZ _ _  _ _ hf hq

set_option maxRecDepth 100000 in
set_option maxHeartbeats 4000000 in
theorem wfX10_number (C : zC p s m args meth c cX10_number RX10 4 D Ca B En) (hRm : zRm R 7 149 cells slots) (ev : zEv) (hZ : ∀ U : State, En U → zEnv ev B U) (σ : zS) (x0 : Nat) (x1 : Int32) (x2 : Int32) (τ : zS) (r : Int32) (hf : fX10_number σ x0 x1 x2 = some (τ, r)) (hq : ∀ (pc : Nat) (lv : List (Nat × Value)), decode cX10_number pc = .ok (.ireturn, 1) → zW p l e R s m args below meth c cells slots Q D Ca B 4 τ N pc lv [.int r]) : zW p l e R s m args below meth c cells slots Q D Ca B 4 σ N 0 [(0, .ref x0), (1, .int x1), (2, .int x2)] [] := by
  unfold fX10_number at hf
  refine z_aload_n C dX10_number_0 rfl 0 rfl ?_
  refine z_aload_n C dX10_number_1 rfl 0 rfl ?_
  obtain ⟨v1, hv1, hf⟩ := zbind hf
  refine gf_RX10_372 C hv1 dX10_number_2 ?_
  refine z_iconst C (zi 2) dX10_number_5 (by decide) ?_
  refine z_icmp_ne C 13 dX10_number_6 (by decide) (fun q10 => ?_) (fun q10 => ?_)
  · rw [if_neg q10] at hf
    refine z_iconst C (zi 0) dX10_number_13 (by decide) ?_
    refine z_sub [0, 1, 2] rfl ?_
    exact wjX10_number_14 C hRm ev hZ _ _ _ _ _ _ _ _ hf hq
  · rw [if_pos q10] at hf
    refine z_iconst C (zi 1) dX10_number_9 (by decide) ?_
    refine z_goto C 14 dX10_number_10 (by decide) ?_
    refine z_sub [0, 1, 2] rfl ?_
    exact wjX10_number_14 C hRm ev hZ _ _ _ _ _ _ _ _ hf hq

theorem mX10_number (l : Launch) (D : va_G) (Ca : Nat → ClassId) (B : Nat) (En : State → Prop) (hE : zEk B En) (ev : zEv) (hZ : ∀ U : State, En U → zEnv ev B U) (σ : zS) (N : Nat) (x0 : Nat) (x1 : Int32) (x2 : Int32) (X : zS × Int32) (hf : fX10_number σ x0 x1 x2 = some X) : zMi l D Ca B En yX10_number cX10_number 4 (Option.some Jvm.ClassFile.FieldType.int) 7 149 [.ref x0, .int x1, .int x2] σ N X.1 X.2 :=
  zMet_i (own := RX10) hE (by decide +kernel) rfl (Nat.le_of_ble_eq_true rfl) (fun p e s m args below meth c C hr hRm => wfX10_number C hRm ev hZ σ x0 x1 x2 X.1 X.2 hf (fun pc lv hd => zfin_i C hr hd))
theorem dX10_numberBehind_0 : decode cX10_numberBehind 0 = .ok (.aload_n 0, 1) := by decide +kernel
theorem dX10_numberBehind_1 : decode cX10_numberBehind 1 = .ok (.aload_n 0, 1) := by decide +kernel
theorem dX10_numberBehind_2 : decode cX10_numberBehind 2 = .ok (.iload_n 1, 1) := by decide +kernel
theorem dX10_numberBehind_3 : decode cX10_numberBehind 3 = .ok (.invokevirtual 418, 3) := by decide +kernel
theorem dX10_numberBehind_6 : decode cX10_numberBehind 6 = .ok (.iconst 1, 1) := by decide +kernel
theorem dX10_numberBehind_7 : decode cX10_numberBehind 7 = .ok (.invokevirtual 411, 3) := by decide +kernel
theorem dX10_numberBehind_10 : decode cX10_numberBehind 10 = .ok (.aload_n 0, 1) := by decide +kernel
theorem dX10_numberBehind_11 : decode cX10_numberBehind 11 = .ok (.invokevirtual 415, 3) := by decide +kernel
theorem dX10_numberBehind_14 : decode cX10_numberBehind 14 = .ok (.aload_n 0, 1) := by decide +kernel
theorem dX10_numberBehind_15 : decode cX10_numberBehind 15 = .ok (.iload_n 2, 1) := by decide +kernel
theorem dX10_numberBehind_16 : decode cX10_numberBehind 16 = .ok (.iload_n 3, 1) := by decide +kernel
theorem dX10_numberBehind_17 : decode cX10_numberBehind 17 = .ok (.invokevirtual 421, 3) := by decide +kernel
theorem dX10_numberBehind_20 : decode cX10_numberBehind 20 = .ok (.ireturn, 1) := by decide +kernel
theorem hyX10_numberBehind : yX10_numberBehind.cls ≠ "java/lang/invoke/MethodHandle" ∧ yX10_numberBehind.cls ≠ "java/lang/invoke/VarHandle" ∧ (parseMethodDescriptor yX10_numberBehind.desc).map (fun d => d.parameters.length) = some 3 := ⟨by decide +kernel, by decide +kernel, by decide +kernel⟩
set_option maxRecDepth 100000 in
set_option maxHeartbeats 4000000 in
theorem wfX10_numberBehind (C : zC p s m args meth c cX10_numberBehind RX10 4 D Ca B En) (hRm : zRm R 8 172 cells slots) (ev : zEv) (hZ : ∀ U : State, En U → zEnv ev B U) (σ : zS) (x0 : Nat) (x1 : Int32) (x2 : Int32) (x3 : Int32) (τ : zS) (r : Int32) (hf : fX10_numberBehind σ x0 x1 x2 x3 = some (τ, r)) (hq : ∀ (pc : Nat) (lv : List (Nat × Value)), decode cX10_numberBehind pc = .ok (.ireturn, 1) → zW p l e R s m args below meth c cells slots Q D Ca B 4 τ N pc lv [.int r]) : zW p l e R s m args below meth c cells slots Q D Ca B 4 σ N 0 [(0, .ref x0), (1, .int x1), (2, .int x2), (3, .int x3)] [] := by
  unfold fX10_numberBehind at hf
  refine z_aload_n C dX10_numberBehind_0 rfl 0 rfl ?_
  refine z_aload_n C dX10_numberBehind_1 rfl 0 rfl ?_
  refine z_iload_n C dX10_numberBehind_2 rfl 1 rfl ?_
  obtain ⟨c1, hc1, hf⟩ := zbind hf
  obtain ⟨kc1, hc1⟩ := zck_ok hc1
  refine z_callVi (As := [.int x1]) (F0 := 8) (L0 := 172) C (mX10_isWord l D Ca B En C.2.2.2.2.2.2.2.1 σ N x0 x1 _ hc1) hRm kc1 rfl kw_1859 kw_14 kw_1856 kw_1858 kp_107 hyX10_isWord (Nat.le_of_ble_eq_true rfl) (Nat.le_of_ble_eq_true rfl) rfl rfl (Nat.le_of_ble_eq_true rfl) dX10_numberBehind_3 ?_
  refine z_iconst C (zi 1) dX10_numberBehind_6 (by decide) ?_
  obtain ⟨c2, hc2, hf⟩ := zbind hf
  obtain ⟨kc2, hc2⟩ := zck_ok hc2
  refine z_callVv (As := [.int c1.2, .int ((zi 1))]) (F0 := 8) (L0 := 172) C (mX10_needs l D Ca B En C.2.2.2.2.2.2.2.1 c1.1 N x0 c1.2 ((zi 1)) _ hc2) hRm kc2 rfl kw_1867 kw_14 kw_1864 kw_1866 kp_109 hyX10_needs (Nat.le_of_ble_eq_true rfl) (Nat.le_of_ble_eq_true rfl) rfl rfl (Nat.le_of_ble_eq_true rfl) dX10_numberBehind_7 ?_
  refine z_aload_n C dX10_numberBehind_10 rfl 0 rfl ?_
  obtain ⟨c3, hc3, hf⟩ := zbind hf
  obtain ⟨kc3, hc3⟩ := zck_ok hc3
  refine z_callVv (As := []) (F0 := 8) (L0 := 172) C (mX10_goOn l D Ca B En C.2.2.2.2.2.2.2.1 ev hZ c2 N x0  _ hc3) hRm kc3 rfl kw_1871 kw_14 kw_1868 kw_1870 kp_110 hyX10_goOn (Nat.le_of_ble_eq_true rfl) (Nat.le_of_ble_eq_true rfl) rfl rfl (Nat.le_of_ble_eq_true rfl) dX10_numberBehind_11 ?_
  refine z_aload_n C dX10_numberBehind_14 rfl 0 rfl ?_
  refine z_iload_n C dX10_numberBehind_15 rfl 2 rfl ?_
  refine z_iload_n C dX10_numberBehind_16 rfl 3 rfl ?_
  obtain ⟨c4, hc4, hf⟩ := zbind hf
  obtain ⟨kc4, hc4⟩ := zck_ok hc4
  refine z_callVi (As := [.int x2, .int x3]) (F0 := 8) (L0 := 172) C (mX10_number l D Ca B En C.2.2.2.2.2.2.2.1 ev hZ c3 N x0 x2 x3 _ hc4) hRm kc4 rfl kw_1888 kw_14 kw_1885 kw_1887 kp_113 hyX10_number (Nat.le_of_ble_eq_true rfl) (Nat.le_of_ble_eq_true rfl) rfl rfl (Nat.le_of_ble_eq_true rfl) dX10_numberBehind_17 ?_
  cases hf
  exact hq _ _ dX10_numberBehind_20

theorem mX10_numberBehind (l : Launch) (D : va_G) (Ca : Nat → ClassId) (B : Nat) (En : State → Prop) (hE : zEk B En) (ev : zEv) (hZ : ∀ U : State, En U → zEnv ev B U) (σ : zS) (N : Nat) (x0 : Nat) (x1 : Int32) (x2 : Int32) (x3 : Int32) (X : zS × Int32) (hf : fX10_numberBehind σ x0 x1 x2 x3 = some X) : zMi l D Ca B En yX10_numberBehind cX10_numberBehind 4 (Option.some Jvm.ClassFile.FieldType.int) 8 172 [.ref x0, .int x1, .int x2, .int x3] σ N X.1 X.2 :=
  zMet_i (own := RX10) hE (by decide +kernel) rfl (Nat.le_of_ble_eq_true rfl) (fun p e s m args below meth c C hr hRm => wfX10_numberBehind C hRm ev hZ σ x0 x1 x2 x3 X.1 X.2 hf (fun pc lv hd => zfin_i C hr hd))
theorem dX10_nameHere_0 : decode cX10_nameHere 0 = .ok (.lconst 0, 1) := by decide +kernel
theorem dX10_nameHere_1 : decode cX10_nameHere 1 = .ok (.lstore_n 1, 1) := by decide +kernel
theorem dX10_nameHere_2 : decode cX10_nameHere 2 = .ok (.aload_n 0, 1) := by decide +kernel
theorem dX10_nameHere_3 : decode cX10_nameHere 3 = .ok (.getfield 369, 3) := by decide +kernel
theorem dX10_nameHere_6 : decode cX10_nameHere 6 = .ok (.istore_n 3, 1) := by decide +kernel
theorem dX10_nameHere_7 : decode cX10_nameHere 7 = .ok (.iload_n 3, 1) := by decide +kernel
theorem dX10_nameHere_8 : decode cX10_nameHere 8 = .ok (.aload_n 0, 1) := by decide +kernel
theorem dX10_nameHere_9 : decode cX10_nameHere 9 = .ok (.getfield 363, 3) := by decide +kernel
theorem dX10_nameHere_12 : decode cX10_nameHere 12 = .ok (.if_icmp .ge 27, 3) := by decide +kernel
theorem dX10_nameHere_15 : decode cX10_nameHere 15 = .ok (.ldc2_w 424, 3) := by decide +kernel
theorem dX10_nameHere_18 : decode cX10_nameHere 18 = .ok (.lload_n 1, 1) := by decide +kernel
theorem dX10_nameHere_19 : decode cX10_nameHere 19 = .ok (.lmul, 1) := by decide +kernel
theorem dX10_nameHere_20 : decode cX10_nameHere 20 = .ok (.aload_n 0, 1) := by decide +kernel
theorem dX10_nameHere_21 : decode cX10_nameHere 21 = .ok (.getfield 40, 3) := by decide +kernel
theorem dX10_nameHere_24 : decode cX10_nameHere 24 = .ok (.iload_n 3, 1) := by decide +kernel
theorem dX10_nameHere_25 : decode cX10_nameHere 25 = .ok (.baload, 1) := by decide +kernel
theorem dX10_nameHere_26 : decode cX10_nameHere 26 = .ok (.i2l, 1) := by decide +kernel
theorem dX10_nameHere_27 : decode cX10_nameHere 27 = .ok (.ladd, 1) := by decide +kernel
theorem dX10_nameHere_28 : decode cX10_nameHere 28 = .ok (.ldc2_w 426, 3) := by decide +kernel
theorem dX10_nameHere_31 : decode cX10_nameHere 31 = .ok (.lsub, 1) := by decide +kernel
theorem dX10_nameHere_32 : decode cX10_nameHere 32 = .ok (.lstore_n 1, 1) := by decide +kernel
theorem dX10_nameHere_33 : decode cX10_nameHere 33 = .ok (.iinc 3 1, 3) := by decide +kernel
theorem dX10_nameHere_36 : decode cX10_nameHere 36 = .ok (.goto (-29), 3) := by decide +kernel
theorem dX10_nameHere_39 : decode cX10_nameHere 39 = .ok (.lload_n 1, 1) := by decide +kernel
theorem dX10_nameHere_40 : decode cX10_nameHere 40 = .ok (.lreturn, 1) := by decide +kernel
theorem hyX10_nameHere : yX10_nameHere.cls ≠ "java/lang/invoke/MethodHandle" ∧ yX10_nameHere.cls ≠ "java/lang/invoke/VarHandle" ∧ (parseMethodDescriptor yX10_nameHere.desc).map (fun d => d.parameters.length) = some 0 := ⟨by decide +kernel, by decide +kernel, by decide +kernel⟩
set_option maxRecDepth 100000 in
set_option maxHeartbeats 4000000 in
theorem wsX10_nameHere_7b (C : zC p s m args meth c cX10_nameHere RX10 4 D Ca B En) (hRm : zRm R 0 0 cells slots) (x0 : Nat) (σ : zS) (u1 : Int64) (u3 : Int32) (y : (zS × Int64 × Int32) ⊕ (zS × Int64)) (hf : sX10_nameHere_7b x0 σ u1 u3 = some y) (hk : (∀ z : (zS × Int64 × Int32), y = .inl z → zW p l e R s m args below meth c cells slots Q D Ca B 4 z.1 N 7 [(0, .ref x0), (1, .long z.2.1), (3, .int z.2.2)] []) ∧ (∀ z : (zS × Int64), y = .inr z → zW p l e R s m args below meth c cells slots Q D Ca B 4 z.1 N 39 [(1, .long z.2)] [])) : zW p l e R s m args below meth c cells slots Q D Ca B 4 σ N 7 [(0, .ref x0), (1, .long u1), (3, .int u3)] [] := by
  unfold sX10_nameHere_7b at hf
  refine z_iload_n C dX10_nameHere_7 rfl 2 rfl ?_
  refine z_aload_n C dX10_nameHere_8 rfl 0 rfl ?_
  obtain ⟨v2, hv2, hf⟩ := zbind hf
  refine gf_RX10_363 C hv2 dX10_nameHere_9 ?_
  refine z_icmp_ge C 39 dX10_nameHere_12 (by decide) (fun q5 => ?_) (fun q5 => ?_)
  · rw [if_pos q5] at hf
    cases hf
    refine z_sub [1] rfl ?_
    exact hk.2 _ rfl
  · rw [if_neg q5] at hf
    refine z_ldc2 C kw_1876 dX10_nameHere_15 ?_
    refine z_lload_n C dX10_nameHere_18 rfl 1 rfl ?_
    refine z_lmul C dX10_nameHere_19 ?_
    refine z_aload_n C dX10_nameHere_20 rfl 0 rfl ?_
    obtain ⟨v3, hv3, hf⟩ := zbind hf
    refine gf_RX10_40 C hv3 dX10_nameHere_21 ?_
    refine z_iload_n C dX10_nameHere_24 rfl 2 rfl ?_
    obtain ⟨v4, hv4, hf⟩ := zbind hf
    refine z_aB C hv4 dX10_nameHere_25 ?_
    refine z_i2l C dX10_nameHere_26 ?_
    refine z_ladd C dX10_nameHere_27 ?_
    refine z_ldc2 C kw_1877 dX10_nameHere_28 ?_
    refine z_lsub C dX10_nameHere_31 ?_
    refine z_lstore_n (lv2 := [(1, .long (((27 * u1) + v4.toInt64) - 96)), (0, .ref x0), (3, .int u3)]) C dX10_nameHere_32 rfl (by decide) rfl ?_
    refine z_iinc (lv2 := [(3, .int (u3 + (zi 1))), (1, .long (((27 * u1) + v4.toInt64) - 96)), (0, .ref x0)]) C (u3 + (zi 1)) dX10_nameHere_33 2 rfl rfl (by decide) rfl ?_
    refine z_goto C 7 dX10_nameHere_36 (by decide) ?_
    cases hf
    refine z_sub [2, 1, 0] rfl ?_
    exact hk.1 _ rfl

theorem wsX10_nameHere_7 (C : zC p s m args meth c cX10_nameHere RX10 4 D Ca B En) (hRm : zRm R 0 0 cells slots) (x0 : Nat) (n : Nat) (z : (zS × Int64 × Int32)) (x : (zS × Int64)) (hf : zloop (sX10_nameHere_7 x0) n z = some x) (hk : (∀ o : (zS × Int64), x = o → zW p l e R s m args below meth c cells slots Q D Ca B 4 o.1 N 39 [(1, .long o.2)] [])) : zW p l e R s m args below meth c cells slots Q D Ca B 4 z.1 N 7 [(0, .ref x0), (1, .long z.2.1), (3, .int z.2.2)] [] := by
  refine zloop_W (P := fun z : (zS × Int64 × Int32) => zW p l e R s m args below meth c cells slots Q D Ca B 4 z.1 N 7 [(0, .ref x0), (1, .long z.2.1), (3, .int z.2.2)] []) (K := fun x : (zS × Int64) => (∀ o : (zS × Int64), x = o → zW p l e R s m args below meth c cells slots Q D Ca B 4 o.1 N 39 [(1, .long o.2)] [])) ?_ n z x hf hk
  intro z y hy h1 h2
  refine wsX10_nameHere_7b C hRm x0 z.1 z.2.1 z.2.2 y hy ⟨fun z2 e => h1 z2 e, fun o e => (h2 _ e) o rfl⟩
set_option maxRecDepth 100000 in
set_option maxHeartbeats 4000000 in
theorem wfX10_nameHere (C : zC p s m args meth c cX10_nameHere RX10 4 D Ca B En) (hRm : zRm R 0 0 cells slots) (σ : zS) (x0 : Nat) (τ : zS) (r : Int64) (hf : fX10_nameHere σ x0 = some (τ, r)) (hq : ∀ (pc : Nat) (lv : List (Nat × Value)), decode cX10_nameHere pc = .ok (.lreturn, 1) → zW p l e R s m args below meth c cells slots Q D Ca B 4 τ N pc lv [.long r]) : zW p l e R s m args below meth c cells slots Q D Ca B 4 σ N 0 [(0, .ref x0)] [] := by
  unfold fX10_nameHere at hf
  refine z_lconst C 0 dX10_nameHere_0 (by decide) ?_
  refine z_lstore_n (lv2 := [(1, .long 0), (0, .ref x0)]) C dX10_nameHere_1 rfl (by decide) rfl ?_
  refine z_aload_n C dX10_nameHere_2 rfl 1 rfl ?_
  obtain ⟨v1, hv1, hf⟩ := zbind hf
  refine gf_RX10_369 C hv1 dX10_nameHere_3 ?_
  refine z_istore_n (lv2 := [(3, .int v1), (1, .long 0), (0, .ref x0)]) C dX10_nameHere_6 rfl (by decide) rfl ?_
  obtain ⟨o6, ho6, hf⟩ := zbind hf
  refine z_sub [2, 1, 0] rfl ?_
  refine wsX10_nameHere_7 C hRm _ zfuel (σ, 0, v1) o6 ho6 ?_
  intro z9 e9
  subst e9
  refine z_lload_n C dX10_nameHere_39 rfl 0 rfl ?_
  cases hf
  exact hq _ _ dX10_nameHere_40

theorem mX10_nameHere (l : Launch) (D : va_G) (Ca : Nat → ClassId) (B : Nat) (En : State → Prop) (hE : zEk B En) (σ : zS) (N : Nat) (x0 : Nat) (X : zS × Int64) (hf : fX10_nameHere σ x0 = some X) : zMl l D Ca B En yX10_nameHere cX10_nameHere 4 (Option.some Jvm.ClassFile.FieldType.long) 0 0 [.ref x0] σ N X.1 X.2 :=
  zMet_l (own := RX10) hE (by decide +kernel) rfl (Nat.le_of_ble_eq_true rfl) (fun p e s m args below meth c C hr hRm => wfX10_nameHere C hRm σ x0 X.1 X.2 hf (fun pc lv hd => zfin_l C hr hd))
theorem dX10_placeOf_0 : decode cX10_placeOf 0 = .ok (.iconst 0, 1) := by decide +kernel
theorem dX10_placeOf_1 : decode cX10_placeOf 1 = .ok (.istore 4, 2) := by decide +kernel
theorem dX10_placeOf_3 : decode cX10_placeOf 3 = .ok (.iload 4, 2) := by decide +kernel
theorem dX10_placeOf_5 : decode cX10_placeOf 5 = .ok (.iload_n 3, 1) := by decide +kernel
theorem dX10_placeOf_6 : decode cX10_placeOf 6 = .ok (.if_icmp .ge 21, 3) := by decide +kernel
theorem dX10_placeOf_9 : decode cX10_placeOf 9 = .ok (.aload_n 2, 1) := by decide +kernel
theorem dX10_placeOf_10 : decode cX10_placeOf 10 = .ok (.iload 4, 2) := by decide +kernel
theorem dX10_placeOf_12 : decode cX10_placeOf 12 = .ok (.laload, 1) := by decide +kernel
theorem dX10_placeOf_13 : decode cX10_placeOf 13 = .ok (.lload_n 0, 1) := by decide +kernel
theorem dX10_placeOf_14 : decode cX10_placeOf 14 = .ok (.lcmp, 1) := by decide +kernel
theorem dX10_placeOf_15 : decode cX10_placeOf 15 = .ok (.ifCond .ne 6, 3) := by decide +kernel
theorem dX10_placeOf_18 : decode cX10_placeOf 18 = .ok (.iload 4, 2) := by decide +kernel
theorem dX10_placeOf_20 : decode cX10_placeOf 20 = .ok (.ireturn, 1) := by decide +kernel
theorem dX10_placeOf_21 : decode cX10_placeOf 21 = .ok (.iinc 4 1, 3) := by decide +kernel
theorem dX10_placeOf_24 : decode cX10_placeOf 24 = .ok (.goto (-21), 3) := by decide +kernel
theorem dX10_placeOf_27 : decode cX10_placeOf 27 = .ok (.iconst (-1), 1) := by decide +kernel
theorem dX10_placeOf_28 : decode cX10_placeOf 28 = .ok (.ireturn, 1) := by decide +kernel
theorem hyX10_placeOf : yX10_placeOf.cls ≠ "java/lang/invoke/MethodHandle" ∧ yX10_placeOf.cls ≠ "java/lang/invoke/VarHandle" ∧ (parseMethodDescriptor yX10_placeOf.desc).map (fun d => d.parameters.length) = some 3 := ⟨by decide +kernel, by decide +kernel, by decide +kernel⟩
set_option maxRecDepth 100000 in
set_option maxHeartbeats 4000000 in
theorem wsX10_placeOf_3b (C : zC p s m args meth c cX10_placeOf RX10 5 D Ca B En) (hRm : zRm R 0 0 cells slots) (x0 : Int64) (x2 : Nat) (x3 : Int32) (σ : zS) (u4 : Int32) (y : (zS × Int32) ⊕ ((zS × Int32) ⊕ zS)) (hf : sX10_placeOf_3b x0 x2 x3 σ u4 = some y) (hk : (∀ z : (zS × Int32), y = .inl z → zW p l e R s m args below meth c cells slots Q D Ca B 5 z.1 N 3 [(0, .long x0), (2, .ref x2), (3, .int x3), (4, .int z.2)] []) ∧ (∀ z : (zS × Int32), y = .inr (.inl z) → zW p l e R s m args below meth c cells slots Q D Ca B 5 z.1 N 18 [(4, .int z.2)] []) ∧ (∀ z : zS, y = .inr (.inr z) → zW p l e R s m args below meth c cells slots Q D Ca B 5 z N 27 [] [])) : zW p l e R s m args below meth c cells slots Q D Ca B 5 σ N 3 [(0, .long x0), (2, .ref x2), (3, .int x3), (4, .int u4)] [] := by
  unfold sX10_placeOf_3b at hf
  refine z_iload C dX10_placeOf_3 3 rfl ?_
  refine z_iload_n C dX10_placeOf_5 rfl 2 rfl ?_
  refine z_icmp_ge C 27 dX10_placeOf_6 (by decide) (fun q3 => ?_) (fun q3 => ?_)
  · rw [if_pos q3] at hf
    cases hf
    refine z_sub [] rfl ?_
    exact hk.2.2 _ rfl
  · rw [if_neg q3] at hf
    refine z_aload_n C dX10_placeOf_9 rfl 1 rfl ?_
    refine z_iload C dX10_placeOf_10 3 rfl ?_
    obtain ⟨v1, hv1, hf⟩ := zbind hf
    refine z_aJ C hv1 dX10_placeOf_12 ?_
    refine z_lload_n C dX10_placeOf_13 rfl 0 rfl ?_
    refine z_lcmp C dX10_placeOf_14 ?_
    refine z_if_ne C 21 dX10_placeOf_15 (by decide) (fun q2 => ?_) (fun q2 => ?_)
    · rw [if_neg q2] at hf
      refine z_iinc (lv2 := [(4, .int (u4 + (zi 1))), (0, .long x0), (2, .ref x2), (3, .int x3)]) C (u4 + (zi 1)) dX10_placeOf_21 3 rfl rfl (by decide) rfl ?_
      refine z_goto C 3 dX10_placeOf_24 (by decide) ?_
      cases hf
      refine z_sub [1, 2, 3, 0] rfl ?_
      exact hk.1 _ rfl
    · rw [if_pos q2] at hf
      cases hf
      refine z_sub [3] rfl ?_
      exact hk.2.1 _ rfl

theorem wsX10_placeOf_3 (C : zC p s m args meth c cX10_placeOf RX10 5 D Ca B En) (hRm : zRm R 0 0 cells slots) (x0 : Int64) (x2 : Nat) (x3 : Int32) (n : Nat) (z : (zS × Int32)) (x : ((zS × Int32) ⊕ zS)) (hf : zloop (sX10_placeOf_3 x0 x2 x3) n z = some x) (hk : (∀ o : (zS × Int32), x = (.inl o) → zW p l e R s m args below meth c cells slots Q D Ca B 5 o.1 N 18 [(4, .int o.2)] []) ∧ (∀ o : zS, x = (.inr o) → zW p l e R s m args below meth c cells slots Q D Ca B 5 o N 27 [] [])) : zW p l e R s m args below meth c cells slots Q D Ca B 5 z.1 N 3 [(0, .long x0), (2, .ref x2), (3, .int x3), (4, .int z.2)] [] := by
  refine zloop_W (P := fun z : (zS × Int32) => zW p l e R s m args below meth c cells slots Q D Ca B 5 z.1 N 3 [(0, .long x0), (2, .ref x2), (3, .int x3), (4, .int z.2)] []) (K := fun x : ((zS × Int32) ⊕ zS) => (∀ o : (zS × Int32), x = (.inl o) → zW p l e R s m args below meth c cells slots Q D Ca B 5 o.1 N 18 [(4, .int o.2)] []) ∧ (∀ o : zS, x = (.inr o) → zW p l e R s m args below meth c cells slots Q D Ca B 5 o N 27 [] [])) ?_ n z x hf hk
  intro z y hy h1 h2
  refine wsX10_placeOf_3b C hRm x0 x2 x3 z.1 z.2 y hy ⟨fun z2 e => h1 z2 e, fun o e => (h2 _ e).1 o rfl, fun o e => (h2 _ e).2 o rfl⟩
set_option maxRecDepth 100000 in
set_option maxHeartbeats 4000000 in
theorem wfX10_placeOf (C : zC p s m args meth c cX10_placeOf RX10 5 D Ca B En) (hRm : zRm R 0 0 cells slots) (σ : zS) (x0 : Int64) (x2 : Nat) (x3 : Int32) (τ : zS) (r : Int32) (hf : fX10_placeOf σ x0 x2 x3 = some (τ, r)) (hq : ∀ (pc : Nat) (lv : List (Nat × Value)), decode cX10_placeOf pc = .ok (.ireturn, 1) → zW p l e R s m args below meth c cells slots Q D Ca B 5 τ N pc lv [.int r]) : zW p l e R s m args below meth c cells slots Q D Ca B 5 σ N 0 [(0, .long x0), (2, .ref x2), (3, .int x3)] [] := by
  unfold fX10_placeOf at hf
  refine z_iconst C (zi 0) dX10_placeOf_0 (by decide) ?_
  refine z_istore (lv2 := [(4, .int ((zi 0))), (0, .long x0), (2, .ref x2), (3, .int x3)]) C dX10_placeOf_1 (by decide) rfl ?_
  obtain ⟨o4, ho4, hf⟩ := zbind hf
  refine z_sub [1, 2, 3, 0] rfl ?_
  refine wsX10_placeOf_3 C hRm _ _ _ zfuel (σ, (zi 0)) o4 ho4 ⟨?_, ?_⟩
  · intro z5 e9
    subst e9
    dsimp only at hf
    refine z_iload C dX10_placeOf_18 0 rfl ?_
    cases hf
    exact hq _ _ dX10_placeOf_20
  · intro z6 e9
    subst e9
    dsimp only at hf
    refine z_iconst C (zi (-1)) dX10_placeOf_27 (by decide) ?_
    cases hf
    exact hq _ _ dX10_placeOf_28

theorem mX10_placeOf (l : Launch) (D : va_G) (Ca : Nat → ClassId) (B : Nat) (En : State → Prop) (hE : zEk B En) (σ : zS) (N : Nat) (x0 : Int64) (x2 : Nat) (x3 : Int32) (X : zS × Int32) (hf : fX10_placeOf σ x0 x2 x3 = some X) : zMi l D Ca B En yX10_placeOf cX10_placeOf 5 (Option.some Jvm.ClassFile.FieldType.int) 0 0 [.long x0, .ref x2, .int x3] σ N X.1 X.2 :=
  zMet_i (own := RX10) hE (by decide +kernel) rfl (Nat.le_of_ble_eq_true rfl) (fun p e s m args below meth c C hr hRm => wfX10_placeOf C hRm σ x0 x2 x3 X.1 X.2 hf (fun pc lv hd => zfin_i C hr hd))
end ZM
