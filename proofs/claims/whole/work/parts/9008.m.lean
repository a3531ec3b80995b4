/-! Methods: X10_handlesAtSink, X10_ticks, X10_isTicks, X10_run, X10_begin, X10_risk, X10_laysDone, X10_fails, X10_parts, X10_rescales -/
section ZM
variable {p : Program} {l : Launch} {e : Env} {R : Room} {s : State} {m : MethodId} {args : Array Value} {below : List Frame} {meth : Method} {c : Code} {cells slots : Nat} {Q : State → Prop} {D : va_G} {Ca : Nat → ClassId} {B : Nat} {En : State → Prop} {N : Nat}
theorem dX10_handlesAtSink_0 : decode cX10_handlesAtSink 0 = .ok (.aload_n 0, 1) := by decide +kernel
theorem dX10_handlesAtSink_1 : decode cX10_handlesAtSink 1 = .ok (.getfield 21, 3) := by decide +kernel
theorem dX10_handlesAtSink_4 : decode cX10_handlesAtSink 4 = .ok (.bipush 41, 2) := by decide +kernel
theorem dX10_handlesAtSink_6 : decode cX10_handlesAtSink 6 = .ok (.iload_n 1, 1) := by decide +kernel
theorem dX10_handlesAtSink_7 : decode cX10_handlesAtSink 7 = .ok (.iadd, 1) := by decide +kernel
theorem dX10_handlesAtSink_8 : decode cX10_handlesAtSink 8 = .ok (.iaload, 1) := by decide +kernel
theorem dX10_handlesAtSink_9 : decode cX10_handlesAtSink 9 = .ok (.iconst 1, 1) := by decide +kernel
theorem dX10_handlesAtSink_10 : decode cX10_handlesAtSink 10 = .ok (.iadd, 1) := by decide +kernel
theorem dX10_handlesAtSink_11 : decode cX10_handlesAtSink 11 = .ok (.istore_n 2, 1) := by decide +kernel
theorem dX10_handlesAtSink_12 : decode cX10_handlesAtSink 12 = .ok (.iconst 0, 1) := by decide +kernel
theorem dX10_handlesAtSink_13 : decode cX10_handlesAtSink 13 = .ok (.istore_n 3, 1) := by decide +kernel
theorem dX10_handlesAtSink_14 : decode cX10_handlesAtSink 14 = .ok (.iload_n 3, 1) := by decide +kernel
theorem dX10_handlesAtSink_15 : decode cX10_handlesAtSink 15 = .ok (.aload_n 0, 1) := by decide +kernel
theorem dX10_handlesAtSink_16 : decode cX10_handlesAtSink 16 = .ok (.getfield 21, 3) := by decide +kernel
theorem dX10_handlesAtSink_19 : decode cX10_handlesAtSink 19 = .ok (.iconst 1, 1) := by decide +kernel
theorem dX10_handlesAtSink_20 : decode cX10_handlesAtSink 20 = .ok (.iaload, 1) := by decide +kernel
theorem dX10_handlesAtSink_21 : decode cX10_handlesAtSink 21 = .ok (.if_icmp .ge 64, 3) := by decide +kernel
theorem dX10_handlesAtSink_24 : decode cX10_handlesAtSink 24 = .ok (.iload_n 2, 1) := by decide +kernel
theorem dX10_handlesAtSink_25 : decode cX10_handlesAtSink 25 = .ok (.iload_n 3, 1) := by decide +kernel
theorem dX10_handlesAtSink_26 : decode cX10_handlesAtSink 26 = .ok (.iadd, 1) := by decide +kernel
theorem dX10_handlesAtSink_27 : decode cX10_handlesAtSink 27 = .ok (.aload_n 0, 1) := by decide +kernel
theorem dX10_handlesAtSink_28 : decode cX10_handlesAtSink 28 = .ok (.getfield 21, 3) := by decide +kernel
theorem dX10_handlesAtSink_31 : decode cX10_handlesAtSink 31 = .ok (.iconst 1, 1) := by decide +kernel
theorem dX10_handlesAtSink_32 : decode cX10_handlesAtSink 32 = .ok (.iaload, 1) := by decide +kernel
theorem dX10_handlesAtSink_33 : decode cX10_handlesAtSink 33 = .ok (.irem, 1) := by decide +kernel
theorem dX10_handlesAtSink_34 : decode cX10_handlesAtSink 34 = .ok (.istore 4, 2) := by decide +kernel
theorem dX10_handlesAtSink_36 : decode cX10_handlesAtSink 36 = .ok (.aload_n 0, 1) := by decide +kernel
theorem dX10_handlesAtSink_37 : decode cX10_handlesAtSink 37 = .ok (.getfield 21, 3) := by decide +kernel
theorem dX10_handlesAtSink_40 : decode cX10_handlesAtSink 40 = .ok (.iload 4, 2) := by decide +kernel
theorem dX10_handlesAtSink_42 : decode cX10_handlesAtSink 42 = .ok (.iload_n 1, 1) := by decide +kernel
theorem dX10_handlesAtSink_43 : decode cX10_handlesAtSink 43 = .ok (.invokestatic 152, 3) := by decide +kernel
theorem dX10_handlesAtSink_46 : decode cX10_handlesAtSink 46 = .ok (.iaload, 1) := by decide +kernel
theorem dX10_handlesAtSink_47 : decode cX10_handlesAtSink 47 = .ok (.ifCond .eq 32, 3) := by decide +kernel
theorem dX10_handlesAtSink_50 : decode cX10_handlesAtSink 50 = .ok (.aload_n 0, 1) := by decide +kernel
theorem dX10_handlesAtSink_51 : decode cX10_handlesAtSink 51 = .ok (.getfield 21, 3) := by decide +kernel
theorem dX10_handlesAtSink_54 : decode cX10_handlesAtSink 54 = .ok (.bipush 59, 2) := by decide +kernel
theorem dX10_handlesAtSink_56 : decode cX10_handlesAtSink 56 = .ok (.iload 4, 2) := by decide +kernel
theorem dX10_handlesAtSink_58 : decode cX10_handlesAtSink 58 = .ok (.iload_n 1, 1) := by decide +kernel
theorem dX10_handlesAtSink_59 : decode cX10_handlesAtSink 59 = .ok (.invokestatic 125, 3) := by decide +kernel
theorem dX10_handlesAtSink_62 : decode cX10_handlesAtSink 62 = .ok (.iadd, 1) := by decide +kernel
theorem dX10_handlesAtSink_63 : decode cX10_handlesAtSink 63 = .ok (.iaload, 1) := by decide +kernel
theorem dX10_handlesAtSink_64 : decode cX10_handlesAtSink 64 = .ok (.iconst 1, 1) := by decide +kernel
theorem dX10_handlesAtSink_65 : decode cX10_handlesAtSink 65 = .ok (.if_icmp .ne 6, 3) := by decide +kernel
theorem dX10_handlesAtSink_68 : decode cX10_handlesAtSink 68 = .ok (.goto 11, 3) := by decide +kernel
theorem dX10_handlesAtSink_71 : decode cX10_handlesAtSink 71 = .ok (.aload_n 0, 1) := by decide +kernel
theorem dX10_handlesAtSink_72 : decode cX10_handlesAtSink 72 = .ok (.iload 4, 2) := by decide +kernel
theorem dX10_handlesAtSink_74 : decode cX10_handlesAtSink 74 = .ok (.iload_n 1, 1) := by decide +kernel
theorem dX10_handlesAtSink_75 : decode cX10_handlesAtSink 75 = .ok (.invokevirtual 212, 3) := by decide +kernel
theorem dX10_handlesAtSink_78 : decode cX10_handlesAtSink 78 = .ok (.return_, 1) := by decide +kernel
theorem dX10_handlesAtSink_79 : decode cX10_handlesAtSink 79 = .ok (.iinc 3 1, 3) := by decide +kernel
theorem dX10_handlesAtSink_82 : decode cX10_handlesAtSink 82 = .ok (.goto (-68), 3) := by decide +kernel
theorem dX10_handlesAtSink_85 : decode cX10_handlesAtSink 85 = .ok (.return_, 1) := by decide +kernel
theorem hyX10_handlesAtSink : yX10_handlesAtSink.cls ≠ "java/lang/invoke/MethodHandle" ∧ yX10_handlesAtSink.cls ≠ "java/lang/invoke/VarHandle" ∧ (parseMethodDescriptor yX10_handlesAtSink.desc).map (fun d => d.parameters.length) = some 1 := ⟨by decide +kernel, by decide +kernel, by decide +kernel⟩
set_option maxRecDepth 100000 in
set_option maxHeartbeats 4000000 in
theorem wjX10_handlesAtSink_79_L14 (C : zC p s m args meth c cX10_handlesAtSink RX10 5 D Ca B En) (hRm : zRm R 6 135 cells slots) (σ : zS) (x0 : Nat) (x1 : Int32) (x2 : Int32) (x3 : Int32)  (y : (zS × Int32) ⊕ ((zS × Int32) ⊕ zS)) (hf : jX10_handlesAtSink_79_L14 σ x0 x1 x2 x3  = some y) (hk : (∀ z : (zS × Int32), y = .inl z → zW p l e R s m args below meth c cells slots Q D Ca B 5 z.1 N 14 [(0, .ref x0), (1, .int x1), (2, .int x2), (3, .int z.2)] []) ∧ (∀ z : (zS × Int32), y = .inr (.inl z) → zW p l e R s m args below meth c cells slots Q D Ca B 5 z.1 N 71 [(0, .ref x0), (1, .int x1), (4, .int z.2)] []) ∧ (∀ z : zS, y = .inr (.inr z) → zW p l e R s m args below meth c cells slots Q D Ca B 5 z N 85 [] [])) : zW p l e R s m args below meth c cells slots Q D Ca B 5 σ N 79 [(0, .ref x0), (1, .int x1), (2, .int x2), (3, .int x3)] [] := by
  unfold jX10_handlesAtSink_79_L14 at hf
  refine z_iinc (lv2 := [(3, .int (x3 + (zi 1))), (0, .ref x0), (1, .int x1), (2, .int x2)]) C (x3 + (zi 1)) dX10_handlesAtSink_79 3 rfl rfl (by decide) rfl ?_
  refine z_goto C 14 dX10_handlesAtSink_82 (by decide) ?_
  cases hf
  refine z_sub [1, 2, 3, 0] rfl ?_
  exact hk.1 _ rfl

set_option maxRecDepth 100000 in
set_option maxHeartbeats 4000000 in
theorem wsX10_handlesAtSink_14b (C : zC p s m args meth c cX10_handlesAtSink RX10 5 D Ca B En) (hRm : zRm R 6 135 cells slots) (x0 : Nat) (x1 : Int32) (x2 : Int32) (σ : zS) (u3 : Int32) (y : (zS × Int32) ⊕ ((zS × Int32) ⊕ zS)) (hf : sX10_handlesAtSink_14b x0 x1 x2 σ u3 = some y) (hk : (∀ z : (zS × Int32), y = .inl z → zW p l e R s m args below meth c cells slots Q D Ca B 5 z.1 N 14 [(0, .ref x0), (1, .int x1), (2, .int x2), (3, .int z.2)] []) ∧ (∀ z : (zS × Int32), y = .inr (.inl z) → zW p l e R s m args below meth c cells slots Q D Ca B 5 z.1 N 71 [(0, .ref x0), (1, .int x1), (4, .int z.2)] []) ∧ (∀ z : zS, y = .inr (.inr z) → zW p l e R s m args below meth c cells slots Q D Ca B 5 z N 85 [] [])) : zW p l e R s m args below meth c cells slots Q D Ca B 5 σ N 14 [(0, .ref x0), (1, .int x1), (2, .int x2), (3, .int u3)] [] := by
  unfold sX10_handlesAtSink_14b at hf
  refine z_iload_n C dX10_handlesAtSink_14 rfl 3 rfl ?_
  refine z_aload_n C dX10_handlesAtSink_15 rfl 0 rfl ?_
  obtain ⟨v3, hv3, hf⟩ := zbind hf
  refine gf_RX10_21 C hv3 dX10_handlesAtSink_16 ?_
  refine z_iconst C (zi 1) dX10_handlesAtSink_19 (by decide) ?_
  obtain ⟨v4, hv4, hf⟩ := zbind hf
  refine z_aI C hv4 dX10_handlesAtSink_20 ?_
  refine z_icmp_ge C 85 dX10_handlesAtSink_21 (by decide) (fun q16 => ?_) (fun q16 => ?_)
  · rw [if_pos q16] at hf
    cases hf
    refine z_sub [] rfl ?_
    exact hk.2.2 _ rfl
  · rw [if_neg q16] at hf
    refine z_iload_n C dX10_handlesAtSink_24 rfl 2 rfl ?_
    refine z_iload_n C dX10_handlesAtSink_25 rfl 3 rfl ?_
    refine z_iadd C dX10_handlesAtSink_26 ?_
    refine z_aload_n C dX10_handlesAtSink_27 rfl 0 rfl ?_
    obtain ⟨v5, hv5, hf⟩ := zbind hf
    refine gf_RX10_21 C hv5 dX10_handlesAtSink_28 ?_
    refine z_iconst C (zi 1) dX10_handlesAtSink_31 (by decide) ?_
    obtain ⟨v6, hv6, hf⟩ := zbind hf
    refine z_aI C hv6 dX10_handlesAtSink_32 ?_
    obtain ⟨d7, hd7, hf⟩ := zbind hf
    refine z_irem C dX10_handlesAtSink_33 (znz_ok hd7) ?_
    refine z_istore (lv2 := [(4, .int ((x2 + u3) - (x2 + u3) / v6 * v6)), (0, .ref x0), (1, .int x1), (2, .int x2), (3, .int u3)]) C dX10_handlesAtSink_34 (by decide) rfl ?_
    refine z_aload_n C dX10_handlesAtSink_36 rfl 1 rfl ?_
    obtain ⟨v8, hv8, hf⟩ := zbind hf
    refine gf_RX10_21 C hv8 dX10_handlesAtSink_37 ?_
    refine z_iload C dX10_handlesAtSink_40 0 rfl ?_
    refine z_iload_n C dX10_handlesAtSink_42 rfl 2 rfl ?_
    obtain ⟨c9, hc9, hf⟩ := zbind hf
    refine z_callSi (As := [.int ((x2 + u3) - (x2 + u3) / v6 * v6), .int x1]) (F0 := 6) (L0 := 135) C (mX10_toSink l D Ca B En C.2.2.2.2.2.2.2.1 σ N ((x2 + u3) - (x2 + u3) / v6 * v6) x1 _ hc9) hRm kw_1496 kw_14 kw_1494 kw_1495 hyX10_toSink (Nat.le_of_ble_eq_true rfl) (Nat.le_of_ble_eq_true rfl) rfl rfl (Nat.le_of_ble_eq_true rfl) dX10_handlesAtSink_43 ?_
    obtain ⟨v10, hv10, hf⟩ := zbind hf
    refine z_aI C hv10 dX10_handlesAtSink_46 ?_
    refine z_if_eq C 79 dX10_handlesAtSink_47 (by decide) (fun q15 => ?_) (fun q15 => ?_)
    · rw [if_pos q15] at hf
      refine z_sub [1, 2, 3, 4] rfl ?_
      exact wjX10_handlesAtSink_79_L14 C hRm _ _ _ _ _  _ hf hk
    · rw [if_neg q15] at hf
      refine z_aload_n C dX10_handlesAtSink_50 rfl 1 rfl ?_
      obtain ⟨v11, hv11, hf⟩ := zbind hf
      refine gf_RX10_21 C hv11 dX10_handlesAtSink_51 ?_
      refine z_bipush C (zi 59) dX10_handlesAtSink_54 (by decide) ?_
      refine z_iload C dX10_handlesAtSink_56 0 rfl ?_
      refine z_iload_n C dX10_handlesAtSink_58 rfl 2 rfl ?_
      obtain ⟨c12, hc12, hf⟩ := zbind hf
      refine z_callSi (As := [.int ((x2 + u3) - (x2 + u3) / v6 * v6), .int x1]) (F0 := 6) (L0 := 135) C (mX10_channelOut l D Ca B En C.2.2.2.2.2.2.2.1 c9.1 N ((x2 + u3) - (x2 + u3) / v6 * v6) x1 _ hc12) hRm kw_1424 kw_14 kw_1422 kw_1423 hyX10_channelOut (Nat.le_of_ble_eq_true rfl) (Nat.le_of_ble_eq_true rfl) rfl rfl (Nat.le_of_ble_eq_true rfl) dX10_handlesAtSink_59 ?_
      refine z_iadd C dX10_handlesAtSink_62 ?_
      obtain ⟨v13, hv13, hf⟩ := zbind hf
      refine z_aI C hv13 dX10_handlesAtSink_63 ?_
      refine z_iconst C (zi 1) dX10_handlesAtSink_64 (by decide) ?_
      refine z_icmp_ne C 71 dX10_handlesAtSink_65 (by decide) (fun q14 => ?_) (fun q14 => ?_)
      · rw [if_neg q14] at hf
        cases hf
        refine z_sub [1, 2, 0] rfl ?_
        exact hk.2.1 _ rfl
      · rw [if_pos q14] at hf
        refine z_goto C 79 dX10_handlesAtSink_68 (by decide) ?_
        refine z_sub [1, 2, 3, 4] rfl ?_
        exact wjX10_handlesAtSink_79_L14 C hRm _ _ _ _ _  _ hf hk

theorem wsX10_handlesAtSink_14 (C : zC p s m args meth c cX10_handlesAtSink RX10 5 D Ca B En) (hRm : zRm R 6 135 cells slots) (x0 : Nat) (x1 : Int32) (x2 : Int32) (n : Nat) (z : (zS × Int32)) (x : ((zS × Int32) ⊕ zS)) (hf : zloop (sX10_handlesAtSink_14 x0 x1 x2) n z = some x) (hk : (∀ o : (zS × Int32), x = (.inl o) → zW p l e R s m args below meth c cells slots Q D Ca B 5 o.1 N 71 [(0, .ref x0), (1, .int x1), (4, .int o.2)] []) ∧ (∀ o : zS, x = (.inr o) → zW p l e R s m args below meth c cells slots Q D Ca B 5 o N 85 [] [])) : zW p l e R s m args below meth c cells slots Q D Ca B 5 z.1 N 14 [(0, .ref x0), (1, .int x1), (2, .int x2), (3, .int z.2)] [] := by
  refine zloop_W (P := fun z : (zS × Int32) => zW p l e R s m args below meth c cells slots Q D Ca B 5 z.1 N 14 [(0, .ref x0), (1, .int x1), (2, .int x2), (3, .int z.2)] []) (K := fun x : ((zS × Int32) ⊕ zS) => (∀ o : (zS × Int32), x = (.inl o) → zW p l e R s m args below meth c cells slots Q D Ca B 5 o.1 N 71 [(0, .ref x0), (1, .int x1), (4, .int o.2)] []) ∧ (∀ o : zS, x = (.inr o) → zW p l e R s m args below meth c cells slots Q D Ca B 5 o N 85 [] [])) ?_ n z x hf hk
  intro z y hy h1 h2
  refine wsX10_handlesAtSink_14b C hRm x0 x1 x2 z.1 z.2 y hy ⟨fun z2 e => h1 z2 e, fun o e => (h2 _ e).1 o rfl, fun o e => (h2 _ e).2 o rfl⟩
set_option maxRecDepth 100000 in
set_option maxHeartbeats 4000000 in
theorem wfX10_handlesAtSink (C : zC p s m args meth c cX10_handlesAtSink RX10 5 D Ca B En) (hRm : zRm R 6 135 cells slots) (σ : zS) (x0 : Nat) (x1 : Int32) (τ : zS) (hf : fX10_handlesAtSink σ x0 x1 = some τ) (hq : ∀ (pc : Nat) (lv : List (Nat × Value)), decode cX10_handlesAtSink pc = .ok (.return_, 1) → zW p l e R s m args below meth c cells slots Q D Ca B 5 τ N pc lv []) : zW p l e R s m args below meth c cells slots Q D Ca B 5 σ N 0 [(0, .ref x0), (1, .int x1)] [] := by
  unfold fX10_handlesAtSink at hf
  refine z_aload_n C dX10_handlesAtSink_0 rfl 0 rfl ?_
  obtain ⟨v1, hv1, hf⟩ := zbind hf
  refine gf_RX10_21 C hv1 dX10_handlesAtSink_1 ?_
  refine z_bipush C (zi 41) dX10_handlesAtSink_4 (by decide) ?_
  refine z_iload_n C dX10_handlesAtSink_6 rfl 1 rfl ?_
  refine z_iadd C dX10_handlesAtSink_7 ?_
  obtain ⟨v2, hv2, hf⟩ := zbind hf
  refine z_aI C hv2 dX10_handlesAtSink_8 ?_
  refine z_iconst C (zi 1) dX10_handlesAtSink_9 (by decide) ?_
  refine z_iadd C dX10_handlesAtSink_10 ?_
  refine z_istore_n (lv2 := [(2, .int (v2 + ((zi 1)))), (0, .ref x0), (1, .int x1)]) C dX10_handlesAtSink_11 rfl (by decide) rfl ?_
  refine z_iconst C (zi 0) dX10_handlesAtSink_12 (by decide) ?_
  refine z_istore_n (lv2 := [(3, .int ((zi 0))), (2, .int (v2 + ((zi 1)))), (0, .ref x0), (1, .int x1)]) C dX10_handlesAtSink_13 rfl (by decide) rfl ?_
  obtain ⟨o17, ho17, hf⟩ := zbind hf
  refine z_sub [2, 3, 1, 0] rfl ?_
  refine wsX10_handlesAtSink_14 C hRm _ _ _ zfuel (σ, (zi 0)) o17 ho17 ⟨?_, ?_⟩
  · intro z18 e9
    subst e9
    dsimp only at hf
    refine z_aload_n C dX10_handlesAtSink_71 rfl 0 rfl ?_
    refine z_iload C dX10_handlesAtSink_72 2 rfl ?_
    refine z_iload_n C dX10_handlesAtSink_74 rfl 1 rfl ?_
    obtain ⟨c19, hc19, hf⟩ := zbind hf
    obtain ⟨kc19, hc19⟩ := zck_ok hc19
    refine z_callVv (As := [.int z18.2, .int x1]) (F0 := 6) (L0 := 135) C (mX10_takesAtSink l D Ca B En C.2.2.2.2.2.2.2.1 z18.1 N x0 z18.2 x1 _ hc19) hRm kc19 rfl kw_1552 kw_14 kw_1549 kw_1551 kp_71 hyX10_takesAtSink (Nat.le_of_ble_eq_true rfl) (Nat.le_of_ble_eq_true rfl) rfl rfl (Nat.le_of_ble_eq_true rfl) dX10_handlesAtSink_75 ?_
    cases hf
    exact hq _ _ dX10_handlesAtSink_78
  · intro z20 e9
    subst e9
    dsimp only at hf
    cases hf
    exact hq _ _ dX10_handlesAtSink_85

theorem mX10_handlesAtSink (l : Launch) (D : va_G) (Ca : Nat → ClassId) (B : Nat) (En : State → Prop) (hE : zEk B En) (σ : zS) (N : Nat) (x0 : Nat) (x1 : Int32) (X : zS) (hf : fX10_handlesAtSink σ x0 x1 = some X) : zMv l D Ca B En yX10_handlesAtSink cX10_handlesAtSink 5 (Option.none : Option Jvm.ClassFile.FieldType) 6 135 [.ref x0, .int x1] σ N X () :=
  zMet_v (own := RX10) hE (by decide +kernel) rfl (Nat.le_of_ble_eq_true rfl) (fun p e s m args below meth c C hr hRm => wfX10_handlesAtSink C hRm σ x0 x1 X hf (fun pc lv hd => zfin_v (r := ()) C hr hd))
theorem dX10_ticks_0 : decode cX10_ticks 0 = .ok (.aload_n 0, 1) := by decide +kernel
theorem dX10_ticks_1 : decode cX10_ticks 1 = .ok (.getfield 21, 3) := by decide +kernel
theorem dX10_ticks_4 : decode cX10_ticks 4 = .ok (.iconst 3, 1) := by decide +kernel
theorem dX10_ticks_5 : decode cX10_ticks 5 = .ok (.iaload, 1) := by decide +kernel
theorem dX10_ticks_6 : decode cX10_ticks 6 = .ok (.ifCond .le 39, 3) := by decide +kernel
theorem dX10_ticks_9 : decode cX10_ticks 9 = .ok (.aload_n 0, 1) := by decide +kernel
theorem dX10_ticks_10 : decode cX10_ticks 10 = .ok (.getfield 21, 3) := by decide +kernel
theorem dX10_ticks_13 : decode cX10_ticks 13 = .ok (.iconst 0, 1) := by decide +kernel
theorem dX10_ticks_14 : decode cX10_ticks 14 = .ok (.iaload, 1) := by decide +kernel
theorem dX10_ticks_15 : decode cX10_ticks 15 = .ok (.aload_n 0, 1) := by decide +kernel
theorem dX10_ticks_16 : decode cX10_ticks 16 = .ok (.getfield 21, 3) := by decide +kernel
theorem dX10_ticks_19 : decode cX10_ticks 19 = .ok (.iconst 3, 1) := by decide +kernel
theorem dX10_ticks_20 : decode cX10_ticks 20 = .ok (.iaload, 1) := by decide +kernel
theorem dX10_ticks_21 : decode cX10_ticks 21 = .ok (.irem, 1) := by decide +kernel
theorem dX10_ticks_22 : decode cX10_ticks 22 = .ok (.ifCond .ne 23, 3) := by decide +kernel
theorem dX10_ticks_25 : decode cX10_ticks 25 = .ok (.aload_n 0, 1) := by decide +kernel
theorem dX10_ticks_26 : decode cX10_ticks 26 = .ok (.getfield 21, 3) := by decide +kernel
theorem dX10_ticks_29 : decode cX10_ticks 29 = .ok (.bipush 67, 2) := by decide +kernel
theorem dX10_ticks_31 : decode cX10_ticks 31 = .ok (.iaload, 1) := by decide +kernel
theorem dX10_ticks_32 : decode cX10_ticks 32 = .ok (.ifCond .ne 13, 3) := by decide +kernel
theorem dX10_ticks_35 : decode cX10_ticks 35 = .ok (.aload_n 0, 1) := by decide +kernel
theorem dX10_ticks_36 : decode cX10_ticks 36 = .ok (.aload_n 0, 1) := by decide +kernel
theorem dX10_ticks_37 : decode cX10_ticks 37 = .ok (.getfield 21, 3) := by decide +kernel
theorem dX10_ticks_40 : decode cX10_ticks 40 = .ok (.iconst 4, 1) := by decide +kernel
theorem dX10_ticks_41 : decode cX10_ticks 41 = .ok (.iaload, 1) := by decide +kernel
theorem dX10_ticks_42 : decode cX10_ticks 42 = .ok (.invokevirtual 218, 3) := by decide +kernel
theorem dX10_ticks_45 : decode cX10_ticks 45 = .ok (.aload_n 0, 1) := by decide +kernel
theorem dX10_ticks_46 : decode cX10_ticks 46 = .ok (.invokevirtual 221, 3) := by decide +kernel
theorem dX10_ticks_49 : decode cX10_ticks 49 = .ok (.iconst 0, 1) := by decide +kernel
theorem dX10_ticks_50 : decode cX10_ticks 50 = .ok (.istore_n 1, 1) := by decide +kernel
theorem dX10_ticks_51 : decode cX10_ticks 51 = .ok (.iload_n 1, 1) := by decide +kernel
theorem dX10_ticks_52 : decode cX10_ticks 52 = .ok (.aload_n 0, 1) := by decide +kernel
theorem dX10_ticks_53 : decode cX10_ticks 53 = .ok (.getfield 75, 3) := by decide +kernel
theorem dX10_ticks_56 : decode cX10_ticks 56 = .ok (.if_icmp .ge 14, 3) := by decide +kernel
theorem dX10_ticks_59 : decode cX10_ticks 59 = .ok (.aload_n 0, 1) := by decide +kernel
theorem dX10_ticks_60 : decode cX10_ticks 60 = .ok (.iload_n 1, 1) := by decide +kernel
theorem dX10_ticks_61 : decode cX10_ticks 61 = .ok (.invokevirtual 224, 3) := by decide +kernel
theorem dX10_ticks_64 : decode cX10_ticks 64 = .ok (.iinc 1 1, 3) := by decide +kernel
theorem dX10_ticks_67 : decode cX10_ticks 67 = .ok (.goto (-16), 3) := by decide +kernel
theorem dX10_ticks_70 : decode cX10_ticks 70 = .ok (.aload_n 0, 1) := by decide +kernel
theorem dX10_ticks_71 : decode cX10_ticks 71 = .ok (.invokevirtual 205, 3) := by decide +kernel
theorem dX10_ticks_74 : decode cX10_ticks 74 = .ok (.ifCond .eq 43, 3) := by decide +kernel
theorem dX10_ticks_77 : decode cX10_ticks 77 = .ok (.iconst 0, 1) := by decide +kernel
theorem dX10_ticks_78 : decode cX10_ticks 78 = .ok (.istore_n 1, 1) := by decide +kernel
theorem dX10_ticks_79 : decode cX10_ticks 79 = .ok (.iload_n 1, 1) := by decide +kernel
theorem dX10_ticks_80 : decode cX10_ticks 80 = .ok (.aload_n 0, 1) := by decide +kernel
theorem dX10_ticks_81 : decode cX10_ticks 81 = .ok (.getfield 21, 3) := by decide +kernel
theorem dX10_ticks_84 : decode cX10_ticks 84 = .ok (.iconst 1, 1) := by decide +kernel
theorem dX10_ticks_85 : decode cX10_ticks 85 = .ok (.iaload, 1) := by decide +kernel
theorem dX10_ticks_86 : decode cX10_ticks 86 = .ok (.if_icmp .ge 31, 3) := by decide +kernel
theorem dX10_ticks_89 : decode cX10_ticks 89 = .ok (.iconst 0, 1) := by decide +kernel
theorem dX10_ticks_90 : decode cX10_ticks 90 = .ok (.istore_n 2, 1) := by decide +kernel
theorem dX10_ticks_91 : decode cX10_ticks 91 = .ok (.iload_n 2, 1) := by decide +kernel
theorem dX10_ticks_92 : decode cX10_ticks 92 = .ok (.aload_n 0, 1) := by decide +kernel
theorem dX10_ticks_93 : decode cX10_ticks 93 = .ok (.getfield 75, 3) := by decide +kernel
theorem dX10_ticks_96 : decode cX10_ticks 96 = .ok (.if_icmp .ge 15, 3) := by decide +kernel
theorem dX10_ticks_99 : decode cX10_ticks 99 = .ok (.aload_n 0, 1) := by decide +kernel
theorem dX10_ticks_100 : decode cX10_ticks 100 = .ok (.iload_n 2, 1) := by decide +kernel
theorem dX10_ticks_101 : decode cX10_ticks 101 = .ok (.iload_n 1, 1) := by decide +kernel
theorem dX10_ticks_102 : decode cX10_ticks 102 = .ok (.invokevirtual 227, 3) := by decide +kernel
theorem dX10_ticks_105 : decode cX10_ticks 105 = .ok (.iinc 2 1, 3) := by decide +kernel
theorem dX10_ticks_108 : decode cX10_ticks 108 = .ok (.goto (-17), 3) := by decide +kernel
theorem dX10_ticks_111 : decode cX10_ticks 111 = .ok (.iinc 1 1, 3) := by decide +kernel
theorem dX10_ticks_114 : decode cX10_ticks 114 = .ok (.goto (-35), 3) := by decide +kernel
theorem dX10_ticks_117 : decode cX10_ticks 117 = .ok (.iconst 0, 1) := by decide +kernel
theorem dX10_ticks_118 : decode cX10_ticks 118 = .ok (.istore_n 1, 1) := by decide +kernel
theorem dX10_ticks_119 : decode cX10_ticks 119 = .ok (.iload_n 1, 1) := by decide +kernel
theorem dX10_ticks_120 : decode cX10_ticks 120 = .ok (.aload_n 0, 1) := by decide +kernel
theorem dX10_ticks_121 : decode cX10_ticks 121 = .ok (.getfield 21, 3) := by decide +kernel
theorem dX10_ticks_124 : decode cX10_ticks 124 = .ok (.iconst 1, 1) := by decide +kernel
theorem dX10_ticks_125 : decode cX10_ticks 125 = .ok (.iaload, 1) := by decide +kernel
theorem dX10_ticks_126 : decode cX10_ticks 126 = .ok (.if_icmp .ge 14, 3) := by decide +kernel
theorem dX10_ticks_129 : decode cX10_ticks 129 = .ok (.aload_n 0, 1) := by decide +kernel
theorem dX10_ticks_130 : decode cX10_ticks 130 = .ok (.iload_n 1, 1) := by decide +kernel
theorem dX10_ticks_131 : decode cX10_ticks 131 = .ok (.invokevirtual 230, 3) := by decide +kernel
theorem dX10_ticks_134 : decode cX10_ticks 134 = .ok (.iinc 1 1, 3) := by decide +kernel
theorem dX10_ticks_137 : decode cX10_ticks 137 = .ok (.goto (-18), 3) := by decide +kernel
theorem dX10_ticks_140 : decode cX10_ticks 140 = .ok (.aload_n 0, 1) := by decide +kernel
theorem dX10_ticks_141 : decode cX10_ticks 141 = .ok (.invokevirtual 205, 3) := by decide +kernel
theorem dX10_ticks_144 : decode cX10_ticks 144 = .ok (.ifCond .eq 43, 3) := by decide +kernel
theorem dX10_ticks_147 : decode cX10_ticks 147 = .ok (.iconst 0, 1) := by decide +kernel
theorem dX10_ticks_148 : decode cX10_ticks 148 = .ok (.istore_n 1, 1) := by decide +kernel
theorem dX10_ticks_149 : decode cX10_ticks 149 = .ok (.iload_n 1, 1) := by decide +kernel
theorem dX10_ticks_150 : decode cX10_ticks 150 = .ok (.aload_n 0, 1) := by decide +kernel
theorem dX10_ticks_151 : decode cX10_ticks 151 = .ok (.getfield 78, 3) := by decide +kernel
theorem dX10_ticks_154 : decode cX10_ticks 154 = .ok (.if_icmp .ge 33, 3) := by decide +kernel
theorem dX10_ticks_157 : decode cX10_ticks 157 = .ok (.iconst 0, 1) := by decide +kernel
theorem dX10_ticks_158 : decode cX10_ticks 158 = .ok (.istore_n 2, 1) := by decide +kernel
theorem dX10_ticks_159 : decode cX10_ticks 159 = .ok (.iload_n 2, 1) := by decide +kernel
theorem dX10_ticks_160 : decode cX10_ticks 160 = .ok (.aload_n 0, 1) := by decide +kernel
theorem dX10_ticks_161 : decode cX10_ticks 161 = .ok (.getfield 21, 3) := by decide +kernel
theorem dX10_ticks_164 : decode cX10_ticks 164 = .ok (.iconst 1, 1) := by decide +kernel
theorem dX10_ticks_165 : decode cX10_ticks 165 = .ok (.iaload, 1) := by decide +kernel
theorem dX10_ticks_166 : decode cX10_ticks 166 = .ok (.if_icmp .ge 15, 3) := by decide +kernel
theorem dX10_ticks_169 : decode cX10_ticks 169 = .ok (.aload_n 0, 1) := by decide +kernel
theorem dX10_ticks_170 : decode cX10_ticks 170 = .ok (.iload_n 2, 1) := by decide +kernel
theorem dX10_ticks_171 : decode cX10_ticks 171 = .ok (.iload_n 1, 1) := by decide +kernel
theorem dX10_ticks_172 : decode cX10_ticks 172 = .ok (.invokevirtual 233, 3) := by decide +kernel
theorem dX10_ticks_175 : decode cX10_ticks 175 = .ok (.iinc 2 1, 3) := by decide +kernel
theorem dX10_ticks_178 : decode cX10_ticks 178 = .ok (.goto (-19), 3) := by decide +kernel
theorem dX10_ticks_181 : decode cX10_ticks 181 = .ok (.iinc 1 1, 3) := by decide +kernel
theorem dX10_ticks_184 : decode cX10_ticks 184 = .ok (.goto (-35), 3) := by decide +kernel
theorem dX10_ticks_187 : decode cX10_ticks 187 = .ok (.iconst 0, 1) := by decide +kernel
theorem dX10_ticks_188 : decode cX10_ticks 188 = .ok (.istore_n 1, 1) := by decide +kernel
theorem dX10_ticks_189 : decode cX10_ticks 189 = .ok (.iload_n 1, 1) := by decide +kernel
theorem dX10_ticks_190 : decode cX10_ticks 190 = .ok (.aload_n 0, 1) := by decide +kernel
theorem dX10_ticks_191 : decode cX10_ticks 191 = .ok (.getfield 78, 3) := by decide +kernel
theorem dX10_ticks_194 : decode cX10_ticks 194 = .ok (.if_icmp .ge 14, 3) := by decide +kernel
theorem dX10_ticks_197 : decode cX10_ticks 197 = .ok (.aload_n 0, 1) := by decide +kernel
theorem dX10_ticks_198 : decode cX10_ticks 198 = .ok (.iload_n 1, 1) := by decide +kernel
theorem dX10_ticks_199 : decode cX10_ticks 199 = .ok (.invokevirtual 236, 3) := by decide +kernel
theorem dX10_ticks_202 : decode cX10_ticks 202 = .ok (.iinc 1 1, 3) := by decide +kernel
theorem dX10_ticks_205 : decode cX10_ticks 205 = .ok (.goto (-16), 3) := by decide +kernel
theorem dX10_ticks_208 : decode cX10_ticks 208 = .ok (.aload_n 0, 1) := by decide +kernel
theorem dX10_ticks_209 : decode cX10_ticks 209 = .ok (.getfield 21, 3) := by decide +kernel
theorem dX10_ticks_212 : decode cX10_ticks 212 = .ok (.bipush 67, 2) := by decide +kernel
theorem dX10_ticks_214 : decode cX10_ticks 214 = .ok (.iaload, 1) := by decide +kernel
theorem dX10_ticks_215 : decode cX10_ticks 215 = .ok (.iconst 1, 1) := by decide +kernel
theorem dX10_ticks_216 : decode cX10_ticks 216 = .ok (.if_icmp .ne 14, 3) := by decide +kernel
theorem dX10_ticks_219 : decode cX10_ticks 219 = .ok (.aload_n 0, 1) := by decide +kernel
theorem dX10_ticks_220 : decode cX10_ticks 220 = .ok (.invokevirtual 239, 3) := by decide +kernel
theorem dX10_ticks_223 : decode cX10_ticks 223 = .ok (.ifCond .eq 7, 3) := by decide +kernel
theorem dX10_ticks_226 : decode cX10_ticks 226 = .ok (.aload_n 0, 1) := by decide +kernel
theorem dX10_ticks_227 : decode cX10_ticks 227 = .ok (.invokevirtual 242, 3) := by decide +kernel
theorem dX10_ticks_230 : decode cX10_ticks 230 = .ok (.aload_n 0, 1) := by decide +kernel
theorem dX10_ticks_231 : decode cX10_ticks 231 = .ok (.getfield 21, 3) := by decide +kernel
theorem dX10_ticks_234 : decode cX10_ticks 234 = .ok (.iconst 0, 1) := by decide +kernel
theorem dX10_ticks_235 : decode cX10_ticks 235 = .ok (.aload_n 0, 1) := by decide +kernel
theorem dX10_ticks_236 : decode cX10_ticks 236 = .ok (.getfield 21, 3) := by decide +kernel
theorem dX10_ticks_239 : decode cX10_ticks 239 = .ok (.iconst 0, 1) := by decide +kernel
theorem dX10_ticks_240 : decode cX10_ticks 240 = .ok (.iaload, 1) := by decide +kernel
theorem dX10_ticks_241 : decode cX10_ticks 241 = .ok (.iconst 1, 1) := by decide +kernel
theorem dX10_ticks_242 : decode cX10_ticks 242 = .ok (.iadd, 1) := by decide +kernel
theorem dX10_ticks_243 : decode cX10_ticks 243 = .ok (.iastore, 1) := by decide +kernel
theorem dX10_ticks_244 : decode cX10_ticks 244 = .ok (.return_, 1) := by decide +kernel
theorem hyX10_ticks : yX10_ticks.cls ≠ "java/lang/invoke/MethodHandle" ∧ yX10_ticks.cls ≠ "java/lang/invoke/VarHandle" ∧ (parseMethodDescriptor yX10_ticks.desc).map (fun d => d.parameters.length) = some 0 := ⟨by decide +kernel, by decide +kernel, by decide +kernel⟩
set_option maxRecDepth 100000 in
set_option maxHeartbeats 4000000 in
theorem wsX10_ticks_51b (C : zC p s m args meth c cX10_ticks RX10 3 D Ca B En) (hRm : zRm R 7 159 cells slots) (x0 : Nat) (σ : zS) (u1 : Int32) (y : (zS × Int32) ⊕ zS) (hf : sX10_ticks_51b x0 σ u1 = some y) (hk : (∀ z : (zS × Int32), y = .inl z → zW p l e R s m args below meth c cells slots Q D Ca B 3 z.1 N 51 [(0, .ref x0), (1, .int z.2)] []) ∧ (∀ z : zS, y = .inr z → zW p l e R s m args below meth c cells slots Q D Ca B 3 z N 70 [(0, .ref x0)] [])) : zW p l e R s m args below meth c cells slots Q D Ca B 3 σ N 51 [(0, .ref x0), (1, .int u1)] [] := by
  unfold sX10_ticks_51b at hf
  refine z_iload_n C dX10_ticks_51 rfl 1 rfl ?_
  refine z_aload_n C dX10_ticks_52 rfl 0 rfl ?_
  obtain ⟨v4, hv4, hf⟩ := zbind hf
  refine gf_RX10_75 C hv4 dX10_ticks_53 ?_
  refine z_icmp_ge C 70 dX10_ticks_56 (by decide) (fun q6 => ?_) (fun q6 => ?_)
  · rw [if_pos q6] at hf
    cases hf
    refine z_sub [0] rfl ?_
    exact hk.2 _ rfl
  · rw [if_neg q6] at hf
    refine z_aload_n C dX10_ticks_59 rfl 0 rfl ?_
    refine z_iload_n C dX10_ticks_60 rfl 1 rfl ?_
    obtain ⟨c5, hc5, hf⟩ := zbind hf
    obtain ⟨kc5, hc5⟩ := zck_ok hc5
    refine z_callVv (As := [.int u1]) (F0 := 7) (L0 := 159) C (mX10_sends l D Ca B En C.2.2.2.2.2.2.2.1 σ N x0 u1 _ hc5) hRm kc5 rfl kw_1447 kw_14 kw_1444 kw_1446 kp_47 hyX10_sends (Nat.le_of_ble_eq_true rfl) (Nat.le_of_ble_eq_true rfl) rfl rfl (Nat.le_of_ble_eq_true rfl) dX10_ticks_61 ?_
    refine z_iinc (lv2 := [(1, .int (u1 + (zi 1))), (0, .ref x0)]) C (u1 + (zi 1)) dX10_ticks_64 1 rfl rfl (by decide) rfl ?_
    refine z_goto C 51 dX10_ticks_67 (by decide) ?_
    cases hf
    refine z_sub [1, 0] rfl ?_
    exact hk.1 _ rfl

theorem wsX10_ticks_51 (C : zC p s m args meth c cX10_ticks RX10 3 D Ca B En) (hRm : zRm R 7 159 cells slots) (x0 : Nat) (n : Nat) (z : (zS × Int32)) (x : zS) (hf : zloop (sX10_ticks_51 x0) n z = some x) (hk : (∀ o : zS, x = o → zW p l e R s m args below meth c cells slots Q D Ca B 3 o N 70 [(0, .ref x0)] [])) : zW p l e R s m args below meth c cells slots Q D Ca B 3 z.1 N 51 [(0, .ref x0), (1, .int z.2)] [] := by
  refine zloop_W (P := fun z : (zS × Int32) => zW p l e R s m args below meth c cells slots Q D Ca B 3 z.1 N 51 [(0, .ref x0), (1, .int z.2)] []) (K := fun x : zS => (∀ o : zS, x = o → zW p l e R s m args below meth c cells slots Q D Ca B 3 o N 70 [(0, .ref x0)] [])) ?_ n z x hf hk
  intro z y hy h1 h2
  refine wsX10_ticks_51b C hRm x0 z.1 z.2 y hy ⟨fun z2 e => h1 z2 e, fun o e => (h2 _ e) o rfl⟩
set_option maxRecDepth 100000 in
set_option maxHeartbeats 4000000 in
theorem wsX10_ticks_119b (C : zC p s m args meth c cX10_ticks RX10 3 D Ca B En) (hRm : zRm R 7 159 cells slots) (x0 : Nat) (σ : zS) (u1 : Int32) (y : (zS × Int32) ⊕ zS) (hf : sX10_ticks_119b x0 σ u1 = some y) (hk : (∀ z : (zS × Int32), y = .inl z → zW p l e R s m args below meth c cells slots Q D Ca B 3 z.1 N 119 [(0, .ref x0), (1, .int z.2)] []) ∧ (∀ z : zS, y = .inr z → zW p l e R s m args below meth c cells slots Q D Ca B 3 z N 140 [(0, .ref x0)] [])) : zW p l e R s m args below meth c cells slots Q D Ca B 3 σ N 119 [(0, .ref x0), (1, .int u1)] [] := by
  unfold sX10_ticks_119b at hf
  refine z_iload_n C dX10_ticks_119 rfl 1 rfl ?_
  refine z_aload_n C dX10_ticks_120 rfl 0 rfl ?_
  obtain ⟨v9, hv9, hf⟩ := zbind hf
  refine gf_RX10_21 C hv9 dX10_ticks_121 ?_
  refine z_iconst C (zi 1) dX10_ticks_124 (by decide) ?_
  obtain ⟨v10, hv10, hf⟩ := zbind hf
  refine z_aI C hv10 dX10_ticks_125 ?_
  refine z_icmp_ge C 140 dX10_ticks_126 (by decide) (fun q12 => ?_) (fun q12 => ?_)
  · rw [if_pos q12] at hf
    cases hf
    refine z_sub [0] rfl ?_
    exact hk.2 _ rfl
  · rw [if_neg q12] at hf
    refine z_aload_n C dX10_ticks_129 rfl 0 rfl ?_
    refine z_iload_n C dX10_ticks_130 rfl 1 rfl ?_
    obtain ⟨c11, hc11, hf⟩ := zbind hf
    obtain ⟨kc11, hc11⟩ := zck_ok hc11
    refine z_callVv (As := [.int u1]) (F0 := 7) (L0 := 159) C (mX10_handles l D Ca B En C.2.2.2.2.2.2.2.1 σ N x0 u1 _ hc11) hRm kc11 rfl kw_1508 kw_14 kw_1505 kw_1507 kp_60 hyX10_handles (Nat.le_of_ble_eq_true rfl) (Nat.le_of_ble_eq_true rfl) rfl rfl (Nat.le_of_ble_eq_true rfl) dX10_ticks_131 ?_
    refine z_iinc (lv2 := [(1, .int (u1 + (zi 1))), (0, .ref x0)]) C (u1 + (zi 1)) dX10_ticks_134 1 rfl rfl (by decide) rfl ?_
    refine z_goto C 119 dX10_ticks_137 (by decide) ?_
    cases hf
    refine z_sub [1, 0] rfl ?_
    exact hk.1 _ rfl

theorem wsX10_ticks_119 (C : zC p s m args meth c cX10_ticks RX10 3 D Ca B En) (hRm : zRm R 7 159 cells slots) (x0 : Nat) (n : Nat) (z : (zS × Int32)) (x : zS) (hf : zloop (sX10_ticks_119 x0) n z = some x) (hk : (∀ o : zS, x = o → zW p l e R s m args below meth c cells slots Q D Ca B 3 o N 140 [(0, .ref x0)] [])) : zW p l e R s m args below meth c cells slots Q D Ca B 3 z.1 N 119 [(0, .ref x0), (1, .int z.2)] [] := by
  refine zloop_W (P := fun z : (zS × Int32) => zW p l e R s m args below meth c cells slots Q D Ca B 3 z.1 N 119 [(0, .ref x0), (1, .int z.2)] []) (K := fun x : zS => (∀ o : zS, x = o → zW p l e R s m args below meth c cells slots Q D Ca B 3 o N 140 [(0, .ref x0)] [])) ?_ n z x hf hk
  intro z y hy h1 h2
  refine wsX10_ticks_119b C hRm x0 z.1 z.2 y hy ⟨fun z2 e => h1 z2 e, fun o e => (h2 _ e) o rfl⟩
set_option maxRecDepth 100000 in
set_option maxHeartbeats 4000000 in
theorem wsX10_ticks_189b (C : zC p s m args meth c cX10_ticks RX10 3 D Ca B En) (hRm : zRm R 7 159 cells slots) (x0 : Nat) (σ : zS) (u1 : Int32) (y : (zS × Int32) ⊕ zS) (hf : sX10_ticks_189b x0 σ u1 = some y) (hk : (∀ z : (zS × Int32), y = .inl z → zW p l e R s m args below meth c cells slots Q D Ca B 3 z.1 N 189 [(0, .ref x0), (1, .int z.2)] []) ∧ (∀ z : zS, y = .inr z → zW p l e R s m args below meth c cells slots Q D Ca B 3 z N 208 [(0, .ref x0)] [])) : zW p l e R s m args below meth c cells slots Q D Ca B 3 σ N 189 [(0, .ref x0), (1, .int u1)] [] := by
  unfold sX10_ticks_189b at hf
  refine z_iload_n C dX10_ticks_189 rfl 1 rfl ?_
  refine z_aload_n C dX10_ticks_190 rfl 0 rfl ?_
  obtain ⟨v15, hv15, hf⟩ := zbind hf
  refine gf_RX10_78 C hv15 dX10_ticks_191 ?_
  refine z_icmp_ge C 208 dX10_ticks_194 (by decide) (fun q17 => ?_) (fun q17 => ?_)
  · rw [if_pos q17] at hf
    cases hf
    refine z_sub [0] rfl ?_
    exact hk.2 _ rfl
  · rw [if_neg q17] at hf
    refine z_aload_n C dX10_ticks_197 rfl 0 rfl ?_
    refine z_iload_n C dX10_ticks_198 rfl 1 rfl ?_
    obtain ⟨c16, hc16, hf⟩ := zbind hf
    obtain ⟨kc16, hc16⟩ := zck_ok hc16
    refine z_callVv (As := [.int u1]) (F0 := 7) (L0 := 159) C (mX10_handlesAtSink l D Ca B En C.2.2.2.2.2.2.2.1 σ N x0 u1 _ hc16) hRm kc16 rfl kw_1548 kw_14 kw_1545 kw_1547 kp_70 hyX10_handlesAtSink (Nat.le_of_ble_eq_true rfl) (Nat.le_of_ble_eq_true rfl) rfl rfl (Nat.le_of_ble_eq_true rfl) dX10_ticks_199 ?_
    refine z_iinc (lv2 := [(1, .int (u1 + (zi 1))), (0, .ref x0)]) C (u1 + (zi 1)) dX10_ticks_202 1 rfl rfl (by decide) rfl ?_
    refine z_goto C 189 dX10_ticks_205 (by decide) ?_
    cases hf
    refine z_sub [1, 0] rfl ?_
    exact hk.1 _ rfl

theorem wsX10_ticks_189 (C : zC p s m args meth c cX10_ticks RX10 3 D Ca B En) (hRm : zRm R 7 159 cells slots) (x0 : Nat) (n : Nat) (z : (zS × Int32)) (x : zS) (hf : zloop (sX10_ticks_189 x0) n z = some x) (hk : (∀ o : zS, x = o → zW p l e R s m args below meth c cells slots Q D Ca B 3 o N 208 [(0, .ref x0)] [])) : zW p l e R s m args below meth c cells slots Q D Ca B 3 z.1 N 189 [(0, .ref x0), (1, .int z.2)] [] := by
  refine zloop_W (P := fun z : (zS × Int32) => zW p l e R s m args below meth c cells slots Q D Ca B 3 z.1 N 189 [(0, .ref x0), (1, .int z.2)] []) (K := fun x : zS => (∀ o : zS, x = o → zW p l e R s m args below meth c cells slots Q D Ca B 3 o N 208 [(0, .ref x0)] [])) ?_ n z x hf hk
  intro z y hy h1 h2
  refine wsX10_ticks_189b C hRm x0 z.1 z.2 y hy ⟨fun z2 e => h1 z2 e, fun o e => (h2 _ e) o rfl⟩
set_option maxRecDepth 100000 in
set_option maxHeartbeats 4000000 in
theorem wjX10_ticks_230 (C : zC p s m args meth c cX10_ticks RX10 3 D Ca B En) (hRm : zRm R 7 159 cells slots) (σ : zS) (x0 : Nat)  (τ : zS) (hf : jX10_ticks_230 σ x0  = some τ) (hq : ∀ (pc : Nat) (lv : List (Nat × Value)), decode cX10_ticks pc = .ok (.return_, 1) → zW p l e R s m args below meth c cells slots Q D Ca B 3 τ N pc lv []) : zW p l e R s m args below meth c cells slots Q D Ca B 3 σ N 230 [(0, .ref x0)] [] := by
  unfold jX10_ticks_230 at hf
  refine z_aload_n C dX10_ticks_230 rfl 0 rfl ?_
  obtain ⟨v21, hv21, hf⟩ := zbind hf
  refine gf_RX10_21 C hv21 dX10_ticks_231 ?_
  refine z_iconst C (zi 0) dX10_ticks_234 (by decide) ?_
  refine z_aload_n C dX10_ticks_235 rfl 0 rfl ?_
  obtain ⟨v22, hv22, hf⟩ := zbind hf
  refine gf_RX10_21 C hv22 dX10_ticks_236 ?_
  refine z_iconst C (zi 0) dX10_ticks_239 (by decide) ?_
  obtain ⟨v23, hv23, hf⟩ := zbind hf
  refine z_aI C hv23 dX10_ticks_240 ?_
  refine z_iconst C (zi 1) dX10_ticks_241 (by decide) ?_
  refine z_iadd C dX10_ticks_242 ?_
  obtain ⟨σ24, hσ24, hf⟩ := zbind hf
  refine z_sI C hσ24 dX10_ticks_243 ?_
  cases hf
  exact hq _ _ dX10_ticks_244

set_option maxRecDepth 100000 in
set_option maxHeartbeats 4000000 in
theorem wjX10_ticks_187 (C : zC p s m args meth c cX10_ticks RX10 3 D Ca B En) (hRm : zRm R 7 159 cells slots) (σ : zS) (x0 : Nat)  (τ : zS) (hf : jX10_ticks_187 σ x0  = some τ) (hq : ∀ (pc : Nat) (lv : List (Nat × Value)), decode cX10_ticks pc = .ok (.return_, 1) → zW p l e R s m args below meth c cells slots Q D Ca B 3 τ N pc lv []) : zW p l e R s m args below meth c cells slots Q D Ca B 3 σ N 187 [(0, .ref x0)] [] := by
  unfold jX10_ticks_187 at hf
  refine z_iconst C (zi 0) dX10_ticks_187 (by decide) ?_
  refine z_istore_n (lv2 := [(1, .int ((zi 0))), (0, .ref x0)]) C dX10_ticks_188 rfl (by decide) rfl ?_
  obtain ⟨o18, ho18, hf⟩ := zbind hf
  refine z_sub [1, 0] rfl ?_
  refine wsX10_ticks_189 C hRm _ zfuel (σ, (zi 0)) o18 ho18 ?_
  intro z9 e9
  subst e9
  refine z_aload_n C dX10_ticks_208 rfl 0 rfl ?_
  obtain ⟨v19, hv19, hf⟩ := zbind hf
  refine gf_RX10_21 C hv19 dX10_ticks_209 ?_
  refine z_bipush C (zi 67) dX10_ticks_212 (by decide) ?_
  obtain ⟨v20, hv20, hf⟩ := zbind hf
  refine z_aI C hv20 dX10_ticks_214 ?_
  refine z_iconst C (zi 1) dX10_ticks_215 (by decide) ?_
  refine z_icmp_ne C 230 dX10_ticks_216 (by decide) (fun q28 => ?_) (fun q28 => ?_)
  · rw [if_neg q28] at hf
    refine z_sub [0] rfl ?_
    exact wjX10_ticks_230 C hRm _ _  _ hf hq
  · rw [if_pos q28] at hf
    refine z_aload_n C dX10_ticks_219 rfl 0 rfl ?_
    obtain ⟨c25, hc25, hf⟩ := zbind hf
    obtain ⟨kc25, hc25⟩ := zck_ok hc25
    refine z_callVi (As := []) (F0 := 7) (L0 := 159) C (mX10_isComplete l D Ca B En C.2.2.2.2.2.2.2.1 o18 N x0  _ hc25) hRm kc25 rfl kw_1560 kw_14 kw_1557 kw_1559 kp_73 hyX10_isComplete (Nat.le_of_ble_eq_true rfl) (Nat.le_of_ble_eq_true rfl) rfl rfl (Nat.le_of_ble_eq_true rfl) dX10_ticks_220 ?_
    refine z_if_eq C 230 dX10_ticks_223 (by decide) (fun q27 => ?_) (fun q27 => ?_)
    · rw [if_pos q27] at hf
      refine z_sub [0] rfl ?_
      exact wjX10_ticks_230 C hRm _ _  _ hf hq
    · rw [if_neg q27] at hf
      refine z_aload_n C dX10_ticks_226 rfl 0 rfl ?_
      obtain ⟨c26, hc26, hf⟩ := zbind hf
      obtain ⟨kc26, hc26⟩ := zck_ok hc26
      refine z_callVv (As := []) (F0 := 7) (L0 := 159) C (mX10_completes l D Ca B En C.2.2.2.2.2.2.2.1 c25.1 N x0  _ hc26) hRm kc26 rfl kw_1564 kw_14 kw_1561 kw_1563 kp_74 hyX10_completes (Nat.le_of_ble_eq_true rfl) (Nat.le_of_ble_eq_true rfl) rfl rfl (Nat.le_of_ble_eq_true rfl) dX10_ticks_227 ?_
      refine z_sub [0] rfl ?_
      exact wjX10_ticks_230 C hRm _ _  _ hf hq

set_option maxRecDepth 100000 in
set_option maxHeartbeats 4000000 in
theorem wsX10_ticks_159b (C : zC p s m args meth c cX10_ticks RX10 3 D Ca B En) (hRm : zRm R 7 159 cells slots) (x0 : Nat) (x1 : Int32) (σ : zS) (u2 : Int32) (y : (zS × Int32) ⊕ zS) (hf : sX10_ticks_159b x0 x1 σ u2 = some y) (hk : (∀ z : (zS × Int32), y = .inl z → zW p l e R s m args below meth c cells slots Q D Ca B 3 z.1 N 159 [(0, .ref x0), (1, .int x1), (2, .int z.2)] []) ∧ (∀ z : zS, y = .inr z → zW p l e R s m args below meth c cells slots Q D Ca B 3 z N 181 [(0, .ref x0), (1, .int x1)] [])) : zW p l e R s m args below meth c cells slots Q D Ca B 3 σ N 159 [(0, .ref x0), (1, .int x1), (2, .int u2)] [] := by
  unfold sX10_ticks_159b at hf
  refine z_iload_n C dX10_ticks_159 rfl 2 rfl ?_
  refine z_aload_n C dX10_ticks_160 rfl 0 rfl ?_
  obtain ⟨v30, hv30, hf⟩ := zbind hf
  refine gf_RX10_21 C hv30 dX10_ticks_161 ?_
  refine z_iconst C (zi 1) dX10_ticks_164 (by decide) ?_
  obtain ⟨v31, hv31, hf⟩ := zbind hf
  refine z_aI C hv31 dX10_ticks_165 ?_
  refine z_icmp_ge C 181 dX10_ticks_166 (by decide) (fun q33 => ?_) (fun q33 => ?_)
  · rw [if_pos q33] at hf
    cases hf
    refine z_sub [0, 1] rfl ?_
    exact hk.2 _ rfl
  · rw [if_neg q33] at hf
    refine z_aload_n C dX10_ticks_169 rfl 0 rfl ?_
    refine z_iload_n C dX10_ticks_170 rfl 2 rfl ?_
    refine z_iload_n C dX10_ticks_171 rfl 1 rfl ?_
    obtain ⟨c32, hc32, hf⟩ := zbind hf
    obtain ⟨kc32, hc32⟩ := zck_ok hc32
    refine z_callVv (As := [.int u2, .int x1]) (F0 := 7) (L0 := 159) C (mX10_overtakesAtSink l D Ca B En C.2.2.2.2.2.2.2.1 σ N x0 u2 x1 _ hc32) hRm kc32 rfl kw_1532 kw_14 kw_1529 kw_1531 kp_66 hyX10_overtakesAtSink (Nat.le_of_ble_eq_true rfl) (Nat.le_of_ble_eq_true rfl) rfl rfl (Nat.le_of_ble_eq_true rfl) dX10_ticks_172 ?_
    refine z_iinc (lv2 := [(2, .int (u2 + (zi 1))), (0, .ref x0), (1, .int x1)]) C (u2 + (zi 1)) dX10_ticks_175 2 rfl rfl (by decide) rfl ?_
    refine z_goto C 159 dX10_ticks_178 (by decide) ?_
    cases hf
    refine z_sub [1, 2, 0] rfl ?_
    exact hk.1 _ rfl

theorem wsX10_ticks_159 (C : zC p s m args meth c cX10_ticks RX10 3 D Ca B En) (hRm : zRm R 7 159 cells slots) (x0 : Nat) (x1 : Int32) (n : Nat) (z : (zS × Int32)) (x : zS) (hf : zloop (sX10_ticks_159 x0 x1) n z = some x) (hk : (∀ o : zS, x = o → zW p l e R s m args below meth c cells slots Q D Ca B 3 o N 181 [(0, .ref x0), (1, .int x1)] [])) : zW p l e R s m args below meth c cells slots Q D Ca B 3 z.1 N 159 [(0, .ref x0), (1, .int x1), (2, .int z.2)] [] := by
  refine zloop_W (P := fun z : (zS × Int32) => zW p l e R s m args below meth c cells slots Q D Ca B 3 z.1 N 159 [(0, .ref x0), (1, .int x1), (2, .int z.2)] []) (K := fun x : zS => (∀ o : zS, x = o → zW p l e R s m args below meth c cells slots Q D Ca B 3 o N 181 [(0, .ref x0), (1, .int x1)] [])) ?_ n z x hf hk
  intro z y hy h1 h2
  refine wsX10_ticks_159b C hRm x0 x1 z.1 z.2 y hy ⟨fun z2 e => h1 z2 e, fun o e => (h2 _ e) o rfl⟩
set_option maxRecDepth 100000 in
set_option maxHeartbeats 4000000 in
theorem wsX10_ticks_149b (C : zC p s m args meth c cX10_ticks RX10 3 D Ca B En) (hRm : zRm R 7 159 cells slots) (x0 : Nat) (σ : zS) (u1 : Int32) (y : (zS × Int32) ⊕ zS) (hf : sX10_ticks_149b x0 σ u1 = some y) (hk : (∀ z : (zS × Int32), y = .inl z → zW p l e R s m args below meth c cells slots Q D Ca B 3 z.1 N 149 [(0, .ref x0), (1, .int z.2)] []) ∧ (∀ z : zS, y = .inr z → zW p l e R s m args below meth c cells slots Q D Ca B 3 z N 187 [(0, .ref x0)] [])) : zW p l e R s m args below meth c cells slots Q D Ca B 3 σ N 149 [(0, .ref x0), (1, .int u1)] [] := by
  unfold sX10_ticks_149b at hf
  refine z_iload_n C dX10_ticks_149 rfl 1 rfl ?_
  refine z_aload_n C dX10_ticks_150 rfl 0 rfl ?_
  obtain ⟨v29, hv29, hf⟩ := zbind hf
  refine gf_RX10_78 C hv29 dX10_ticks_151 ?_
  refine z_icmp_ge C 187 dX10_ticks_154 (by decide) (fun q35 => ?_) (fun q35 => ?_)
  · rw [if_pos q35] at hf
    cases hf
    refine z_sub [0] rfl ?_
    exact hk.2 _ rfl
  · rw [if_neg q35] at hf
    refine z_iconst C (zi 0) dX10_ticks_157 (by decide) ?_
    refine z_istore_n (lv2 := [(2, .int ((zi 0))), (0, .ref x0), (1, .int u1)]) C dX10_ticks_158 rfl (by decide) rfl ?_
    obtain ⟨o34, ho34, hf⟩ := zbind hf
    refine z_sub [1, 2, 0] rfl ?_
    refine wsX10_ticks_159 C hRm _ _ zfuel (σ, (zi 0)) o34 ho34 ?_
    intro z9 e9
    subst e9
    refine z_iinc (lv2 := [(1, .int (u1 + (zi 1))), (0, .ref x0)]) C (u1 + (zi 1)) dX10_ticks_181 1 rfl rfl (by decide) rfl ?_
    refine z_goto C 149 dX10_ticks_184 (by decide) ?_
    cases hf
    refine z_sub [1, 0] rfl ?_
    exact hk.1 _ rfl

theorem wsX10_ticks_149 (C : zC p s m args meth c cX10_ticks RX10 3 D Ca B En) (hRm : zRm R 7 159 cells slots) (x0 : Nat) (n : Nat) (z : (zS × Int32)) (x : zS) (hf : zloop (sX10_ticks_149 x0) n z = some x) (hk : (∀ o : zS, x = o → zW p l e R s m args below meth c cells slots Q D Ca B 3 o N 187 [(0, .ref x0)] [])) : zW p l e R s m args below meth c cells slots Q D Ca B 3 z.1 N 149 [(0, .ref x0), (1, .int z.2)] [] := by
  refine zloop_W (P := fun z : (zS × Int32) => zW p l e R s m args below meth c cells slots Q D Ca B 3 z.1 N 149 [(0, .ref x0), (1, .int z.2)] []) (K := fun x : zS => (∀ o : zS, x = o → zW p l e R s m args below meth c cells slots Q D Ca B 3 o N 187 [(0, .ref x0)] [])) ?_ n z x hf hk
  intro z y hy h1 h2
  refine wsX10_ticks_149b C hRm x0 z.1 z.2 y hy ⟨fun z2 e => h1 z2 e, fun o e => (h2 _ e) o rfl⟩
set_option maxRecDepth 100000 in
set_option maxHeartbeats 4000000 in
theorem wjX10_ticks_117 (C : zC p s m args meth c cX10_ticks RX10 3 D Ca B En) (hRm : zRm R 7 159 cells slots) (σ : zS) (x0 : Nat)  (τ : zS) (hf : jX10_ticks_117 σ x0  = some τ) (hq : ∀ (pc : Nat) (lv : List (Nat × Value)), decode cX10_ticks pc = .ok (.return_, 1) → zW p l e R s m args below meth c cells slots Q D Ca B 3 τ N pc lv []) : zW p l e R s m args below meth c cells slots Q D Ca B 3 σ N 117 [(0, .ref x0)] [] := by
  unfold jX10_ticks_117 at hf
  refine z_iconst C (zi 0) dX10_ticks_117 (by decide) ?_
  refine z_istore_n (lv2 := [(1, .int ((zi 0))), (0, .ref x0)]) C dX10_ticks_118 rfl (by decide) rfl ?_
  obtain ⟨o13, ho13, hf⟩ := zbind hf
  refine z_sub [1, 0] rfl ?_
  refine wsX10_ticks_119 C hRm _ zfuel (σ, (zi 0)) o13 ho13 ?_
  intro z9 e9
  subst e9
  refine z_aload_n C dX10_ticks_140 rfl 0 rfl ?_
  obtain ⟨c14, hc14, hf⟩ := zbind hf
  obtain ⟨kc14, hc14⟩ := zck_ok hc14
  refine z_callVi (As := []) (F0 := 7) (L0 := 159) C (mX10_overtakes l D Ca B En C.2.2.2.2.2.2.2.1 o13 N x0  _ hc14) hRm kc14 rfl kw_1477 kw_14 kw_1474 kw_1476 kp_53 hyX10_overtakes (Nat.le_of_ble_eq_true rfl) (Nat.le_of_ble_eq_true rfl) rfl rfl (Nat.le_of_ble_eq_true rfl) dX10_ticks_141 ?_
  refine z_if_eq C 187 dX10_ticks_144 (by decide) (fun q37 => ?_) (fun q37 => ?_)
  · rw [if_pos q37] at hf
    refine z_sub [0] rfl ?_
    exact wjX10_ticks_187 C hRm _ _  _ hf hq
  · rw [if_neg q37] at hf
    refine z_iconst C (zi 0) dX10_ticks_147 (by decide) ?_
    refine z_istore_n (lv2 := [(1, .int ((zi 0))), (0, .ref x0)]) C dX10_ticks_148 rfl (by decide) rfl ?_
    obtain ⟨o36, ho36, hf⟩ := zbind hf
    refine z_sub [1, 0] rfl ?_
    refine wsX10_ticks_149 C hRm _ zfuel (c14.1, (zi 0)) o36 ho36 ?_
    intro z9 e9
    subst e9
    refine z_sub [0] rfl ?_
    exact wjX10_ticks_187 C hRm _ _  _ hf hq

set_option maxRecDepth 100000 in
set_option maxHeartbeats 4000000 in
theorem wsX10_ticks_91b (C : zC p s m args meth c cX10_ticks RX10 3 D Ca B En) (hRm : zRm R 7 159 cells slots) (x0 : Nat) (x1 : Int32) (σ : zS) (u2 : Int32) (y : (zS × Int32) ⊕ zS) (hf : sX10_ticks_91b x0 x1 σ u2 = some y) (hk : (∀ z : (zS × Int32), y = .inl z → zW p l e R s m args below meth c cells slots Q D Ca B 3 z.1 N 91 [(0, .ref x0), (1, .int x1), (2, .int z.2)] []) ∧ (∀ z : zS, y = .inr z → zW p l e R s m args below meth c cells slots Q D Ca B 3 z N 111 [(0, .ref x0), (1, .int x1)] [])) : zW p l e R s m args below meth c cells slots Q D Ca B 3 σ N 91 [(0, .ref x0), (1, .int x1), (2, .int u2)] [] := by
  unfold sX10_ticks_91b at hf
  refine z_iload_n C dX10_ticks_91 rfl 2 rfl ?_
  refine z_aload_n C dX10_ticks_92 rfl 0 rfl ?_
  obtain ⟨v40, hv40, hf⟩ := zbind hf
  refine gf_RX10_75 C hv40 dX10_ticks_93 ?_
  refine z_icmp_ge C 111 dX10_ticks_96 (by decide) (fun q42 => ?_) (fun q42 => ?_)
  · rw [if_pos q42] at hf
    cases hf
    refine z_sub [0, 1] rfl ?_
    exact hk.2 _ rfl
  · rw [if_neg q42] at hf
    refine z_aload_n C dX10_ticks_99 rfl 0 rfl ?_
    refine z_iload_n C dX10_ticks_100 rfl 2 rfl ?_
    refine z_iload_n C dX10_ticks_101 rfl 1 rfl ?_
    obtain ⟨c41, hc41, hf⟩ := zbind hf
    obtain ⟨kc41, hc41⟩ := zck_ok hc41
    refine z_callVv (As := [.int u2, .int x1]) (F0 := 7) (L0 := 159) C (mX10_overtakesAt l D Ca B En C.2.2.2.2.2.2.2.1 σ N x0 u2 x1 _ hc41) hRm kc41 rfl kw_1481 kw_14 kw_1478 kw_1480 kp_54 hyX10_overtakesAt (Nat.le_of_ble_eq_true rfl) (Nat.le_of_ble_eq_true rfl) rfl rfl (Nat.le_of_ble_eq_true rfl) dX10_ticks_102 ?_
    refine z_iinc (lv2 := [(2, .int (u2 + (zi 1))), (0, .ref x0), (1, .int x1)]) C (u2 + (zi 1)) dX10_ticks_105 2 rfl rfl (by decide) rfl ?_
    refine z_goto C 91 dX10_ticks_108 (by decide) ?_
    cases hf
    refine z_sub [1, 2, 0] rfl ?_
    exact hk.1 _ rfl

theorem wsX10_ticks_91 (C : zC p s m args meth c cX10_ticks RX10 3 D Ca B En) (hRm : zRm R 7 159 cells slots) (x0 : Nat) (x1 : Int32) (n : Nat) (z : (zS × Int32)) (x : zS) (hf : zloop (sX10_ticks_91 x0 x1) n z = some x) (hk : (∀ o : zS, x = o → zW p l e R s m args below meth c cells slots Q D Ca B 3 o N 111 [(0, .ref x0), (1, .int x1)] [])) : zW p l e R s m args below meth c cells slots Q D Ca B 3 z.1 N 91 [(0, .ref x0), (1, .int x1), (2, .int z.2)] [] := by
  refine zloop_W (P := fun z : (zS × Int32) => zW p l e R s m args below meth c cells slots Q D Ca B 3 z.1 N 91 [(0, .ref x0), (1, .int x1), (2, .int z.2)] []) (K := fun x : zS => (∀ o : zS, x = o → zW p l e R s m args below meth c cells slots Q D Ca B 3 o N 111 [(0, .ref x0), (1, .int x1)] [])) ?_ n z x hf hk
  intro z y hy h1 h2
  refine wsX10_ticks_91b C hRm x0 x1 z.1 z.2 y hy ⟨fun z2 e => h1 z2 e, fun o e => (h2 _ e) o rfl⟩
set_option maxRecDepth 100000 in
set_option maxHeartbeats 4000000 in
theorem wsX10_ticks_79b (C : zC p s m args meth c cX10_ticks RX10 3 D Ca B En) (hRm : zRm R 7 159 cells slots) (x0 : Nat) (σ : zS) (u1 : Int32) (y : (zS × Int32) ⊕ zS) (hf : sX10_ticks_79b x0 σ u1 = some y) (hk : (∀ z : (zS × Int32), y = .inl z → zW p l e R s m args below meth c cells slots Q D Ca B 3 z.1 N 79 [(0, .ref x0), (1, .int z.2)] []) ∧ (∀ z : zS, y = .inr z → zW p l e R s m args below meth c cells slots Q D Ca B 3 z N 117 [(0, .ref x0)] [])) : zW p l e R s m args below meth c cells slots Q D Ca B 3 σ N 79 [(0, .ref x0), (1, .int u1)] [] := by
  unfold sX10_ticks_79b at hf
  refine z_iload_n C dX10_ticks_79 rfl 1 rfl ?_
  refine z_aload_n C dX10_ticks_80 rfl 0 rfl ?_
  obtain ⟨v38, hv38, hf⟩ := zbind hf
  refine gf_RX10_21 C hv38 dX10_ticks_81 ?_
  refine z_iconst C (zi 1) dX10_ticks_84 (by decide) ?_
  obtain ⟨v39, hv39, hf⟩ := zbind hf
  refine z_aI C hv39 dX10_ticks_85 ?_
  refine z_icmp_ge C 117 dX10_ticks_86 (by decide) (fun q44 => ?_) (fun q44 => ?_)
  · rw [if_pos q44] at hf
    cases hf
    refine z_sub [0] rfl ?_
    exact hk.2 _ rfl
  · rw [if_neg q44] at hf
    refine z_iconst C (zi 0) dX10_ticks_89 (by decide) ?_
    refine z_istore_n (lv2 := [(2, .int ((zi 0))), (0, .ref x0), (1, .int u1)]) C dX10_ticks_90 rfl (by decide) rfl ?_
    obtain ⟨o43, ho43, hf⟩ := zbind hf
    refine z_sub [1, 2, 0] rfl ?_
    refine wsX10_ticks_91 C hRm _ _ zfuel (σ, (zi 0)) o43 ho43 ?_
    intro z9 e9
    subst e9
    refine z_iinc (lv2 := [(1, .int (u1 + (zi 1))), (0, .ref x0)]) C (u1 + (zi 1)) dX10_ticks_111 1 rfl rfl (by decide) rfl ?_
    refine z_goto C 79 dX10_ticks_114 (by decide) ?_
    cases hf
    refine z_sub [1, 0] rfl ?_
    exact hk.1 _ rfl

theorem wsX10_ticks_79 (C : zC p s m args meth c cX10_ticks RX10 3 D Ca B En) (hRm : zRm R 7 159 cells slots) (x0 : Nat) (n : Nat) (z : (zS × Int32)) (x : zS) (hf : zloop (sX10_ticks_79 x0) n z = some x) (hk : (∀ o : zS, x = o → zW p l e R s m args below meth c cells slots Q D Ca B 3 o N 117 [(0, .ref x0)] [])) : zW p l e R s m args below meth c cells slots Q D Ca B 3 z.1 N 79 [(0, .ref x0), (1, .int z.2)] [] := by
  refine zloop_W (P := fun z : (zS × Int32) => zW p l e R s m args below meth c cells slots Q D Ca B 3 z.1 N 79 [(0, .ref x0), (1, .int z.2)] []) (K := fun x : zS => (∀ o : zS, x = o → zW p l e R s m args below meth c cells slots Q D Ca B 3 o N 117 [(0, .ref x0)] [])) ?_ n z x hf hk
  intro z y hy h1 h2
  refine wsX10_ticks_79b C hRm x0 z.1 z.2 y hy ⟨fun z2 e => h1 z2 e, fun o e => (h2 _ e) o rfl⟩
set_option maxRecDepth 100000 in
set_option maxHeartbeats 4000000 in
theorem wjX10_ticks_45 (C : zC p s m args meth c cX10_ticks RX10 3 D Ca B En) (hRm : zRm R 7 159 cells slots) (σ : zS) (x0 : Nat)  (τ : zS) (hf : jX10_ticks_45 σ x0  = some τ) (hq : ∀ (pc : Nat) (lv : List (Nat × Value)), decode cX10_ticks pc = .ok (.return_, 1) → zW p l e R s m args below meth c cells slots Q D Ca B 3 τ N pc lv []) : zW p l e R s m args below meth c cells slots Q D Ca B 3 σ N 45 [(0, .ref x0)] [] := by
  unfold jX10_ticks_45 at hf
  refine z_aload_n C dX10_ticks_45 rfl 0 rfl ?_
  obtain ⟨c3, hc3, hf⟩ := zbind hf
  obtain ⟨kc3, hc3⟩ := zck_ok hc3
  refine z_callVv (As := []) (F0 := 7) (L0 := 159) C (mX10_shows l D Ca B En C.2.2.2.2.2.2.2.1 σ N x0  _ hc3) hRm kc3 rfl kw_1428 kw_14 kw_1425 kw_1427 kp_43 hyX10_shows (Nat.le_of_ble_eq_true rfl) (Nat.le_of_ble_eq_true rfl) rfl rfl (Nat.le_of_ble_eq_true rfl) dX10_ticks_46 ?_
  refine z_iconst C (zi 0) dX10_ticks_49 (by decide) ?_
  refine z_istore_n (lv2 := [(1, .int ((zi 0))), (0, .ref x0)]) C dX10_ticks_50 rfl (by decide) rfl ?_
  obtain ⟨o7, ho7, hf⟩ := zbind hf
  refine z_sub [1, 0] rfl ?_
  refine wsX10_ticks_51 C hRm _ zfuel (c3, (zi 0)) o7 ho7 ?_
  intro z9 e9
  subst e9
  refine z_aload_n C dX10_ticks_70 rfl 0 rfl ?_
  obtain ⟨c8, hc8, hf⟩ := zbind hf
  obtain ⟨kc8, hc8⟩ := zck_ok hc8
  refine z_callVi (As := []) (F0 := 7) (L0 := 159) C (mX10_overtakes l D Ca B En C.2.2.2.2.2.2.2.1 o7 N x0  _ hc8) hRm kc8 rfl kw_1477 kw_14 kw_1474 kw_1476 kp_53 hyX10_overtakes (Nat.le_of_ble_eq_true rfl) (Nat.le_of_ble_eq_true rfl) rfl rfl (Nat.le_of_ble_eq_true rfl) dX10_ticks_71 ?_
  refine z_if_eq C 117 dX10_ticks_74 (by decide) (fun q46 => ?_) (fun q46 => ?_)
  · rw [if_pos q46] at hf
    refine z_sub [0] rfl ?_
    exact wjX10_ticks_117 C hRm _ _  _ hf hq
  · rw [if_neg q46] at hf
    refine z_iconst C (zi 0) dX10_ticks_77 (by decide) ?_
    refine z_istore_n (lv2 := [(1, .int ((zi 0))), (0, .ref x0)]) C dX10_ticks_78 rfl (by decide) rfl ?_
    obtain ⟨o45, ho45, hf⟩ := zbind hf
    refine z_sub [1, 0] rfl ?_
    refine wsX10_ticks_79 C hRm _ zfuel (c8.1, (zi 0)) o45 ho45 ?_
    intro z9 e9
    subst e9
    refine z_sub [0] rfl ?_
    exact wjX10_ticks_117 C hRm _ _  _ hf hq

set_option maxRecDepth 100000 in
set_option maxHeartbeats 4000000 in
theorem wfX10_ticks (C : zC p s m args meth c cX10_ticks RX10 3 D Ca B En) (hRm : zRm R 7 159 cells slots) (σ : zS) (x0 : Nat) (τ : zS) (hf : fX10_ticks σ x0 = some τ) (hq : ∀ (pc : Nat) (lv : List (Nat × Value)), decode cX10_ticks pc = .ok (.return_, 1) → zW p l e R s m args below meth c cells slots Q D Ca B 3 τ N pc lv []) : zW p l e R s m args below meth c cells slots Q D Ca B 3 σ N 0 [(0, .ref x0)] [] := by
  unfold fX10_ticks at hf
  refine z_aload_n C dX10_ticks_0 rfl 0 rfl ?_
  obtain ⟨v1, hv1, hf⟩ := zbind hf
  refine gf_RX10_21 C hv1 dX10_ticks_1 ?_
  refine z_iconst C (zi 3) dX10_ticks_4 (by decide) ?_
  obtain ⟨v2, hv2, hf⟩ := zbind hf
  refine z_aI C hv2 dX10_ticks_5 ?_
  refine z_if_le C 45 dX10_ticks_6 (by decide) (fun q59 => ?_) (fun q59 => ?_)
  · rw [if_pos q59] at hf
    refine z_sub [0] rfl ?_
    exact wjX10_ticks_45 C hRm _ _  _ hf hq
  · rw [if_neg q59] at hf
    refine z_aload_n C dX10_ticks_9 rfl 0 rfl ?_
    obtain ⟨v47, hv47, hf⟩ := zbind hf
    refine gf_RX10_21 C hv47 dX10_ticks_10 ?_
    refine z_iconst C (zi 0) dX10_ticks_13 (by decide) ?_
    obtain ⟨v48, hv48, hf⟩ := zbind hf
    refine z_aI C hv48 dX10_ticks_14 ?_
    refine z_aload_n C dX10_ticks_15 rfl 0 rfl ?_
    obtain ⟨v49, hv49, hf⟩ := zbind hf
    refine gf_RX10_21 C hv49 dX10_ticks_16 ?_
    refine z_iconst C (zi 3) dX10_ticks_19 (by decide) ?_
    obtain ⟨v50, hv50, hf⟩ := zbind hf
    refine z_aI C hv50 dX10_ticks_20 ?_
    obtain ⟨d51, hd51, hf⟩ := zbind hf
    refine z_irem C dX10_ticks_21 (znz_ok hd51) ?_
    refine z_if_ne C 45 dX10_ticks_22 (by decide) (fun q58 => ?_) (fun q58 => ?_)
    · rw [if_neg q58] at hf
      refine z_sub [0] rfl ?_
      exact wjX10_ticks_45 C hRm _ _  _ hf hq
    · rw [if_pos q58] at hf
      refine z_aload_n C dX10_ticks_25 rfl 0 rfl ?_
      obtain ⟨v52, hv52, hf⟩ := zbind hf
      refine gf_RX10_21 C hv52 dX10_ticks_26 ?_
      refine z_bipush C (zi 67) dX10_ticks_29 (by decide) ?_
      obtain ⟨v53, hv53, hf⟩ := zbind hf
      refine z_aI C hv53 dX10_ticks_31 ?_
      refine z_if_ne C 45 dX10_ticks_32 (by decide) (fun q57 => ?_) (fun q57 => ?_)
      · rw [if_neg q57] at hf
        refine z_sub [0] rfl ?_
        exact wjX10_ticks_45 C hRm _ _  _ hf hq
      · rw [if_pos q57] at hf
        refine z_aload_n C dX10_ticks_35 rfl 0 rfl ?_
        refine z_aload_n C dX10_ticks_36 rfl 0 rfl ?_
        obtain ⟨v54, hv54, hf⟩ := zbind hf
        refine gf_RX10_21 C hv54 dX10_ticks_37 ?_
        refine z_iconst C (zi 4) dX10_ticks_40 (by decide) ?_
        obtain ⟨v55, hv55, hf⟩ := zbind hf
        refine z_aI C hv55 dX10_ticks_41 ?_
        obtain ⟨c56, hc56, hf⟩ := zbind hf
        obtain ⟨kc56, hc56⟩ := zck_ok hc56
        refine z_callVv (As := [.int v55]) (F0 := 7) (L0 := 159) C (mX10_begins l D Ca B En C.2.2.2.2.2.2.2.1 σ N x0 v55 _ hc56) hRm kc56 rfl kw_1404 kw_14 kw_1401 kw_1403 kp_40 hyX10_begins (Nat.le_of_ble_eq_true rfl) (Nat.le_of_ble_eq_true rfl) rfl rfl (Nat.le_of_ble_eq_true rfl) dX10_ticks_42 ?_
        refine z_sub [0] rfl ?_
        exact wjX10_ticks_45 C hRm _ _  _ hf hq

theorem mX10_ticks (l : Launch) (D : va_G) (Ca : Nat → ClassId) (B : Nat) (En : State → Prop) (hE : zEk B En) (σ : zS) (N : Nat) (x0 : Nat) (X : zS) (hf : fX10_ticks σ x0 = some X) : zMv l D Ca B En yX10_ticks cX10_ticks 3 (Option.none : Option Jvm.ClassFile.FieldType) 7 159 [.ref x0] σ N X () :=
  zMet_v (own := RX10) hE (by decide +kernel) rfl (Nat.le_of_ble_eq_true rfl) (fun p e s m args below meth c C hr hRm => wfX10_ticks C hRm σ x0 X hf (fun pc lv hd => zfin_v (r := ()) C hr hd))
theorem dX10_isTicks_0 : decode cX10_isTicks 0 = .ok (.iload_n 0, 1) := by decide +kernel
theorem dX10_isTicks_1 : decode cX10_isTicks 1 = .ok (.i2l, 1) := by decide +kernel
theorem dX10_isTicks_2 : decode cX10_isTicks 2 = .ok (.lconst 1, 1) := by decide +kernel
theorem dX10_isTicks_3 : decode cX10_isTicks 3 = .ok (.ldc2_w 245, 3) := by decide +kernel
theorem dX10_isTicks_6 : decode cX10_isTicks 6 = .ok (.invokestatic 247, 3) := by decide +kernel
theorem dX10_isTicks_9 : decode cX10_isTicks 9 = .ok (.ireturn, 1) := by decide +kernel
theorem hyX10_isTicks : yX10_isTicks.cls ≠ "java/lang/invoke/MethodHandle" ∧ yX10_isTicks.cls ≠ "java/lang/invoke/VarHandle" ∧ (parseMethodDescriptor yX10_isTicks.desc).map (fun d => d.parameters.length) = some 1 := ⟨by decide +kernel, by decide +kernel, by decide +kernel⟩
set_option maxRecDepth 100000 in
set_option maxHeartbeats 4000000 in
theorem wfX10_isTicks (C : zC p s m args meth c cX10_isTicks RX10 1 D Ca B En) (hRm : zRm R 1 25 cells slots) (σ : zS) (x0 : Int32) (τ : zS) (r : Int32) (hf : fX10_isTicks σ x0 = some (τ, r)) (hq : ∀ (pc : Nat) (lv : List (Nat × Value)), (r = 0 ∨ r = 1) → decode cX10_isTicks pc = .ok (.ireturn, 1) → zW p l e R s m args below meth c cells slots Q D Ca B 1 τ N pc lv [.int r]) : zW p l e R s m args below meth c cells slots Q D Ca B 1 σ N 0 [(0, .int x0)] [] := by
  unfold fX10_isTicks at hf
  refine z_iload_n C dX10_isTicks_0 rfl 0 rfl ?_
  refine z_i2l C dX10_isTicks_1 ?_
  refine z_lconst C 1 dX10_isTicks_2 (by decide) ?_
  refine z_ldc2 C kw_1389 dX10_isTicks_3 ?_
  obtain ⟨c1, hc1, hf⟩ := zbind hf
  refine z_callSi (As := [.long x0.toInt64, .long 1, .long 500]) (F0 := 1) (L0 := 25) C (mX10_isIn l D Ca B En C.2.2.2.2.2.2.2.1 σ N x0.toInt64 1 500 _ hc1) hRm kw_1392 kw_14 kw_1390 kw_1391 hyX10_isIn (Nat.le_of_ble_eq_true rfl) (Nat.le_of_ble_eq_true rfl) rfl rfl (Nat.le_of_ble_eq_true rfl) dX10_isTicks_6 ?_
  obtain ⟨e9, b9⟩ := zrZ_ok hf
  cases e9
  exact hq _ _ b9 dX10_isTicks_9

theorem mX10_isTicks (l : Launch) (D : va_G) (Ca : Nat → ClassId) (B : Nat) (En : State → Prop) (hE : zEk B En) (σ : zS) (N : Nat) (x0 : Int32) (X : zS × Int32) (hf : fX10_isTicks σ x0 = some X) : zMi l D Ca B En yX10_isTicks cX10_isTicks 1 (Option.some Jvm.ClassFile.FieldType.boolean) 1 25 [.int x0] σ N X.1 X.2 :=
  zMet_i (own := RX10) hE (by decide +kernel) rfl (Nat.le_of_ble_eq_true rfl) (fun p e s m args below meth c C hr hRm => wfX10_isTicks C hRm σ x0 X.1 X.2 hf (fun pc lv hb hd => zfin_z C hb hr hd))
theorem dX10_run_0 : decode cX10_run 0 = .ok (.aload_n 0, 1) := by decide +kernel
theorem dX10_run_1 : decode cX10_run 1 = .ok (.iload_n 1, 1) := by decide +kernel
theorem dX10_run_2 : decode cX10_run 2 = .ok (.invokestatic 251, 3) := by decide +kernel
theorem dX10_run_5 : decode cX10_run 5 = .ok (.invokevirtual 96, 3) := by decide +kernel
theorem dX10_run_8 : decode cX10_run 8 = .ok (.ifCond .ne 5, 3) := by decide +kernel
theorem dX10_run_11 : decode cX10_run 11 = .ok (.iconst 0, 1) := by decide +kernel
theorem dX10_run_12 : decode cX10_run 12 = .ok (.ireturn, 1) := by decide +kernel
theorem dX10_run_13 : decode cX10_run 13 = .ok (.aload_n 0, 1) := by decide +kernel
theorem dX10_run_14 : decode cX10_run 14 = .ok (.invokevirtual 254, 3) := by decide +kernel
theorem dX10_run_17 : decode cX10_run 17 = .ok (.aload_n 0, 1) := by decide +kernel
theorem dX10_run_18 : decode cX10_run 18 = .ok (.getfield 21, 3) := by decide +kernel
theorem dX10_run_21 : decode cX10_run 21 = .ok (.bipush 6, 2) := by decide +kernel
theorem dX10_run_23 : decode cX10_run 23 = .ok (.iaload, 1) := by decide +kernel
theorem dX10_run_24 : decode cX10_run 24 = .ok (.istore_n 2, 1) := by decide +kernel
theorem dX10_run_25 : decode cX10_run 25 = .ok (.iconst 0, 1) := by decide +kernel
theorem dX10_run_26 : decode cX10_run 26 = .ok (.istore_n 3, 1) := by decide +kernel
theorem dX10_run_27 : decode cX10_run 27 = .ok (.iload_n 3, 1) := by decide +kernel
theorem dX10_run_28 : decode cX10_run 28 = .ok (.iload_n 1, 1) := by decide +kernel
theorem dX10_run_29 : decode cX10_run 29 = .ok (.if_icmp .ge 13, 3) := by decide +kernel
theorem dX10_run_32 : decode cX10_run 32 = .ok (.aload_n 0, 1) := by decide +kernel
theorem dX10_run_33 : decode cX10_run 33 = .ok (.invokevirtual 257, 3) := by decide +kernel
theorem dX10_run_36 : decode cX10_run 36 = .ok (.iinc 3 1, 3) := by decide +kernel
theorem dX10_run_39 : decode cX10_run 39 = .ok (.goto (-12), 3) := by decide +kernel
theorem dX10_run_42 : decode cX10_run 42 = .ok (.aload_n 0, 1) := by decide +kernel
theorem dX10_run_43 : decode cX10_run 43 = .ok (.aload_n 0, 1) := by decide +kernel
theorem dX10_run_44 : decode cX10_run 44 = .ok (.getfield 21, 3) := by decide +kernel
theorem dX10_run_47 : decode cX10_run 47 = .ok (.bipush 6, 2) := by decide +kernel
theorem dX10_run_49 : decode cX10_run 49 = .ok (.iaload, 1) := by decide +kernel
theorem dX10_run_50 : decode cX10_run 50 = .ok (.iload_n 2, 1) := by decide +kernel
theorem dX10_run_51 : decode cX10_run 51 = .ok (.isub, 1) := by decide +kernel
theorem dX10_run_52 : decode cX10_run 52 = .ok (.invokevirtual 260, 3) := by decide +kernel
theorem dX10_run_55 : decode cX10_run 55 = .ok (.ireturn, 1) := by decide +kernel
theorem hyX10_run : yX10_run.cls ≠ "java/lang/invoke/MethodHandle" ∧ yX10_run.cls ≠ "java/lang/invoke/VarHandle" ∧ (parseMethodDescriptor yX10_run.desc).map (fun d => d.parameters.length) = some 1 := ⟨by decide +kernel, by decide +kernel, by decide +kernel⟩
set_option maxRecDepth 100000 in
set_option maxHeartbeats 4000000 in
theorem wsX10_run_27b (C : zC p s m args meth c cX10_run RX10 4 D Ca B En) (hRm : zRm R 8 181 cells slots) (x0 : Nat) (x1 : Int32) (x2 : Int32) (σ : zS) (u3 : Int32) (y : (zS × Int32) ⊕ zS) (hf : sX10_run_27b x0 x1 x2 σ u3 = some y) (hk : (∀ z : (zS × Int32), y = .inl z → zW p l e R s m args below meth c cells slots Q D Ca B 4 z.1 N 27 [(0, .ref x0), (1, .int x1), (2, .int x2), (3, .int z.2)] []) ∧ (∀ z : zS, y = .inr z → zW p l e R s m args below meth c cells slots Q D Ca B 4 z N 42 [(0, .ref x0), (2, .int x2)] [])) : zW p l e R s m args below meth c cells slots Q D Ca B 4 σ N 27 [(0, .ref x0), (1, .int x1), (2, .int x2), (3, .int u3)] [] := by
  unfold sX10_run_27b at hf
  refine z_iload_n C dX10_run_27 rfl 3 rfl ?_
  refine z_iload_n C dX10_run_28 rfl 1 rfl ?_
  refine z_icmp_ge C 42 dX10_run_29 (by decide) (fun q7 => ?_) (fun q7 => ?_)
  · rw [if_pos q7] at hf
    cases hf
    refine z_sub [0, 2] rfl ?_
    exact hk.2 _ rfl
  · rw [if_neg q7] at hf
    refine z_aload_n C dX10_run_32 rfl 0 rfl ?_
    obtain ⟨c6, hc6, hf⟩ := zbind hf
    obtain ⟨kc6, hc6⟩ := zck_ok hc6
    refine z_callVv (As := []) (F0 := 8) (L0 := 181) C (mX10_ticks l D Ca B En C.2.2.2.2.2.2.2.1 σ N x0  _ hc6) hRm kc6 rfl kw_1400 kw_14 kw_1397 kw_1399 kp_39 hyX10_ticks (Nat.le_of_ble_eq_true rfl) (Nat.le_of_ble_eq_true rfl) rfl rfl (Nat.le_of_ble_eq_true rfl) dX10_run_33 ?_
    refine z_iinc (lv2 := [(3, .int (u3 + (zi 1))), (0, .ref x0), (1, .int x1), (2, .int x2)]) C (u3 + (zi 1)) dX10_run_36 3 rfl rfl (by decide) rfl ?_
    refine z_goto C 27 dX10_run_39 (by decide) ?_
    cases hf
    refine z_sub [1, 2, 3, 0] rfl ?_
    exact hk.1 _ rfl

theorem wsX10_run_27 (C : zC p s m args meth c cX10_run RX10 4 D Ca B En) (hRm : zRm R 8 181 cells slots) (x0 : Nat) (x1 : Int32) (x2 : Int32) (n : Nat) (z : (zS × Int32)) (x : zS) (hf : zloop (sX10_run_27 x0 x1 x2) n z = some x) (hk : (∀ o : zS, x = o → zW p l e R s m args below meth c cells slots Q D Ca B 4 o N 42 [(0, .ref x0), (2, .int x2)] [])) : zW p l e R s m args below meth c cells slots Q D Ca B 4 z.1 N 27 [(0, .ref x0), (1, .int x1), (2, .int x2), (3, .int z.2)] [] := by
  refine zloop_W (P := fun z : (zS × Int32) => zW p l e R s m args below meth c cells slots Q D Ca B 4 z.1 N 27 [(0, .ref x0), (1, .int x1), (2, .int x2), (3, .int z.2)] []) (K := fun x : zS => (∀ o : zS, x = o → zW p l e R s m args below meth c cells slots Q D Ca B 4 o N 42 [(0, .ref x0), (2, .int x2)] [])) ?_ n z x hf hk
  intro z y hy h1 h2
  refine wsX10_run_27b C hRm x0 x1 x2 z.1 z.2 y hy ⟨fun z2 e => h1 z2 e, fun o e => (h2 _ e) o rfl⟩
set_option maxRecDepth 100000 in
set_option maxHeartbeats 4000000 in
theorem wfX10_run (C : zC p s m args meth c cX10_run RX10 4 D Ca B En) (hRm : zRm R 8 181 cells slots) (σ : zS) (x0 : Nat) (x1 : Int32) (τ : zS) (r : Int32) (hf : fX10_run σ x0 x1 = some (τ, r)) (hq : ∀ (pc : Nat) (lv : List (Nat × Value)), decode cX10_run pc = .ok (.ireturn, 1) → zW p l e R s m args below meth c cells slots Q D Ca B 4 τ N pc lv [.int r]) : zW p l e R s m args below meth c cells slots Q D Ca B 4 σ N 0 [(0, .ref x0), (1, .int x1)] [] := by
  unfold fX10_run at hf
  refine z_aload_n C dX10_run_0 rfl 0 rfl ?_
  refine z_iload_n C dX10_run_1 rfl 1 rfl ?_
  obtain ⟨c1, hc1, hf⟩ := zbind hf
  refine z_callSi (As := [.int x1]) (F0 := 8) (L0 := 181) C (mX10_isTicks l D Ca B En C.2.2.2.2.2.2.2.1 σ N x1 _ hc1) hRm kw_1388 kw_14 kw_1386 kw_1387 hyX10_isTicks (Nat.le_of_ble_eq_true rfl) (Nat.le_of_ble_eq_true rfl) rfl rfl (Nat.le_of_ble_eq_true rfl) dX10_run_2 ?_
  obtain ⟨c2, hc2, hf⟩ := zbind hf
  obtain ⟨kc2, hc2⟩ := zck_ok hc2
  refine z_callVi (As := [.int c1.2]) (F0 := 8) (L0 := 181) C (mX10_is l D Ca B En C.2.2.2.2.2.2.2.1 c1.1 N x0 c1.2 _ hc2) hRm kc2 rfl kw_1373 kw_14 kw_1370 kw_1372 kp_37 hyX10_is (Nat.le_of_ble_eq_true rfl) (Nat.le_of_ble_eq_true rfl) rfl rfl (Nat.le_of_ble_eq_true rfl) dX10_run_5 ?_
  refine z_if_ne C 13 dX10_run_8 (by decide) (fun q12 => ?_) (fun q12 => ?_)
  · rw [if_neg q12] at hf
    refine z_aload_n C dX10_run_13 rfl 0 rfl ?_
    obtain ⟨c3, hc3, hf⟩ := zbind hf
    obtain ⟨kc3, hc3⟩ := zck_ok hc3
    refine z_callVv (As := []) (F0 := 8) (L0 := 181) C (mX10_starts l D Ca B En C.2.2.2.2.2.2.2.1 c2.1 N x0  _ hc3) hRm kc3 rfl kw_1396 kw_14 kw_1393 kw_1395 kp_38 hyX10_starts (Nat.le_of_ble_eq_true rfl) (Nat.le_of_ble_eq_true rfl) rfl rfl (Nat.le_of_ble_eq_true rfl) dX10_run_14 ?_
    refine z_aload_n C dX10_run_17 rfl 0 rfl ?_
    obtain ⟨v4, hv4, hf⟩ := zbind hf
    refine gf_RX10_21 C hv4 dX10_run_18 ?_
    refine z_bipush C (zi 6) dX10_run_21 (by decide) ?_
    obtain ⟨v5, hv5, hf⟩ := zbind hf
    refine z_aI C hv5 dX10_run_23 ?_
    refine z_istore_n (lv2 := [(2, .int v5), (0, .ref x0), (1, .int x1)]) C dX10_run_24 rfl (by decide) rfl ?_
    refine z_iconst C (zi 0) dX10_run_25 (by decide) ?_
    refine z_istore_n (lv2 := [(3, .int ((zi 0))), (2, .int v5), (0, .ref x0), (1, .int x1)]) C dX10_run_26 rfl (by decide) rfl ?_
    obtain ⟨o8, ho8, hf⟩ := zbind hf
    refine z_sub [2, 3, 1, 0] rfl ?_
    refine wsX10_run_27 C hRm _ _ _ zfuel (c3, (zi 0)) o8 ho8 ?_
    intro z9 e9
    subst e9
    refine z_aload_n C dX10_run_42 rfl 0 rfl ?_
    refine z_aload_n C dX10_run_43 rfl 0 rfl ?_
    obtain ⟨v9, hv9, hf⟩ := zbind hf
    refine gf_RX10_21 C hv9 dX10_run_44 ?_
    refine z_bipush C (zi 6) dX10_run_47 (by decide) ?_
    obtain ⟨v10, hv10, hf⟩ := zbind hf
    refine z_aI C hv10 dX10_run_49 ?_
    refine z_iload_n C dX10_run_50 rfl 1 rfl ?_
    refine z_isub C dX10_run_51 ?_
    obtain ⟨c11, hc11, hf⟩ := zbind hf
    obtain ⟨kc11, hc11⟩ := zck_ok hc11
    refine z_callVi (As := [.int (v10 - v5)]) (F0 := 8) (L0 := 181) C (mX10_done l D Ca B En C.2.2.2.2.2.2.2.1 o8 N x0 (v10 - v5) _ hc11) hRm kc11 rfl kw_1578 kw_14 kw_1575 kw_1577 kp_76 hyX10_done (Nat.le_of_ble_eq_true rfl) (Nat.le_of_ble_eq_true rfl) rfl rfl (Nat.le_of_ble_eq_true rfl) dX10_run_52 ?_
    cases hf
    exact hq _ _ dX10_run_55
  · rw [if_pos q12] at hf
    refine z_iconst C (zi 0) dX10_run_11 (by decide) ?_
    cases hf
    exact hq _ _ dX10_run_12

theorem mX10_run (l : Launch) (D : va_G) (Ca : Nat → ClassId) (B : Nat) (En : State → Prop) (hE : zEk B En) (σ : zS) (N : Nat) (x0 : Nat) (x1 : Int32) (X : zS × Int32) (hf : fX10_run σ x0 x1 = some X) : zMi l D Ca B En yX10_run cX10_run 4 (Option.some Jvm.ClassFile.FieldType.int) 8 181 [.ref x0, .int x1] σ N X.1 X.2 :=
  zMet_i (own := RX10) hE (by decide +kernel) rfl (Nat.le_of_ble_eq_true rfl) (fun p e s m args below meth c C hr hRm => wfX10_run C hRm σ x0 x1 X.1 X.2 hf (fun pc lv hd => zfin_i C hr hd))
theorem dX10_begin_0 : decode cX10_begin 0 = .ok (.aload_n 0, 1) := by decide +kernel
theorem dX10_begin_1 : decode cX10_begin 1 = .ok (.aload_n 0, 1) := by decide +kernel
theorem dX10_begin_2 : decode cX10_begin 2 = .ok (.getfield 21, 3) := by decide +kernel
theorem dX10_begin_5 : decode cX10_begin 5 = .ok (.bipush 67, 2) := by decide +kernel
theorem dX10_begin_7 : decode cX10_begin 7 = .ok (.iaload, 1) := by decide +kernel
theorem dX10_begin_8 : decode cX10_begin 8 = .ok (.ifCond .ne 7, 3) := by decide +kernel
theorem dX10_begin_11 : decode cX10_begin 11 = .ok (.iconst 1, 1) := by decide +kernel
theorem dX10_begin_12 : decode cX10_begin 12 = .ok (.goto 4, 3) := by decide +kernel
theorem dX10_begin_15 : decode cX10_begin 15 = .ok (.iconst 0, 1) := by decide +kernel
theorem dX10_begin_16 : decode cX10_begin 16 = .ok (.invokevirtual 96, 3) := by decide +kernel
theorem dX10_begin_19 : decode cX10_begin 19 = .ok (.ifCond .ne 5, 3) := by decide +kernel
theorem dX10_begin_22 : decode cX10_begin 22 = .ok (.iconst 0, 1) := by decide +kernel
theorem dX10_begin_23 : decode cX10_begin 23 = .ok (.ireturn, 1) := by decide +kernel
theorem dX10_begin_24 : decode cX10_begin 24 = .ok (.aload_n 0, 1) := by decide +kernel
theorem dX10_begin_25 : decode cX10_begin 25 = .ok (.invokevirtual 254, 3) := by decide +kernel
theorem dX10_begin_28 : decode cX10_begin 28 = .ok (.aload_n 0, 1) := by decide +kernel
theorem dX10_begin_29 : decode cX10_begin 29 = .ok (.iload_n 1, 1) := by decide +kernel
theorem dX10_begin_30 : decode cX10_begin 30 = .ok (.ifCond .eq 7, 3) := by decide +kernel
theorem dX10_begin_33 : decode cX10_begin 33 = .ok (.iconst 1, 1) := by decide +kernel
theorem dX10_begin_34 : decode cX10_begin 34 = .ok (.goto 4, 3) := by decide +kernel
theorem dX10_begin_37 : decode cX10_begin 37 = .ok (.iconst 0, 1) := by decide +kernel
theorem dX10_begin_38 : decode cX10_begin 38 = .ok (.invokevirtual 218, 3) := by decide +kernel
theorem dX10_begin_41 : decode cX10_begin 41 = .ok (.aload_n 0, 1) := by decide +kernel
theorem dX10_begin_42 : decode cX10_begin 42 = .ok (.aload_n 0, 1) := by decide +kernel
theorem dX10_begin_43 : decode cX10_begin 43 = .ok (.getfield 21, 3) := by decide +kernel
theorem dX10_begin_46 : decode cX10_begin 46 = .ok (.iconst 5, 1) := by decide +kernel
theorem dX10_begin_47 : decode cX10_begin 47 = .ok (.iaload, 1) := by decide +kernel
theorem dX10_begin_48 : decode cX10_begin 48 = .ok (.invokevirtual 260, 3) := by decide +kernel
theorem dX10_begin_51 : decode cX10_begin 51 = .ok (.ireturn, 1) := by decide +kernel
theorem hyX10_begin : yX10_begin.cls ≠ "java/lang/invoke/MethodHandle" ∧ yX10_begin.cls ≠ "java/lang/invoke/VarHandle" ∧ (parseMethodDescriptor yX10_begin.desc).map (fun d => d.parameters.length) = some 1 := ⟨by decide +kernel, by decide +kernel, by decide +kernel⟩
set_option maxRecDepth 100000 in
set_option maxHeartbeats 4000000 in
theorem wjX10_begin_38 (C : zC p s m args meth c cX10_begin RX10 2 D Ca B En) (hRm : zRm R 4 86 cells slots) (σ : zS) (x0 : Nat) (y0 : Int32) (y1 : Nat) (τ : zS) (r : Int32) (hf : jX10_begin_38 σ x0 y0 y1 = some (τ, r)) (hq : ∀ (pc : Nat) (lv : List (Nat × Value)), decode cX10_begin pc = .ok (.ireturn, 1) → zW p l e R s m args below meth c cells slots Q D Ca B 2 τ N pc lv [.int r]) : zW p l e R s m args below meth c cells slots Q D Ca B 2 σ N 38 [(0, .ref x0)] [.int y0, .ref y1] := by
  unfold jX10_begin_38 at hf
  obtain ⟨c5, hc5, hf⟩ := zbind hf
  obtain ⟨kc5, hc5⟩ := zck_ok hc5
  refine z_callVv (As := [.int y0]) (F0 := 4) (L0 := 86) C (mX10_begins l D Ca B En C.2.2.2.2.2.2.2.1 σ N y1 y0 _ hc5) hRm kc5 rfl kw_1404 kw_14 kw_1401 kw_1403 kp_40 hyX10_begins (Nat.le_of_ble_eq_true rfl) (Nat.le_of_ble_eq_true rfl) rfl rfl (Nat.le_of_ble_eq_true rfl) dX10_begin_38 ?_
  refine z_aload_n C dX10_begin_41 rfl 0 rfl ?_
  refine z_aload_n C dX10_begin_42 rfl 0 rfl ?_
  obtain ⟨v6, hv6, hf⟩ := zbind hf
  refine gf_RX10_21 C hv6 dX10_begin_43 ?_
  refine z_iconst C (zi 5) dX10_begin_46 (by decide) ?_
  obtain ⟨v7, hv7, hf⟩ := zbind hf
  refine z_aI C hv7 dX10_begin_47 ?_
  obtain ⟨c8, hc8, hf⟩ := zbind hf
  obtain ⟨kc8, hc8⟩ := zck_ok hc8
  refine z_callVi (As := [.int v7]) (F0 := 4) (L0 := 86) C (mX10_done l D Ca B En C.2.2.2.2.2.2.2.1 c5 N x0 v7 _ hc8) hRm kc8 rfl kw_1578 kw_14 kw_1575 kw_1577 kp_76 hyX10_done (Nat.le_of_ble_eq_true rfl) (Nat.le_of_ble_eq_true rfl) rfl rfl (Nat.le_of_ble_eq_true rfl) dX10_begin_48 ?_
  cases hf
  exact hq _ _ dX10_begin_51

set_option maxRecDepth 100000 in
set_option maxHeartbeats 4000000 in
theorem wjX10_begin_16 (C : zC p s m args meth c cX10_begin RX10 2 D Ca B En) (hRm : zRm R 4 86 cells slots) (σ : zS) (x0 : Nat) (x1 : Int32) (y0 : Int32) (y1 : Nat) (τ : zS) (r : Int32) (hf : jX10_begin_16 σ x0 x1 y0 y1 = some (τ, r)) (hq : ∀ (pc : Nat) (lv : List (Nat × Value)), decode cX10_begin pc = .ok (.ireturn, 1) → zW p l e R s m args below meth c cells slots Q D Ca B 2 τ N pc lv [.int r]) : zW p l e R s m args below meth c cells slots Q D Ca B 2 σ N 16 [(0, .ref x0), (1, .int x1)] [.int y0, .ref y1] := by
  unfold jX10_begin_16 at hf
  obtain ⟨c3, hc3, hf⟩ := zbind hf
  obtain ⟨kc3, hc3⟩ := zck_ok hc3
  refine z_callVi (As := [.int y0]) (F0 := 4) (L0 := 86) C (mX10_is l D Ca B En C.2.2.2.2.2.2.2.1 σ N y1 y0 _ hc3) hRm kc3 rfl kw_1373 kw_14 kw_1370 kw_1372 kp_37 hyX10_is (Nat.le_of_ble_eq_true rfl) (Nat.le_of_ble_eq_true rfl) rfl rfl (Nat.le_of_ble_eq_true rfl) dX10_begin_16 ?_
  refine z_if_ne C 24 dX10_begin_19 (by decide) (fun q10 => ?_) (fun q10 => ?_)
  · rw [if_neg q10] at hf
    refine z_aload_n C dX10_begin_24 rfl 0 rfl ?_
    obtain ⟨c4, hc4, hf⟩ := zbind hf
    obtain ⟨kc4, hc4⟩ := zck_ok hc4
    refine z_callVv (As := []) (F0 := 4) (L0 := 86) C (mX10_starts l D Ca B En C.2.2.2.2.2.2.2.1 c3.1 N x0  _ hc4) hRm kc4 rfl kw_1396 kw_14 kw_1393 kw_1395 kp_38 hyX10_starts (Nat.le_of_ble_eq_true rfl) (Nat.le_of_ble_eq_true rfl) rfl rfl (Nat.le_of_ble_eq_true rfl) dX10_begin_25 ?_
    refine z_aload_n C dX10_begin_28 rfl 0 rfl ?_
    refine z_iload_n C dX10_begin_29 rfl 1 rfl ?_
    refine z_if_eq C 37 dX10_begin_30 (by decide) (fun q9 => ?_) (fun q9 => ?_)
    · rw [if_pos q9] at hf
      refine z_iconst C (zi 0) dX10_begin_37 (by decide) ?_
      refine z_sub [0] rfl ?_
      exact wjX10_begin_38 C hRm _ _ _ _ _ _ hf hq
    · rw [if_neg q9] at hf
      refine z_iconst C (zi 1) dX10_begin_33 (by decide) ?_
      refine z_goto C 38 dX10_begin_34 (by decide) ?_
      refine z_sub [0] rfl ?_
      exact wjX10_begin_38 C hRm _ _ _ _ _ _ hf hq
  · rw [if_pos q10] at hf
    refine z_iconst C (zi 0) dX10_begin_22 (by decide) ?_
    cases hf
    exact hq _ _ dX10_begin_23

set_option maxRecDepth 100000 in
set_option maxHeartbeats 4000000 in
theorem wfX10_begin (C : zC p s m args meth c cX10_begin RX10 2 D Ca B En) (hRm : zRm R 4 86 cells slots) (σ : zS) (x0 : Nat) (x1 : Int32) (τ : zS) (r : Int32) (hf : fX10_begin σ x0 x1 = some (τ, r)) (hq : ∀ (pc : Nat) (lv : List (Nat × Value)), decode cX10_begin pc = .ok (.ireturn, 1) → zW p l e R s m args below meth c cells slots Q D Ca B 2 τ N pc lv [.int r]) : zW p l e R s m args below meth c cells slots Q D Ca B 2 σ N 0 [(0, .ref x0), (1, .int x1)] [] := by
  unfold fX10_begin at hf
  refine z_aload_n C dX10_begin_0 rfl 0 rfl ?_
  refine z_aload_n C dX10_begin_1 rfl 0 rfl ?_
  obtain ⟨v1, hv1, hf⟩ := zbind hf
  refine gf_RX10_21 C hv1 dX10_begin_2 ?_
  refine z_bipush C (zi 67) dX10_begin_5 (by decide) ?_
  obtain ⟨v2, hv2, hf⟩ := zbind hf
  refine z_aI C hv2 dX10_begin_7 ?_
  refine z_if_ne C 15 dX10_begin_8 (by decide) (fun q11 => ?_) (fun q11 => ?_)
  · rw [if_neg q11] at hf
    refine z_iconst C (zi 0) dX10_begin_15 (by decide) ?_
    refine z_sub [0, 1] rfl ?_
    exact wjX10_begin_16 C hRm _ _ _ _ _ _ _ hf hq
  · rw [if_pos q11] at hf
    refine z_iconst C (zi 1) dX10_begin_11 (by decide) ?_
    refine z_goto C 16 dX10_begin_12 (by decide) ?_
    refine z_sub [0, 1] rfl ?_
    exact wjX10_begin_16 C hRm _ _ _ _ _ _ _ hf hq

theorem mX10_begin (l : Launch) (D : va_G) (Ca : Nat → ClassId) (B : Nat) (En : State → Prop) (hE : zEk B En) (σ : zS) (N : Nat) (x0 : Nat) (x1 : Int32) (X : zS × Int32) (hf : fX10_begin σ x0 x1 = some X) : zMi l D Ca B En yX10_begin cX10_begin 2 (Option.some Jvm.ClassFile.FieldType.int) 4 86 [.ref x0, .int x1] σ N X.1 X.2 :=
  zMet_i (own := RX10) hE (by decide +kernel) rfl (Nat.le_of_ble_eq_true rfl) (fun p e s m args below meth c C hr hRm => wfX10_begin C hRm σ x0 x1 X.1 X.2 hf (fun pc lv hd => zfin_i C hr hd))
theorem dX10_risk_0 : decode cX10_risk 0 = .ok (.iconst 0, 1) := by decide +kernel
theorem dX10_risk_1 : decode cX10_risk 1 = .ok (.istore_n 1, 1) := by decide +kernel
theorem dX10_risk_2 : decode cX10_risk 2 = .ok (.iconst 0, 1) := by decide +kernel
theorem dX10_risk_3 : decode cX10_risk 3 = .ok (.istore_n 2, 1) := by decide +kernel
theorem dX10_risk_4 : decode cX10_risk 4 = .ok (.iload_n 2, 1) := by decide +kernel
theorem dX10_risk_5 : decode cX10_risk 5 = .ok (.aload_n 0, 1) := by decide +kernel
theorem dX10_risk_6 : decode cX10_risk 6 = .ok (.getfield 75, 3) := by decide +kernel
theorem dX10_risk_9 : decode cX10_risk 9 = .ok (.if_icmp .ge 31, 3) := by decide +kernel
theorem dX10_risk_12 : decode cX10_risk 12 = .ok (.iload_n 1, 1) := by decide +kernel
theorem dX10_risk_13 : decode cX10_risk 13 = .ok (.aload_n 0, 1) := by decide +kernel
theorem dX10_risk_14 : decode cX10_risk 14 = .ok (.getfield 21, 3) := by decide +kernel
theorem dX10_risk_17 : decode cX10_risk 17 = .ok (.bipush 13, 2) := by decide +kernel
theorem dX10_risk_19 : decode cX10_risk 19 = .ok (.iload_n 2, 1) := by decide +kernel
theorem dX10_risk_20 : decode cX10_risk 20 = .ok (.iadd, 1) := by decide +kernel
theorem dX10_risk_21 : decode cX10_risk 21 = .ok (.iaload, 1) := by decide +kernel
theorem dX10_risk_22 : decode cX10_risk 22 = .ok (.iadd, 1) := by decide +kernel
theorem dX10_risk_23 : decode cX10_risk 23 = .ok (.aload_n 0, 1) := by decide +kernel
theorem dX10_risk_24 : decode cX10_risk 24 = .ok (.getfield 21, 3) := by decide +kernel
theorem dX10_risk_27 : decode cX10_risk 27 = .ok (.bipush 124, 2) := by decide +kernel
theorem dX10_risk_29 : decode cX10_risk 29 = .ok (.iload_n 2, 1) := by decide +kernel
theorem dX10_risk_30 : decode cX10_risk 30 = .ok (.iadd, 1) := by decide +kernel
theorem dX10_risk_31 : decode cX10_risk 31 = .ok (.iaload, 1) := by decide +kernel
theorem dX10_risk_32 : decode cX10_risk 32 = .ok (.isub, 1) := by decide +kernel
theorem dX10_risk_33 : decode cX10_risk 33 = .ok (.istore_n 1, 1) := by decide +kernel
theorem dX10_risk_34 : decode cX10_risk 34 = .ok (.iinc 2 1, 3) := by decide +kernel
theorem dX10_risk_37 : decode cX10_risk 37 = .ok (.goto (-33), 3) := by decide +kernel
theorem dX10_risk_40 : decode cX10_risk 40 = .ok (.iload_n 1, 1) := by decide +kernel
theorem dX10_risk_41 : decode cX10_risk 41 = .ok (.ireturn, 1) := by decide +kernel
theorem hyX10_risk : yX10_risk.cls ≠ "java/lang/invoke/MethodHandle" ∧ yX10_risk.cls ≠ "java/lang/invoke/VarHandle" ∧ (parseMethodDescriptor yX10_risk.desc).map (fun d => d.parameters.length) = some 0 := ⟨by decide +kernel, by decide +kernel, by decide +kernel⟩
set_option maxRecDepth 100000 in
set_option maxHeartbeats 4000000 in
theorem wsX10_risk_4b (C : zC p s m args meth c cX10_risk RX10 3 D Ca B En) (hRm : zRm R 0 0 cells slots) (x0 : Nat) (σ : zS) (u1 : Int32) (u2 : Int32) (y : (zS × Int32 × Int32) ⊕ (zS × Int32)) (hf : sX10_risk_4b x0 σ u1 u2 = some y) (hk : (∀ z : (zS × Int32 × Int32), y = .inl z → zW p l e R s m args below meth c cells slots Q D Ca B 3 z.1 N 4 [(0, .ref x0), (1, .int z.2.1), (2, .int z.2.2)] []) ∧ (∀ z : (zS × Int32), y = .inr z → zW p l e R s m args below meth c cells slots Q D Ca B 3 z.1 N 40 [(1, .int z.2)] [])) : zW p l e R s m args below meth c cells slots Q D Ca B 3 σ N 4 [(0, .ref x0), (1, .int u1), (2, .int u2)] [] := by
  unfold sX10_risk_4b at hf
  refine z_iload_n C dX10_risk_4 rfl 2 rfl ?_
  refine z_aload_n C dX10_risk_5 rfl 0 rfl ?_
  obtain ⟨v1, hv1, hf⟩ := zbind hf
  refine gf_RX10_75 C hv1 dX10_risk_6 ?_
  refine z_icmp_ge C 40 dX10_risk_9 (by decide) (fun q6 => ?_) (fun q6 => ?_)
  · rw [if_pos q6] at hf
    cases hf
    refine z_sub [1] rfl ?_
    exact hk.2 _ rfl
  · rw [if_neg q6] at hf
    refine z_iload_n C dX10_risk_12 rfl 1 rfl ?_
    refine z_aload_n C dX10_risk_13 rfl 0 rfl ?_
    obtain ⟨v2, hv2, hf⟩ := zbind hf
    refine gf_RX10_21 C hv2 dX10_risk_14 ?_
    refine z_bipush C (zi 13) dX10_risk_17 (by decide) ?_
    refine z_iload_n C dX10_risk_19 rfl 2 rfl ?_
    refine z_iadd C dX10_risk_20 ?_
    obtain ⟨v3, hv3, hf⟩ := zbind hf
    refine z_aI C hv3 dX10_risk_21 ?_
    refine z_iadd C dX10_risk_22 ?_
    refine z_aload_n C dX10_risk_23 rfl 0 rfl ?_
    obtain ⟨v4, hv4, hf⟩ := zbind hf
    refine gf_RX10_21 C hv4 dX10_risk_24 ?_
    refine z_bipush C (zi 124) dX10_risk_27 (by decide) ?_
    refine z_iload_n C dX10_risk_29 rfl 2 rfl ?_
    refine z_iadd C dX10_risk_30 ?_
    obtain ⟨v5, hv5, hf⟩ := zbind hf
    refine z_aI C hv5 dX10_risk_31 ?_
    refine z_isub C dX10_risk_32 ?_
    refine z_istore_n (lv2 := [(1, .int ((u1 + v3) - v5)), (0, .ref x0), (2, .int u2)]) C dX10_risk_33 rfl (by decide) rfl ?_
    refine z_iinc (lv2 := [(2, .int (u2 + (zi 1))), (1, .int ((u1 + v3) - v5)), (0, .ref x0)]) C (u2 + (zi 1)) dX10_risk_34 2 rfl rfl (by decide) rfl ?_
    refine z_goto C 4 dX10_risk_37 (by decide) ?_
    cases hf
    refine z_sub [2, 1, 0] rfl ?_
    exact hk.1 _ rfl

theorem wsX10_risk_4 (C : zC p s m args meth c cX10_risk RX10 3 D Ca B En) (hRm : zRm R 0 0 cells slots) (x0 : Nat) (n : Nat) (z : (zS × Int32 × Int32)) (x : (zS × Int32)) (hf : zloop (sX10_risk_4 x0) n z = some x) (hk : (∀ o : (zS × Int32), x = o → zW p l e R s m args below meth c cells slots Q D Ca B 3 o.1 N 40 [(1, .int o.2)] [])) : zW p l e R s m args below meth c cells slots Q D Ca B 3 z.1 N 4 [(0, .ref x0), (1, .int z.2.1), (2, .int z.2.2)] [] := by
  refine zloop_W (P := fun z : (zS × Int32 × Int32) => zW p l e R s m args below meth c cells slots Q D Ca B 3 z.1 N 4 [(0, .ref x0), (1, .int z.2.1), (2, .int z.2.2)] []) (K := fun x : (zS × Int32) => (∀ o : (zS × Int32), x = o → zW p l e R s m args below meth c cells slots Q D Ca B 3 o.1 N 40 [(1, .int o.2)] [])) ?_ n z x hf hk
  intro z y hy h1 h2
  refine wsX10_risk_4b C hRm x0 z.1 z.2.1 z.2.2 y hy ⟨fun z2 e => h1 z2 e, fun o e => (h2 _ e) o rfl⟩
set_option maxRecDepth 100000 in
set_option maxHeartbeats 4000000 in
theorem wfX10_risk (C : zC p s m args meth c cX10_risk RX10 3 D Ca B En) (hRm : zRm R 0 0 cells slots) (σ : zS) (x0 : Nat) (τ : zS) (r : Int32) (hf : fX10_risk σ x0 = some (τ, r)) (hq : ∀ (pc : Nat) (lv : List (Nat × Value)), decode cX10_risk pc = .ok (.ireturn, 1) → zW p l e R s m args below meth c cells slots Q D Ca B 3 τ N pc lv [.int r]) : zW p l e R s m args below meth c cells slots Q D Ca B 3 σ N 0 [(0, .ref x0)] [] := by
  unfold fX10_risk at hf
  refine z_iconst C (zi 0) dX10_risk_0 (by decide) ?_
  refine z_istore_n (lv2 := [(1, .int ((zi 0))), (0, .ref x0)]) C dX10_risk_1 rfl (by decide) rfl ?_
  refine z_iconst C (zi 0) dX10_risk_2 (by decide) ?_
  refine z_istore_n (lv2 := [(2, .int ((zi 0))), (1, .int ((zi 0))), (0, .ref x0)]) C dX10_risk_3 rfl (by decide) rfl ?_
  obtain ⟨o7, ho7, hf⟩ := zbind hf
  refine z_sub [2, 1, 0] rfl ?_
  refine wsX10_risk_4 C hRm _ zfuel (σ, (zi 0), (zi 0)) o7 ho7 ?_
  intro z9 e9
  subst e9
  refine z_iload_n C dX10_risk_40 rfl 0 rfl ?_
  cases hf
  exact hq _ _ dX10_risk_41

theorem mX10_risk (l : Launch) (D : va_G) (Ca : Nat → ClassId) (B : Nat) (En : State → Prop) (hE : zEk B En) (σ : zS) (N : Nat) (x0 : Nat) (X : zS × Int32) (hf : fX10_risk σ x0 = some X) : zMi l D Ca B En yX10_risk cX10_risk 3 (Option.some Jvm.ClassFile.FieldType.int) 0 0 [.ref x0] σ N X.1 X.2 :=
  zMet_i (own := RX10) hE (by decide +kernel) rfl (Nat.le_of_ble_eq_true rfl) (fun p e s m args below meth c C hr hRm => wfX10_risk C hRm σ x0 X.1 X.2 hf (fun pc lv hd => zfin_i C hr hd))
theorem dX10_laysDone_0 : decode cX10_laysDone 0 = .ok (.iconst 0, 1) := by decide +kernel
theorem dX10_laysDone_1 : decode cX10_laysDone 1 = .ok (.istore_n 1, 1) := by decide +kernel
theorem dX10_laysDone_2 : decode cX10_laysDone 2 = .ok (.iload_n 1, 1) := by decide +kernel
theorem dX10_laysDone_3 : decode cX10_laysDone 3 = .ok (.iconst 4, 1) := by decide +kernel
theorem dX10_laysDone_4 : decode cX10_laysDone 4 = .ok (.if_icmp .ge 63, 3) := by decide +kernel
theorem dX10_laysDone_7 : decode cX10_laysDone 7 = .ok (.iconst 0, 1) := by decide +kernel
theorem dX10_laysDone_8 : decode cX10_laysDone 8 = .ok (.istore_n 2, 1) := by decide +kernel
theorem dX10_laysDone_9 : decode cX10_laysDone 9 = .ok (.iload_n 2, 1) := by decide +kernel
theorem dX10_laysDone_10 : decode cX10_laysDone 10 = .ok (.iconst 4, 1) := by decide +kernel
theorem dX10_laysDone_11 : decode cX10_laysDone 11 = .ok (.if_icmp .ge 23, 3) := by decide +kernel
theorem dX10_laysDone_14 : decode cX10_laysDone 14 = .ok (.aload_n 0, 1) := by decide +kernel
theorem dX10_laysDone_15 : decode cX10_laysDone 15 = .ok (.iload_n 2, 1) := by decide +kernel
theorem dX10_laysDone_16 : decode cX10_laysDone 16 = .ok (.iload_n 1, 1) := by decide +kernel
theorem dX10_laysDone_17 : decode cX10_laysDone 17 = .ok (.invokestatic 176, 3) := by decide +kernel
theorem dX10_laysDone_20 : decode cX10_laysDone 20 = .ok (.iload_n 2, 1) := by decide +kernel
theorem dX10_laysDone_21 : decode cX10_laysDone 21 = .ok (.iload_n 1, 1) := by decide +kernel
theorem dX10_laysDone_22 : decode cX10_laysDone 22 = .ok (.invokestatic 140, 3) := by decide +kernel
theorem dX10_laysDone_25 : decode cX10_laysDone 25 = .ok (.invokevirtual 143, 3) := by decide +kernel
theorem dX10_laysDone_28 : decode cX10_laysDone 28 = .ok (.iinc 2 1, 3) := by decide +kernel
theorem dX10_laysDone_31 : decode cX10_laysDone 31 = .ok (.goto (-22), 3) := by decide +kernel
theorem dX10_laysDone_34 : decode cX10_laysDone 34 = .ok (.iconst 0, 1) := by decide +kernel
theorem dX10_laysDone_35 : decode cX10_laysDone 35 = .ok (.istore_n 2, 1) := by decide +kernel
theorem dX10_laysDone_36 : decode cX10_laysDone 36 = .ok (.iload_n 2, 1) := by decide +kernel
theorem dX10_laysDone_37 : decode cX10_laysDone 37 = .ok (.iconst 2, 1) := by decide +kernel
theorem dX10_laysDone_38 : decode cX10_laysDone 38 = .ok (.if_icmp .ge 23, 3) := by decide +kernel
theorem dX10_laysDone_41 : decode cX10_laysDone 41 = .ok (.aload_n 0, 1) := by decide +kernel
theorem dX10_laysDone_42 : decode cX10_laysDone 42 = .ok (.iload_n 1, 1) := by decide +kernel
theorem dX10_laysDone_43 : decode cX10_laysDone 43 = .ok (.iload_n 2, 1) := by decide +kernel
theorem dX10_laysDone_44 : decode cX10_laysDone 44 = .ok (.invokestatic 152, 3) := by decide +kernel
theorem dX10_laysDone_47 : decode cX10_laysDone 47 = .ok (.iload_n 1, 1) := by decide +kernel
theorem dX10_laysDone_48 : decode cX10_laysDone 48 = .ok (.iload_n 2, 1) := by decide +kernel
theorem dX10_laysDone_49 : decode cX10_laysDone 49 = .ok (.invokestatic 146, 3) := by decide +kernel
theorem dX10_laysDone_52 : decode cX10_laysDone 52 = .ok (.invokevirtual 143, 3) := by decide +kernel
theorem dX10_laysDone_55 : decode cX10_laysDone 55 = .ok (.iinc 2 1, 3) := by decide +kernel
theorem dX10_laysDone_58 : decode cX10_laysDone 58 = .ok (.goto (-22), 3) := by decide +kernel
theorem dX10_laysDone_61 : decode cX10_laysDone 61 = .ok (.iinc 1 1, 3) := by decide +kernel
theorem dX10_laysDone_64 : decode cX10_laysDone 64 = .ok (.goto (-62), 3) := by decide +kernel
theorem dX10_laysDone_67 : decode cX10_laysDone 67 = .ok (.return_, 1) := by decide +kernel
theorem hyX10_laysDone : yX10_laysDone.cls ≠ "java/lang/invoke/MethodHandle" ∧ yX10_laysDone.cls ≠ "java/lang/invoke/VarHandle" ∧ (parseMethodDescriptor yX10_laysDone.desc).map (fun d => d.parameters.length) = some 0 := ⟨by decide +kernel, by decide +kernel, by decide +kernel⟩
set_option maxRecDepth 100000 in
set_option maxHeartbeats 4000000 in
theorem wsX10_laysDone_9b (C : zC p s m args meth c cX10_laysDone RX10 3 D Ca B En) (hRm : zRm R 3 67 cells slots) (x0 : Nat) (x1 : Int32) (σ : zS) (u2 : Int32) (y : (zS × Int32) ⊕ zS) (hf : sX10_laysDone_9b x0 x1 σ u2 = some y) (hk : (∀ z : (zS × Int32), y = .inl z → zW p l e R s m args below meth c cells slots Q D Ca B 3 z.1 N 9 [(0, .ref x0), (1, .int x1), (2, .int z.2)] []) ∧ (∀ z : zS, y = .inr z → zW p l e R s m args below meth c cells slots Q D Ca B 3 z N 34 [(0, .ref x0), (1, .int x1)] [])) : zW p l e R s m args below meth c cells slots Q D Ca B 3 σ N 9 [(0, .ref x0), (1, .int x1), (2, .int u2)] [] := by
  unfold sX10_laysDone_9b at hf
  refine z_iload_n C dX10_laysDone_9 rfl 2 rfl ?_
  refine z_iconst C (zi 4) dX10_laysDone_10 (by decide) ?_
  refine z_icmp_ge C 34 dX10_laysDone_11 (by decide) (fun q4 => ?_) (fun q4 => ?_)
  · rw [if_pos q4] at hf
    cases hf
    refine z_sub [0, 1] rfl ?_
    exact hk.2 _ rfl
  · rw [if_neg q4] at hf
    refine z_aload_n C dX10_laysDone_14 rfl 0 rfl ?_
    refine z_iload_n C dX10_laysDone_15 rfl 2 rfl ?_
    refine z_iload_n C dX10_laysDone_16 rfl 1 rfl ?_
    obtain ⟨c1, hc1, hf⟩ := zbind hf
    refine z_callSi (As := [.int u2, .int x1]) (F0 := 3) (L0 := 67) C (mX10_toInstance l D Ca B En C.2.2.2.2.2.2.2.1 σ N u2 x1 _ hc1) hRm kw_1450 kw_14 kw_1448 kw_1449 hyX10_toInstance (Nat.le_of_ble_eq_true rfl) (Nat.le_of_ble_eq_true rfl) rfl rfl (Nat.le_of_ble_eq_true rfl) dX10_laysDone_17 ?_
    refine z_iload_n C dX10_laysDone_20 rfl 2 rfl ?_
    refine z_iload_n C dX10_laysDone_21 rfl 1 rfl ?_
    obtain ⟨c2, hc2, hf⟩ := zbind hf
    refine z_callSi (As := [.int u2, .int x1]) (F0 := 3) (L0 := 67) C (mX10_doneIn l D Ca B En C.2.2.2.2.2.2.2.1 c1.1 N u2 x1 _ hc2) hRm kw_1571 kw_14 kw_1569 kw_1570 hyX10_doneIn (Nat.le_of_ble_eq_true rfl) (Nat.le_of_ble_eq_true rfl) rfl rfl (Nat.le_of_ble_eq_true rfl) dX10_laysDone_22 ?_
    obtain ⟨c3, hc3, hf⟩ := zbind hf
    obtain ⟨kc3, hc3⟩ := zck_ok hc3
    refine z_callVv (As := [.int c1.2, .int c2.2]) (F0 := 3) (L0 := 67) C (mX10_becomes l D Ca B En C.2.2.2.2.2.2.2.1 c2.1 N x0 c1.2 c2.2 _ hc3) hRm kc3 rfl kw_1544 kw_14 kw_1541 kw_1543 kp_69 hyX10_becomes (Nat.le_of_ble_eq_true rfl) (Nat.le_of_ble_eq_true rfl) rfl rfl (Nat.le_of_ble_eq_true rfl) dX10_laysDone_25 ?_
    refine z_iinc (lv2 := [(2, .int (u2 + (zi 1))), (0, .ref x0), (1, .int x1)]) C (u2 + (zi 1)) dX10_laysDone_28 2 rfl rfl (by decide) rfl ?_
    refine z_goto C 9 dX10_laysDone_31 (by decide) ?_
    cases hf
    refine z_sub [1, 2, 0] rfl ?_
    exact hk.1 _ rfl

theorem wsX10_laysDone_9 (C : zC p s m args meth c cX10_laysDone RX10 3 D Ca B En) (hRm : zRm R 3 67 cells slots) (x0 : Nat) (x1 : Int32) (n : Nat) (z : (zS × Int32)) (x : zS) (hf : zloop (sX10_laysDone_9 x0 x1) n z = some x) (hk : (∀ o : zS, x = o → zW p l e R s m args below meth c cells slots Q D Ca B 3 o N 34 [(0, .ref x0), (1, .int x1)] [])) : zW p l e R s m args below meth c cells slots Q D Ca B 3 z.1 N 9 [(0, .ref x0), (1, .int x1), (2, .int z.2)] [] := by
  refine zloop_W (P := fun z : (zS × Int32) => zW p l e R s m args below meth c cells slots Q D Ca B 3 z.1 N 9 [(0, .ref x0), (1, .int x1), (2, .int z.2)] []) (K := fun x : zS => (∀ o : zS, x = o → zW p l e R s m args below meth c cells slots Q D Ca B 3 o N 34 [(0, .ref x0), (1, .int x1)] [])) ?_ n z x hf hk
  intro z y hy h1 h2
  refine wsX10_laysDone_9b C hRm x0 x1 z.1 z.2 y hy ⟨fun z2 e => h1 z2 e, fun o e => (h2 _ e) o rfl⟩
set_option maxRecDepth 100000 in
set_option maxHeartbeats 4000000 in
theorem wsX10_laysDone_36b (C : zC p s m args meth c cX10_laysDone RX10 3 D Ca B En) (hRm : zRm R 3 67 cells slots) (x0 : Nat) (x1 : Int32) (σ : zS) (u2 : Int32) (y : (zS × Int32) ⊕ zS) (hf : sX10_laysDone_36b x0 x1 σ u2 = some y) (hk : (∀ z : (zS × Int32), y = .inl z → zW p l e R s m args below meth c cells slots Q D Ca B 3 z.1 N 36 [(0, .ref x0), (1, .int x1), (2, .int z.2)] []) ∧ (∀ z : zS, y = .inr z → zW p l e R s m args below meth c cells slots Q D Ca B 3 z N 61 [(0, .ref x0), (1, .int x1)] [])) : zW p l e R s m args below meth c cells slots Q D Ca B 3 σ N 36 [(0, .ref x0), (1, .int x1), (2, .int u2)] [] := by
  unfold sX10_laysDone_36b at hf
  refine z_iload_n C dX10_laysDone_36 rfl 2 rfl ?_
  refine z_iconst C (zi 2) dX10_laysDone_37 (by decide) ?_
  refine z_icmp_ge C 61 dX10_laysDone_38 (by decide) (fun q9 => ?_) (fun q9 => ?_)
  · rw [if_pos q9] at hf
    cases hf
    refine z_sub [0, 1] rfl ?_
    exact hk.2 _ rfl
  · rw [if_neg q9] at hf
    refine z_aload_n C dX10_laysDone_41 rfl 0 rfl ?_
    refine z_iload_n C dX10_laysDone_42 rfl 1 rfl ?_
    refine z_iload_n C dX10_laysDone_43 rfl 2 rfl ?_
    obtain ⟨c6, hc6, hf⟩ := zbind hf
    refine z_callSi (As := [.int x1, .int u2]) (F0 := 3) (L0 := 67) C (mX10_toSink l D Ca B En C.2.2.2.2.2.2.2.1 σ N x1 u2 _ hc6) hRm kw_1496 kw_14 kw_1494 kw_1495 hyX10_toSink (Nat.le_of_ble_eq_true rfl) (Nat.le_of_ble_eq_true rfl) rfl rfl (Nat.le_of_ble_eq_true rfl) dX10_laysDone_44 ?_
    refine z_iload_n C dX10_laysDone_47 rfl 1 rfl ?_
    refine z_iload_n C dX10_laysDone_48 rfl 2 rfl ?_
    obtain ⟨c7, hc7, hf⟩ := zbind hf
    refine z_callSi (As := [.int x1, .int u2]) (F0 := 3) (L0 := 67) C (mX10_doneOut l D Ca B En C.2.2.2.2.2.2.2.1 c6.1 N x1 u2 _ hc7) hRm kw_1574 kw_14 kw_1572 kw_1573 hyX10_doneOut (Nat.le_of_ble_eq_true rfl) (Nat.le_of_ble_eq_true rfl) rfl rfl (Nat.le_of_ble_eq_true rfl) dX10_laysDone_49 ?_
    obtain ⟨c8, hc8, hf⟩ := zbind hf
    obtain ⟨kc8, hc8⟩ := zck_ok hc8
    refine z_callVv (As := [.int c6.2, .int c7.2]) (F0 := 3) (L0 := 67) C (mX10_becomes l D Ca B En C.2.2.2.2.2.2.2.1 c7.1 N x0 c6.2 c7.2 _ hc8) hRm kc8 rfl kw_1544 kw_14 kw_1541 kw_1543 kp_69 hyX10_becomes (Nat.le_of_ble_eq_true rfl) (Nat.le_of_ble_eq_true rfl) rfl rfl (Nat.le_of_ble_eq_true rfl) dX10_laysDone_52 ?_
    refine z_iinc (lv2 := [(2, .int (u2 + (zi 1))), (0, .ref x0), (1, .int x1)]) C (u2 + (zi 1)) dX10_laysDone_55 2 rfl rfl (by decide) rfl ?_
    refine z_goto C 36 dX10_laysDone_58 (by decide) ?_
    cases hf
    refine z_sub [1, 2, 0] rfl ?_
    exact hk.1 _ rfl

theorem wsX10_laysDone_36 (C : zC p s m args meth c cX10_laysDone RX10 3 D Ca B En) (hRm : zRm R 3 67 cells slots) (x0 : Nat) (x1 : Int32) (n : Nat) (z : (zS × Int32)) (x : zS) (hf : zloop (sX10_laysDone_36 x0 x1) n z = some x) (hk : (∀ o : zS, x = o → zW p l e R s m args below meth c cells slots Q D Ca B 3 o N 61 [(0, .ref x0), (1, .int x1)] [])) : zW p l e R s m args below meth c cells slots Q D Ca B 3 z.1 N 36 [(0, .ref x0), (1, .int x1), (2, .int z.2)] [] := by
  refine zloop_W (P := fun z : (zS × Int32) => zW p l e R s m args below meth c cells slots Q D Ca B 3 z.1 N 36 [(0, .ref x0), (1, .int x1), (2, .int z.2)] []) (K := fun x : zS => (∀ o : zS, x = o → zW p l e R s m args below meth c cells slots Q D Ca B 3 o N 61 [(0, .ref x0), (1, .int x1)] [])) ?_ n z x hf hk
  intro z y hy h1 h2
  refine wsX10_laysDone_36b C hRm x0 x1 z.1 z.2 y hy ⟨fun z2 e => h1 z2 e, fun o e => (h2 _ e) o rfl⟩
set_option maxRecDepth 100000 in
set_option maxHeartbeats 4000000 in
theorem wsX10_laysDone_2b (C : zC p s m args meth c cX10_laysDone RX10 3 D Ca B En) (hRm : zRm R 3 67 cells slots) (x0 : Nat) (σ : zS) (u1 : Int32) (y : (zS × Int32) ⊕ zS) (hf : sX10_laysDone_2b x0 σ u1 = some y) (hk : (∀ z : (zS × Int32), y = .inl z → zW p l e R s m args below meth c cells slots Q D Ca B 3 z.1 N 2 [(0, .ref x0), (1, .int z.2)] []) ∧ (∀ z : zS, y = .inr z → zW p l e R s m args below meth c cells slots Q D Ca B 3 z N 67 [] [])) : zW p l e R s m args below meth c cells slots Q D Ca B 3 σ N 2 [(0, .ref x0), (1, .int u1)] [] := by
  unfold sX10_laysDone_2b at hf
  refine z_iload_n C dX10_laysDone_2 rfl 1 rfl ?_
  refine z_iconst C (zi 4) dX10_laysDone_3 (by decide) ?_
  refine z_icmp_ge C 67 dX10_laysDone_4 (by decide) (fun q11 => ?_) (fun q11 => ?_)
  · rw [if_pos q11] at hf
    cases hf
    refine z_sub [] rfl ?_
    exact hk.2 _ rfl
  · rw [if_neg q11] at hf
    refine z_iconst C (zi 0) dX10_laysDone_7 (by decide) ?_
    refine z_istore_n (lv2 := [(2, .int ((zi 0))), (0, .ref x0), (1, .int u1)]) C dX10_laysDone_8 rfl (by decide) rfl ?_
    obtain ⟨o5, ho5, hf⟩ := zbind hf
    refine z_sub [1, 2, 0] rfl ?_
    refine wsX10_laysDone_9 C hRm _ _ zfuel (σ, (zi 0)) o5 ho5 ?_
    intro z9 e9
    subst e9
    refine z_iconst C (zi 0) dX10_laysDone_34 (by decide) ?_
    refine z_istore_n (lv2 := [(2, .int ((zi 0))), (0, .ref x0), (1, .int u1)]) C dX10_laysDone_35 rfl (by decide) rfl ?_
    obtain ⟨o10, ho10, hf⟩ := zbind hf
    refine z_sub [1, 2, 0] rfl ?_
    refine wsX10_laysDone_36 C hRm _ _ zfuel (o5, (zi 0)) o10 ho10 ?_
    intro z9 e9
    subst e9
    refine z_iinc (lv2 := [(1, .int (u1 + (zi 1))), (0, .ref x0)]) C (u1 + (zi 1)) dX10_laysDone_61 1 rfl rfl (by decide) rfl ?_
    refine z_goto C 2 dX10_laysDone_64 (by decide) ?_
    cases hf
    refine z_sub [1, 0] rfl ?_
    exact hk.1 _ rfl

theorem wsX10_laysDone_2 (C : zC p s m args meth c cX10_laysDone RX10 3 D Ca B En) (hRm : zRm R 3 67 cells slots) (x0 : Nat) (n : Nat) (z : (zS × Int32)) (x : zS) (hf : zloop (sX10_laysDone_2 x0) n z = some x) (hk : (∀ o : zS, x = o → zW p l e R s m args below meth c cells slots Q D Ca B 3 o N 67 [] [])) : zW p l e R s m args below meth c cells slots Q D Ca B 3 z.1 N 2 [(0, .ref x0), (1, .int z.2)] [] := by
  refine zloop_W (P := fun z : (zS × Int32) => zW p l e R s m args below meth c cells slots Q D Ca B 3 z.1 N 2 [(0, .ref x0), (1, .int z.2)] []) (K := fun x : zS => (∀ o : zS, x = o → zW p l e R s m args below meth c cells slots Q D Ca B 3 o N 67 [] [])) ?_ n z x hf hk
  intro z y hy h1 h2
  refine wsX10_laysDone_2b C hRm x0 z.1 z.2 y hy ⟨fun z2 e => h1 z2 e, fun o e => (h2 _ e) o rfl⟩
set_option maxRecDepth 100000 in
set_option maxHeartbeats 4000000 in
theorem wfX10_laysDone (C : zC p s m args meth c cX10_laysDone RX10 3 D Ca B En) (hRm : zRm R 3 67 cells slots) (σ : zS) (x0 : Nat) (τ : zS) (hf : fX10_laysDone σ x0 = some τ) (hq : ∀ (pc : Nat) (lv : List (Nat × Value)), decode cX10_laysDone pc = .ok (.return_, 1) → zW p l e R s m args below meth c cells slots Q D Ca B 3 τ N pc lv []) : zW p l e R s m args below meth c cells slots Q D Ca B 3 σ N 0 [(0, .ref x0)] [] := by
  unfold fX10_laysDone at hf
  refine z_iconst C (zi 0) dX10_laysDone_0 (by decide) ?_
  refine z_istore_n (lv2 := [(1, .int ((zi 0))), (0, .ref x0)]) C dX10_laysDone_1 rfl (by decide) rfl ?_
  obtain ⟨o12, ho12, hf⟩ := zbind hf
  refine z_sub [1, 0] rfl ?_
  refine wsX10_laysDone_2 C hRm _ zfuel (σ, (zi 0)) o12 ho12 ?_
  intro z9 e9
  subst e9
  cases hf
  exact hq _ _ dX10_laysDone_67

theorem mX10_laysDone (l : Launch) (D : va_G) (Ca : Nat → ClassId) (B : Nat) (En : State → Prop) (hE : zEk B En) (σ : zS) (N : Nat) (x0 : Nat) (X : zS) (hf : fX10_laysDone σ x0 = some X) : zMv l D Ca B En yX10_laysDone cX10_laysDone 3 (Option.none : Option Jvm.ClassFile.FieldType) 3 67 [.ref x0] σ N X () :=
  zMet_v (own := RX10) hE (by decide +kernel) rfl (Nat.le_of_ble_eq_true rfl) (fun p e s m args below meth c C hr hRm => wfX10_laysDone C hRm σ x0 X hf (fun pc lv hd => zfin_v (r := ()) C hr hd))
theorem dX10_fails_0 : decode cX10_fails 0 = .ok (.aload_n 0, 1) := by decide +kernel
theorem dX10_fails_1 : decode cX10_fails 1 = .ok (.invokevirtual 221, 3) := by decide +kernel
theorem dX10_fails_4 : decode cX10_fails 4 = .ok (.aload_n 0, 1) := by decide +kernel
theorem dX10_fails_5 : decode cX10_fails 5 = .ok (.getfield 21, 3) := by decide +kernel
theorem dX10_fails_8 : decode cX10_fails 8 = .ok (.bipush 67, 2) := by decide +kernel
theorem dX10_fails_10 : decode cX10_fails 10 = .ok (.iconst 0, 1) := by decide +kernel
theorem dX10_fails_11 : decode cX10_fails 11 = .ok (.iastore, 1) := by decide +kernel
theorem dX10_fails_12 : decode cX10_fails 12 = .ok (.aload_n 0, 1) := by decide +kernel
theorem dX10_fails_13 : decode cX10_fails 13 = .ok (.getfield 21, 3) := by decide +kernel
theorem dX10_fails_16 : decode cX10_fails 16 = .ok (.bipush 7, 2) := by decide +kernel
theorem dX10_fails_18 : decode cX10_fails 18 = .ok (.aload_n 0, 1) := by decide +kernel
theorem dX10_fails_19 : decode cX10_fails 19 = .ok (.getfield 21, 3) := by decide +kernel
theorem dX10_fails_22 : decode cX10_fails 22 = .ok (.bipush 7, 2) := by decide +kernel
theorem dX10_fails_24 : decode cX10_fails 24 = .ok (.iaload, 1) := by decide +kernel
theorem dX10_fails_25 : decode cX10_fails 25 = .ok (.iconst 1, 1) := by decide +kernel
theorem dX10_fails_26 : decode cX10_fails 26 = .ok (.iadd, 1) := by decide +kernel
theorem dX10_fails_27 : decode cX10_fails 27 = .ok (.iastore, 1) := by decide +kernel
theorem dX10_fails_28 : decode cX10_fails 28 = .ok (.iconst 0, 1) := by decide +kernel
theorem dX10_fails_29 : decode cX10_fails 29 = .ok (.istore_n 1, 1) := by decide +kernel
theorem dX10_fails_30 : decode cX10_fails 30 = .ok (.iload_n 1, 1) := by decide +kernel
theorem dX10_fails_31 : decode cX10_fails 31 = .ok (.iconst 2, 1) := by decide +kernel
theorem dX10_fails_32 : decode cX10_fails 32 = .ok (.if_icmp .ge 41, 3) := by decide +kernel
theorem dX10_fails_35 : decode cX10_fails 35 = .ok (.aload_n 0, 1) := by decide +kernel
theorem dX10_fails_36 : decode cX10_fails 36 = .ok (.sipush 9792, 3) := by decide +kernel
theorem dX10_fails_39 : decode cX10_fails 39 = .ok (.iload_n 1, 1) := by decide +kernel
theorem dX10_fails_40 : decode cX10_fails 40 = .ok (.invokestatic 155, 3) := by decide +kernel
theorem dX10_fails_43 : decode cX10_fails 43 = .ok (.invokevirtual 108, 3) := by decide +kernel
theorem dX10_fails_46 : decode cX10_fails 46 = .ok (.aload_n 0, 1) := by decide +kernel
theorem dX10_fails_47 : decode cX10_fails 47 = .ok (.sipush 11394, 3) := by decide +kernel
theorem dX10_fails_50 : decode cX10_fails 50 = .ok (.iload_n 1, 1) := by decide +kernel
theorem dX10_fails_51 : decode cX10_fails 51 = .ok (.invokestatic 155, 3) := by decide +kernel
theorem dX10_fails_54 : decode cX10_fails 54 = .ok (.invokevirtual 108, 3) := by decide +kernel
theorem dX10_fails_57 : decode cX10_fails 57 = .ok (.aload_n 0, 1) := by decide +kernel
theorem dX10_fails_58 : decode cX10_fails 58 = .ok (.getfield 21, 3) := by decide +kernel
theorem dX10_fails_61 : decode cX10_fails 61 = .ok (.bipush 41, 2) := by decide +kernel
theorem dX10_fails_63 : decode cX10_fails 63 = .ok (.iload_n 1, 1) := by decide +kernel
theorem dX10_fails_64 : decode cX10_fails 64 = .ok (.iadd, 1) := by decide +kernel
theorem dX10_fails_65 : decode cX10_fails 65 = .ok (.iconst (-1), 1) := by decide +kernel
theorem dX10_fails_66 : decode cX10_fails 66 = .ok (.iastore, 1) := by decide +kernel
theorem dX10_fails_67 : decode cX10_fails 67 = .ok (.iinc 1 1, 3) := by decide +kernel
theorem dX10_fails_70 : decode cX10_fails 70 = .ok (.goto (-40), 3) := by decide +kernel
theorem dX10_fails_73 : decode cX10_fails 73 = .ok (.iconst 0, 1) := by decide +kernel
theorem dX10_fails_74 : decode cX10_fails 74 = .ok (.istore_n 1, 1) := by decide +kernel
theorem dX10_fails_75 : decode cX10_fails 75 = .ok (.iload_n 1, 1) := by decide +kernel
theorem dX10_fails_76 : decode cX10_fails 76 = .ok (.iconst 4, 1) := by decide +kernel
theorem dX10_fails_77 : decode cX10_fails 77 = .ok (.if_icmp .ge 27, 3) := by decide +kernel
theorem dX10_fails_80 : decode cX10_fails 80 = .ok (.aload_n 0, 1) := by decide +kernel
theorem dX10_fails_81 : decode cX10_fails 81 = .ok (.getfield 21, 3) := by decide +kernel
theorem dX10_fails_84 : decode cX10_fails 84 = .ok (.bipush 13, 2) := by decide +kernel
theorem dX10_fails_86 : decode cX10_fails 86 = .ok (.iload_n 1, 1) := by decide +kernel
theorem dX10_fails_87 : decode cX10_fails 87 = .ok (.iadd, 1) := by decide +kernel
theorem dX10_fails_88 : decode cX10_fails 88 = .ok (.aload_n 0, 1) := by decide +kernel
theorem dX10_fails_89 : decode cX10_fails 89 = .ok (.getfield 21, 3) := by decide +kernel
theorem dX10_fails_92 : decode cX10_fails 92 = .ok (.bipush 124, 2) := by decide +kernel
theorem dX10_fails_94 : decode cX10_fails 94 = .ok (.iload_n 1, 1) := by decide +kernel
theorem dX10_fails_95 : decode cX10_fails 95 = .ok (.iadd, 1) := by decide +kernel
theorem dX10_fails_96 : decode cX10_fails 96 = .ok (.iaload, 1) := by decide +kernel
theorem dX10_fails_97 : decode cX10_fails 97 = .ok (.iastore, 1) := by decide +kernel
theorem dX10_fails_98 : decode cX10_fails 98 = .ok (.iinc 1 1, 3) := by decide +kernel
theorem dX10_fails_101 : decode cX10_fails 101 = .ok (.goto (-26), 3) := by decide +kernel
theorem dX10_fails_104 : decode cX10_fails 104 = .ok (.iconst 0, 1) := by decide +kernel
theorem dX10_fails_105 : decode cX10_fails 105 = .ok (.istore_n 1, 1) := by decide +kernel
theorem dX10_fails_106 : decode cX10_fails 106 = .ok (.iload_n 1, 1) := by decide +kernel
theorem dX10_fails_107 : decode cX10_fails 107 = .ok (.bipush 16, 2) := by decide +kernel
theorem dX10_fails_109 : decode cX10_fails 109 = .ok (.if_icmp .ge 28, 3) := by decide +kernel
theorem dX10_fails_112 : decode cX10_fails 112 = .ok (.aload_n 0, 1) := by decide +kernel
theorem dX10_fails_113 : decode cX10_fails 113 = .ok (.getfield 21, 3) := by decide +kernel
theorem dX10_fails_116 : decode cX10_fails 116 = .ok (.bipush 17, 2) := by decide +kernel
theorem dX10_fails_118 : decode cX10_fails 118 = .ok (.iload_n 1, 1) := by decide +kernel
theorem dX10_fails_119 : decode cX10_fails 119 = .ok (.iadd, 1) := by decide +kernel
theorem dX10_fails_120 : decode cX10_fails 120 = .ok (.aload_n 0, 1) := by decide +kernel
theorem dX10_fails_121 : decode cX10_fails 121 = .ok (.getfield 21, 3) := by decide +kernel
theorem dX10_fails_124 : decode cX10_fails 124 = .ok (.sipush 128, 3) := by decide +kernel
theorem dX10_fails_127 : decode cX10_fails 127 = .ok (.iload_n 1, 1) := by decide +kernel
theorem dX10_fails_128 : decode cX10_fails 128 = .ok (.iadd, 1) := by decide +kernel
theorem dX10_fails_129 : decode cX10_fails 129 = .ok (.iaload, 1) := by decide +kernel
theorem dX10_fails_130 : decode cX10_fails 130 = .ok (.iastore, 1) := by decide +kernel
theorem dX10_fails_131 : decode cX10_fails 131 = .ok (.iinc 1 1, 3) := by decide +kernel
theorem dX10_fails_134 : decode cX10_fails 134 = .ok (.goto (-28), 3) := by decide +kernel
theorem dX10_fails_137 : decode cX10_fails 137 = .ok (.bipush 43, 2) := by decide +kernel
theorem dX10_fails_139 : decode cX10_fails 139 = .ok (.istore_n 1, 1) := by decide +kernel
theorem dX10_fails_140 : decode cX10_fails 140 = .ok (.iload_n 1, 1) := by decide +kernel
theorem dX10_fails_141 : decode cX10_fails 141 = .ok (.bipush 67, 2) := by decide +kernel
theorem dX10_fails_143 : decode cX10_fails 143 = .ok (.if_icmp .ge 16, 3) := by decide +kernel
theorem dX10_fails_146 : decode cX10_fails 146 = .ok (.aload_n 0, 1) := by decide +kernel
theorem dX10_fails_147 : decode cX10_fails 147 = .ok (.getfield 21, 3) := by decide +kernel
theorem dX10_fails_150 : decode cX10_fails 150 = .ok (.iload_n 1, 1) := by decide +kernel
theorem dX10_fails_151 : decode cX10_fails 151 = .ok (.iconst 0, 1) := by decide +kernel
theorem dX10_fails_152 : decode cX10_fails 152 = .ok (.iastore, 1) := by decide +kernel
theorem dX10_fails_153 : decode cX10_fails 153 = .ok (.iinc 1 1, 3) := by decide +kernel
theorem dX10_fails_156 : decode cX10_fails 156 = .ok (.goto (-16), 3) := by decide +kernel
theorem dX10_fails_159 : decode cX10_fails 159 = .ok (.iconst 0, 1) := by decide +kernel
theorem dX10_fails_160 : decode cX10_fails 160 = .ok (.istore_n 1, 1) := by decide +kernel
theorem dX10_fails_161 : decode cX10_fails 161 = .ok (.iload_n 1, 1) := by decide +kernel
theorem dX10_fails_162 : decode cX10_fails 162 = .ok (.iconst 4, 1) := by decide +kernel
theorem dX10_fails_163 : decode cX10_fails 163 = .ok (.if_icmp .ge 29, 3) := by decide +kernel
theorem dX10_fails_166 : decode cX10_fails 166 = .ok (.aload_n 0, 1) := by decide +kernel
theorem dX10_fails_167 : decode cX10_fails 167 = .ok (.getfield 21, 3) := by decide +kernel
theorem dX10_fails_170 : decode cX10_fails 170 = .ok (.bipush 33, 2) := by decide +kernel
theorem dX10_fails_172 : decode cX10_fails 172 = .ok (.iload_n 1, 1) := by decide +kernel
theorem dX10_fails_173 : decode cX10_fails 173 = .ok (.iadd, 1) := by decide +kernel
theorem dX10_fails_174 : decode cX10_fails 174 = .ok (.iconst 0, 1) := by decide +kernel
theorem dX10_fails_175 : decode cX10_fails 175 = .ok (.iastore, 1) := by decide +kernel
theorem dX10_fails_176 : decode cX10_fails 176 = .ok (.aload_n 0, 1) := by decide +kernel
theorem dX10_fails_177 : decode cX10_fails 177 = .ok (.getfield 21, 3) := by decide +kernel
theorem dX10_fails_180 : decode cX10_fails 180 = .ok (.bipush 37, 2) := by decide +kernel
theorem dX10_fails_182 : decode cX10_fails 182 = .ok (.iload_n 1, 1) := by decide +kernel
theorem dX10_fails_183 : decode cX10_fails 183 = .ok (.iadd, 1) := by decide +kernel
theorem dX10_fails_184 : decode cX10_fails 184 = .ok (.iconst (-1), 1) := by decide +kernel
theorem dX10_fails_185 : decode cX10_fails 185 = .ok (.iastore, 1) := by decide +kernel
theorem dX10_fails_186 : decode cX10_fails 186 = .ok (.iinc 1 1, 3) := by decide +kernel
theorem dX10_fails_189 : decode cX10_fails 189 = .ok (.goto (-28), 3) := by decide +kernel
theorem dX10_fails_192 : decode cX10_fails 192 = .ok (.aload_n 0, 1) := by decide +kernel
theorem dX10_fails_193 : decode cX10_fails 193 = .ok (.invokevirtual 131, 3) := by decide +kernel
theorem dX10_fails_196 : decode cX10_fails 196 = .ok (.aload_n 0, 1) := by decide +kernel
theorem dX10_fails_197 : decode cX10_fails 197 = .ok (.invokevirtual 263, 3) := by decide +kernel
theorem dX10_fails_200 : decode cX10_fails 200 = .ok (.return_, 1) := by decide +kernel
theorem hyX10_fails : yX10_fails.cls ≠ "java/lang/invoke/MethodHandle" ∧ yX10_fails.cls ≠ "java/lang/invoke/VarHandle" ∧ (parseMethodDescriptor yX10_fails.desc).map (fun d => d.parameters.length) = some 0 := ⟨by decide +kernel, by decide +kernel, by decide +kernel⟩
set_option maxRecDepth 100000 in
set_option maxHeartbeats 4000000 in
theorem wsX10_fails_30b (C : zC p s m args meth c cX10_fails RX10 2 D Ca B En) (hRm : zRm R 4 89 cells slots) (x0 : Nat) (σ : zS) (u1 : Int32) (y : (zS × Int32) ⊕ zS) (hf : sX10_fails_30b x0 σ u1 = some y) (hk : (∀ z : (zS × Int32), y = .inl z → zW p l e R s m args below meth c cells slots Q D Ca B 2 z.1 N 30 [(0, .ref x0), (1, .int z.2)] []) ∧ (∀ z : zS, y = .inr z → zW p l e R s m args below meth c cells slots Q D Ca B 2 z N 73 [(0, .ref x0)] [])) : zW p l e R s m args below meth c cells slots Q D Ca B 2 σ N 30 [(0, .ref x0), (1, .int u1)] [] := by
  unfold sX10_fails_30b at hf
  refine z_iload_n C dX10_fails_30 rfl 1 rfl ?_
  refine z_iconst C (zi 2) dX10_fails_31 (by decide) ?_
  refine z_icmp_ge C 73 dX10_fails_32 (by decide) (fun q14 => ?_) (fun q14 => ?_)
  · rw [if_pos q14] at hf
    cases hf
    refine z_sub [0] rfl ?_
    exact hk.2 _ rfl
  · rw [if_neg q14] at hf
    refine z_aload_n C dX10_fails_35 rfl 0 rfl ?_
    refine z_sipush C (zi 9792) dX10_fails_36 (by decide) ?_
    refine z_iload_n C dX10_fails_39 rfl 1 rfl ?_
    obtain ⟨c8, hc8, hf⟩ := zbind hf
    refine z_callSi (As := [.int ((zi 9792)), .int u1]) (F0 := 4) (L0 := 89) C (mX10_results l D Ca B En C.2.2.2.2.2.2.2.1 σ N ((zi 9792)) u1 _ hc8) hRm kw_1431 kw_14 kw_1429 kw_1430 hyX10_results (Nat.le_of_ble_eq_true rfl) (Nat.le_of_ble_eq_true rfl) rfl rfl (Nat.le_of_ble_eq_true rfl) dX10_fails_40 ?_
    obtain ⟨c9, hc9, hf⟩ := zbind hf
    obtain ⟨kc9, hc9⟩ := zck_ok hc9
    refine z_callVv (As := [.int c8.2]) (F0 := 4) (L0 := 89) C (mX10_empties l D Ca B En C.2.2.2.2.2.2.2.1 c8.1 N x0 c8.2 _ hc9) hRm kc9 rfl kw_1418 kw_14 kw_1415 kw_1417 kp_42 hyX10_empties (Nat.le_of_ble_eq_true rfl) (Nat.le_of_ble_eq_true rfl) rfl rfl (Nat.le_of_ble_eq_true rfl) dX10_fails_43 ?_
    refine z_aload_n C dX10_fails_46 rfl 0 rfl ?_
    refine z_sipush C (zi 11394) dX10_fails_47 (by decide) ?_
    refine z_iload_n C dX10_fails_50 rfl 1 rfl ?_
    obtain ⟨c10, hc10, hf⟩ := zbind hf
    refine z_callSi (As := [.int ((zi 11394)), .int u1]) (F0 := 4) (L0 := 89) C (mX10_results l D Ca B En C.2.2.2.2.2.2.2.1 c9 N ((zi 11394)) u1 _ hc10) hRm kw_1431 kw_14 kw_1429 kw_1430 hyX10_results (Nat.le_of_ble_eq_true rfl) (Nat.le_of_ble_eq_true rfl) rfl rfl (Nat.le_of_ble_eq_true rfl) dX10_fails_51 ?_
    obtain ⟨c11, hc11, hf⟩ := zbind hf
    obtain ⟨kc11, hc11⟩ := zck_ok hc11
    refine z_callVv (As := [.int c10.2]) (F0 := 4) (L0 := 89) C (mX10_empties l D Ca B En C.2.2.2.2.2.2.2.1 c10.1 N x0 c10.2 _ hc11) hRm kc11 rfl kw_1418 kw_14 kw_1415 kw_1417 kp_42 hyX10_empties (Nat.le_of_ble_eq_true rfl) (Nat.le_of_ble_eq_true rfl) rfl rfl (Nat.le_of_ble_eq_true rfl) dX10_fails_54 ?_
    refine z_aload_n C dX10_fails_57 rfl 0 rfl ?_
    obtain ⟨v12, hv12, hf⟩ := zbind hf
    refine gf_RX10_21 C hv12 dX10_fails_58 ?_
    refine z_bipush C (zi 41) dX10_fails_61 (by decide) ?_
    refine z_iload_n C dX10_fails_63 rfl 1 rfl ?_
    refine z_iadd C dX10_fails_64 ?_
    refine z_iconst C (zi (-1)) dX10_fails_65 (by decide) ?_
    obtain ⟨σ13, hσ13, hf⟩ := zbind hf
    refine z_sI C hσ13 dX10_fails_66 ?_
    refine z_iinc (lv2 := [(1, .int (u1 + (zi 1))), (0, .ref x0)]) C (u1 + (zi 1)) dX10_fails_67 1 rfl rfl (by decide) rfl ?_
    refine z_goto C 30 dX10_fails_70 (by decide) ?_
    cases hf
    refine z_sub [1, 0] rfl ?_
    exact hk.1 _ rfl

theorem wsX10_fails_30 (C : zC p s m args meth c cX10_fails RX10 2 D Ca B En) (hRm : zRm R 4 89 cells slots) (x0 : Nat) (n : Nat) (z : (zS × Int32)) (x : zS) (hf : zloop (sX10_fails_30 x0) n z = some x) (hk : (∀ o : zS, x = o → zW p l e R s m args below meth c cells slots Q D Ca B 2 o N 73 [(0, .ref x0)] [])) : zW p l e R s m args below meth c cells slots Q D Ca B 2 z.1 N 30 [(0, .ref x0), (1, .int z.2)] [] := by
  refine zloop_W (P := fun z : (zS × Int32) => zW p l e R s m args below meth c cells slots Q D Ca B 2 z.1 N 30 [(0, .ref x0), (1, .int z.2)] []) (K := fun x : zS => (∀ o : zS, x = o → zW p l e R s m args below meth c cells slots Q D Ca B 2 o N 73 [(0, .ref x0)] [])) ?_ n z x hf hk
  intro z y hy h1 h2
  refine wsX10_fails_30b C hRm x0 z.1 z.2 y hy ⟨fun z2 e => h1 z2 e, fun o e => (h2 _ e) o rfl⟩
set_option maxRecDepth 100000 in
set_option maxHeartbeats 4000000 in
theorem wsX10_fails_75b (C : zC p s m args meth c cX10_fails RX10 2 D Ca B En) (hRm : zRm R 4 89 cells slots) (x0 : Nat) (σ : zS) (u1 : Int32) (y : (zS × Int32) ⊕ zS) (hf : sX10_fails_75b x0 σ u1 = some y) (hk : (∀ z : (zS × Int32), y = .inl z → zW p l e R s m args below meth c cells slots Q D Ca B 2 z.1 N 75 [(0, .ref x0), (1, .int z.2)] []) ∧ (∀ z : zS, y = .inr z → zW p l e R s m args below meth c cells slots Q D Ca B 2 z N 104 [(0, .ref x0)] [])) : zW p l e R s m args below meth c cells slots Q D Ca B 2 σ N 75 [(0, .ref x0), (1, .int u1)] [] := by
  unfold sX10_fails_75b at hf
  refine z_iload_n C dX10_fails_75 rfl 1 rfl ?_
  refine z_iconst C (zi 4) dX10_fails_76 (by decide) ?_
  refine z_icmp_ge C 104 dX10_fails_77 (by decide) (fun q20 => ?_) (fun q20 => ?_)
  · rw [if_pos q20] at hf
    cases hf
    refine z_sub [0] rfl ?_
    exact hk.2 _ rfl
  · rw [if_neg q20] at hf
    refine z_aload_n C dX10_fails_80 rfl 0 rfl ?_
    obtain ⟨v16, hv16, hf⟩ := zbind hf
    refine gf_RX10_21 C hv16 dX10_fails_81 ?_
    refine z_bipush C (zi 13) dX10_fails_84 (by decide) ?_
    refine z_iload_n C dX10_fails_86 rfl 1 rfl ?_
    refine z_iadd C dX10_fails_87 ?_
    refine z_aload_n C dX10_fails_88 rfl 0 rfl ?_
    obtain ⟨v17, hv17, hf⟩ := zbind hf
    refine gf_RX10_21 C hv17 dX10_fails_89 ?_
    refine z_bipush C (zi 124) dX10_fails_92 (by decide) ?_
    refine z_iload_n C dX10_fails_94 rfl 1 rfl ?_
    refine z_iadd C dX10_fails_95 ?_
    obtain ⟨v18, hv18, hf⟩ := zbind hf
    refine z_aI C hv18 dX10_fails_96 ?_
    obtain ⟨σ19, hσ19, hf⟩ := zbind hf
    refine z_sI C hσ19 dX10_fails_97 ?_
    refine z_iinc (lv2 := [(1, .int (u1 + (zi 1))), (0, .ref x0)]) C (u1 + (zi 1)) dX10_fails_98 1 rfl rfl (by decide) rfl ?_
    refine z_goto C 75 dX10_fails_101 (by decide) ?_
    cases hf
    refine z_sub [1, 0] rfl ?_
    exact hk.1 _ rfl

theorem wsX10_fails_75 (C : zC p s m args meth c cX10_fails RX10 2 D Ca B En) (hRm : zRm R 4 89 cells slots) (x0 : Nat) (n : Nat) (z : (zS × Int32)) (x : zS) (hf : zloop (sX10_fails_75 x0) n z = some x) (hk : (∀ o : zS, x = o → zW p l e R s m args below meth c cells slots Q D Ca B 2 o N 104 [(0, .ref x0)] [])) : zW p l e R s m args below meth c cells slots Q D Ca B 2 z.1 N 75 [(0, .ref x0), (1, .int z.2)] [] := by
  refine zloop_W (P := fun z : (zS × Int32) => zW p l e R s m args below meth c cells slots Q D Ca B 2 z.1 N 75 [(0, .ref x0), (1, .int z.2)] []) (K := fun x : zS => (∀ o : zS, x = o → zW p l e R s m args below meth c cells slots Q D Ca B 2 o N 104 [(0, .ref x0)] [])) ?_ n z x hf hk
  intro z y hy h1 h2
  refine wsX10_fails_75b C hRm x0 z.1 z.2 y hy ⟨fun z2 e => h1 z2 e, fun o e => (h2 _ e) o rfl⟩
set_option maxRecDepth 100000 in
set_option maxHeartbeats 4000000 in
theorem wsX10_fails_106b (C : zC p s m args meth c cX10_fails RX10 2 D Ca B En) (hRm : zRm R 4 89 cells slots) (x0 : Nat) (σ : zS) (u1 : Int32) (y : (zS × Int32) ⊕ zS) (hf : sX10_fails_106b x0 σ u1 = some y) (hk : (∀ z : (zS × Int32), y = .inl z → zW p l e R s m args below meth c cells slots Q D Ca B 2 z.1 N 106 [(0, .ref x0), (1, .int z.2)] []) ∧ (∀ z : zS, y = .inr z → zW p l e R s m args below meth c cells slots Q D Ca B 2 z N 137 [(0, .ref x0)] [])) : zW p l e R s m args below meth c cells slots Q D Ca B 2 σ N 106 [(0, .ref x0), (1, .int u1)] [] := by
  unfold sX10_fails_106b at hf
  refine z_iload_n C dX10_fails_106 rfl 1 rfl ?_
  refine z_bipush C (zi 16) dX10_fails_107 (by decide) ?_
  refine z_icmp_ge C 137 dX10_fails_109 (by decide) (fun q26 => ?_) (fun q26 => ?_)
  · rw [if_pos q26] at hf
    cases hf
    refine z_sub [0] rfl ?_
    exact hk.2 _ rfl
  · rw [if_neg q26] at hf
    refine z_aload_n C dX10_fails_112 rfl 0 rfl ?_
    obtain ⟨v22, hv22, hf⟩ := zbind hf
    refine gf_RX10_21 C hv22 dX10_fails_113 ?_
    refine z_bipush C (zi 17) dX10_fails_116 (by decide) ?_
    refine z_iload_n C dX10_fails_118 rfl 1 rfl ?_
    refine z_iadd C dX10_fails_119 ?_
    refine z_aload_n C dX10_fails_120 rfl 0 rfl ?_
    obtain ⟨v23, hv23, hf⟩ := zbind hf
    refine gf_RX10_21 C hv23 dX10_fails_121 ?_
    refine z_sipush C (zi 128) dX10_fails_124 (by decide) ?_
    refine z_iload_n C dX10_fails_127 rfl 1 rfl ?_
    refine z_iadd C dX10_fails_128 ?_
    obtain ⟨v24, hv24, hf⟩ := zbind hf
    refine z_aI C hv24 dX10_fails_129 ?_
    obtain ⟨σ25, hσ25, hf⟩ := zbind hf
    refine z_sI C hσ25 dX10_fails_130 ?_
    refine z_iinc (lv2 := [(1, .int (u1 + (zi 1))), (0, .ref x0)]) C (u1 + (zi 1)) dX10_fails_131 1 rfl rfl (by decide) rfl ?_
    refine z_goto C 106 dX10_fails_134 (by decide) ?_
    cases hf
    refine z_sub [1, 0] rfl ?_
    exact hk.1 _ rfl

theorem wsX10_fails_106 (C : zC p s m args meth c cX10_fails RX10 2 D Ca B En) (hRm : zRm R 4 89 cells slots) (x0 : Nat) (n : Nat) (z : (zS × Int32)) (x : zS) (hf : zloop (sX10_fails_106 x0) n z = some x) (hk : (∀ o : zS, x = o → zW p l e R s m args below meth c cells slots Q D Ca B 2 o N 137 [(0, .ref x0)] [])) : zW p l e R s m args below meth c cells slots Q D Ca B 2 z.1 N 106 [(0, .ref x0), (1, .int z.2)] [] := by
  refine zloop_W (P := fun z : (zS × Int32) => zW p l e R s m args below meth c cells slots Q D Ca B 2 z.1 N 106 [(0, .ref x0), (1, .int z.2)] []) (K := fun x : zS => (∀ o : zS, x = o → zW p l e R s m args below meth c cells slots Q D Ca B 2 o N 137 [(0, .ref x0)] [])) ?_ n z x hf hk
  intro z y hy h1 h2
  refine wsX10_fails_106b C hRm x0 z.1 z.2 y hy ⟨fun z2 e => h1 z2 e, fun o e => (h2 _ e) o rfl⟩
set_option maxRecDepth 100000 in
set_option maxHeartbeats 4000000 in
theorem wsX10_fails_140b (C : zC p s m args meth c cX10_fails RX10 2 D Ca B En) (hRm : zRm R 4 89 cells slots) (x0 : Nat) (σ : zS) (u1 : Int32) (y : (zS × Int32) ⊕ zS) (hf : sX10_fails_140b x0 σ u1 = some y) (hk : (∀ z : (zS × Int32), y = .inl z → zW p l e R s m args below meth c cells slots Q D Ca B 2 z.1 N 140 [(0, .ref x0), (1, .int z.2)] []) ∧ (∀ z : zS, y = .inr z → zW p l e R s m args below meth c cells slots Q D Ca B 2 z N 159 [(0, .ref x0)] [])) : zW p l e R s m args below meth c cells slots Q D Ca B 2 σ N 140 [(0, .ref x0), (1, .int u1)] [] := by
  unfold sX10_fails_140b at hf
  refine z_iload_n C dX10_fails_140 rfl 1 rfl ?_
  refine z_bipush C (zi 67) dX10_fails_141 (by decide) ?_
  refine z_icmp_ge C 159 dX10_fails_143 (by decide) (fun q30 => ?_) (fun q30 => ?_)
  · rw [if_pos q30] at hf
    cases hf
    refine z_sub [0] rfl ?_
    exact hk.2 _ rfl
  · rw [if_neg q30] at hf
    refine z_aload_n C dX10_fails_146 rfl 0 rfl ?_
    obtain ⟨v28, hv28, hf⟩ := zbind hf
    refine gf_RX10_21 C hv28 dX10_fails_147 ?_
    refine z_iload_n C dX10_fails_150 rfl 1 rfl ?_
    refine z_iconst C (zi 0) dX10_fails_151 (by decide) ?_
    obtain ⟨σ29, hσ29, hf⟩ := zbind hf
    refine z_sI C hσ29 dX10_fails_152 ?_
    refine z_iinc (lv2 := [(1, .int (u1 + (zi 1))), (0, .ref x0)]) C (u1 + (zi 1)) dX10_fails_153 1 rfl rfl (by decide) rfl ?_
    refine z_goto C 140 dX10_fails_156 (by decide) ?_
    cases hf
    refine z_sub [1, 0] rfl ?_
    exact hk.1 _ rfl

theorem wsX10_fails_140 (C : zC p s m args meth c cX10_fails RX10 2 D Ca B En) (hRm : zRm R 4 89 cells slots) (x0 : Nat) (n : Nat) (z : (zS × Int32)) (x : zS) (hf : zloop (sX10_fails_140 x0) n z = some x) (hk : (∀ o : zS, x = o → zW p l e R s m args below meth c cells slots Q D Ca B 2 o N 159 [(0, .ref x0)] [])) : zW p l e R s m args below meth c cells slots Q D Ca B 2 z.1 N 140 [(0, .ref x0), (1, .int z.2)] [] := by
  refine zloop_W (P := fun z : (zS × Int32) => zW p l e R s m args below meth c cells slots Q D Ca B 2 z.1 N 140 [(0, .ref x0), (1, .int z.2)] []) (K := fun x : zS => (∀ o : zS, x = o → zW p l e R s m args below meth c cells slots Q D Ca B 2 o N 159 [(0, .ref x0)] [])) ?_ n z x hf hk
  intro z y hy h1 h2
  refine wsX10_fails_140b C hRm x0 z.1 z.2 y hy ⟨fun z2 e => h1 z2 e, fun o e => (h2 _ e) o rfl⟩
set_option maxRecDepth 100000 in
set_option maxHeartbeats 4000000 in
theorem wsX10_fails_161b (C : zC p s m args meth c cX10_fails RX10 2 D Ca B En) (hRm : zRm R 4 89 cells slots) (x0 : Nat) (σ : zS) (u1 : Int32) (y : (zS × Int32) ⊕ zS) (hf : sX10_fails_161b x0 σ u1 = some y) (hk : (∀ z : (zS × Int32), y = .inl z → zW p l e R s m args below meth c cells slots Q D Ca B 2 z.1 N 161 [(0, .ref x0), (1, .int z.2)] []) ∧ (∀ z : zS, y = .inr z → zW p l e R s m args below meth c cells slots Q D Ca B 2 z N 192 [(0, .ref x0)] [])) : zW p l e R s m args below meth c cells slots Q D Ca B 2 σ N 161 [(0, .ref x0), (1, .int u1)] [] := by
  unfold sX10_fails_161b at hf
  refine z_iload_n C dX10_fails_161 rfl 1 rfl ?_
  refine z_iconst C (zi 4) dX10_fails_162 (by decide) ?_
  refine z_icmp_ge C 192 dX10_fails_163 (by decide) (fun q36 => ?_) (fun q36 => ?_)
  · rw [if_pos q36] at hf
    cases hf
    refine z_sub [0] rfl ?_
    exact hk.2 _ rfl
  · rw [if_neg q36] at hf
    refine z_aload_n C dX10_fails_166 rfl 0 rfl ?_
    obtain ⟨v32, hv32, hf⟩ := zbind hf
    refine gf_RX10_21 C hv32 dX10_fails_167 ?_
    refine z_bipush C (zi 33) dX10_fails_170 (by decide) ?_
    refine z_iload_n C dX10_fails_172 rfl 1 rfl ?_
    refine z_iadd C dX10_fails_173 ?_
    refine z_iconst C (zi 0) dX10_fails_174 (by decide) ?_
    obtain ⟨σ33, hσ33, hf⟩ := zbind hf
    refine z_sI C hσ33 dX10_fails_175 ?_
    refine z_aload_n C dX10_fails_176 rfl 0 rfl ?_
    obtain ⟨v34, hv34, hf⟩ := zbind hf
    refine gf_RX10_21 C hv34 dX10_fails_177 ?_
    refine z_bipush C (zi 37) dX10_fails_180 (by decide) ?_
    refine z_iload_n C dX10_fails_182 rfl 1 rfl ?_
    refine z_iadd C dX10_fails_183 ?_
    refine z_iconst C (zi (-1)) dX10_fails_184 (by decide) ?_
    obtain ⟨σ35, hσ35, hf⟩ := zbind hf
    refine z_sI C hσ35 dX10_fails_185 ?_
    refine z_iinc (lv2 := [(1, .int (u1 + (zi 1))), (0, .ref x0)]) C (u1 + (zi 1)) dX10_fails_186 1 rfl rfl (by decide) rfl ?_
    refine z_goto C 161 dX10_fails_189 (by decide) ?_
    cases hf
    refine z_sub [1, 0] rfl ?_
    exact hk.1 _ rfl

theorem wsX10_fails_161 (C : zC p s m args meth c cX10_fails RX10 2 D Ca B En) (hRm : zRm R 4 89 cells slots) (x0 : Nat) (n : Nat) (z : (zS × Int32)) (x : zS) (hf : zloop (sX10_fails_161 x0) n z = some x) (hk : (∀ o : zS, x = o → zW p l e R s m args below meth c cells slots Q D Ca B 2 o N 192 [(0, .ref x0)] [])) : zW p l e R s m args below meth c cells slots Q D Ca B 2 z.1 N 161 [(0, .ref x0), (1, .int z.2)] [] := by
  refine zloop_W (P := fun z : (zS × Int32) => zW p l e R s m args below meth c cells slots Q D Ca B 2 z.1 N 161 [(0, .ref x0), (1, .int z.2)] []) (K := fun x : zS => (∀ o : zS, x = o → zW p l e R s m args below meth c cells slots Q D Ca B 2 o N 192 [(0, .ref x0)] [])) ?_ n z x hf hk
  intro z y hy h1 h2
  refine wsX10_fails_161b C hRm x0 z.1 z.2 y hy ⟨fun z2 e => h1 z2 e, fun o e => (h2 _ e) o rfl⟩
set_option maxRecDepth 100000 in
set_option maxHeartbeats 4000000 in
theorem wfX10_fails (C : zC p s m args meth c cX10_fails RX10 2 D Ca B En) (hRm : zRm R 4 89 cells slots) (σ : zS) (x0 : Nat) (τ : zS) (hf : fX10_fails σ x0 = some τ) (hq : ∀ (pc : Nat) (lv : List (Nat × Value)), decode cX10_fails pc = .ok (.return_, 1) → zW p l e R s m args below meth c cells slots Q D Ca B 2 τ N pc lv []) : zW p l e R s m args below meth c cells slots Q D Ca B 2 σ N 0 [(0, .ref x0)] [] := by
  unfold fX10_fails at hf
  refine z_aload_n C dX10_fails_0 rfl 0 rfl ?_
  obtain ⟨c1, hc1, hf⟩ := zbind hf
  obtain ⟨kc1, hc1⟩ := zck_ok hc1
  refine z_callVv (As := []) (F0 := 4) (L0 := 89) C (mX10_shows l D Ca B En C.2.2.2.2.2.2.2.1 σ N x0  _ hc1) hRm kc1 rfl kw_1428 kw_14 kw_1425 kw_1427 kp_43 hyX10_shows (Nat.le_of_ble_eq_true rfl) (Nat.le_of_ble_eq_true rfl) rfl rfl (Nat.le_of_ble_eq_true rfl) dX10_fails_1 ?_
  refine z_aload_n C dX10_fails_4 rfl 0 rfl ?_
  obtain ⟨v2, hv2, hf⟩ := zbind hf
  refine gf_RX10_21 C hv2 dX10_fails_5 ?_
  refine z_bipush C (zi 67) dX10_fails_8 (by decide) ?_
  refine z_iconst C (zi 0) dX10_fails_10 (by decide) ?_
  obtain ⟨σ3, hσ3, hf⟩ := zbind hf
  refine z_sI C hσ3 dX10_fails_11 ?_
  refine z_aload_n C dX10_fails_12 rfl 0 rfl ?_
  obtain ⟨v4, hv4, hf⟩ := zbind hf
  refine gf_RX10_21 C hv4 dX10_fails_13 ?_
  refine z_bipush C (zi 7) dX10_fails_16 (by decide) ?_
  refine z_aload_n C dX10_fails_18 rfl 0 rfl ?_
  obtain ⟨v5, hv5, hf⟩ := zbind hf
  refine gf_RX10_21 C hv5 dX10_fails_19 ?_
  refine z_bipush C (zi 7) dX10_fails_22 (by decide) ?_
  obtain ⟨v6, hv6, hf⟩ := zbind hf
  refine z_aI C hv6 dX10_fails_24 ?_
  refine z_iconst C (zi 1) dX10_fails_25 (by decide) ?_
  refine z_iadd C dX10_fails_26 ?_
  obtain ⟨σ7, hσ7, hf⟩ := zbind hf
  refine z_sI C hσ7 dX10_fails_27 ?_
  refine z_iconst C (zi 0) dX10_fails_28 (by decide) ?_
  refine z_istore_n (lv2 := [(1, .int ((zi 0))), (0, .ref x0)]) C dX10_fails_29 rfl (by decide) rfl ?_
  obtain ⟨o15, ho15, hf⟩ := zbind hf
  refine z_sub [1, 0] rfl ?_
  refine wsX10_fails_30 C hRm _ zfuel (σ7, (zi 0)) o15 ho15 ?_
  intro z9 e9
  subst e9
  refine z_iconst C (zi 0) dX10_fails_73 (by decide) ?_
  refine z_istore_n (lv2 := [(1, .int ((zi 0))), (0, .ref x0)]) C dX10_fails_74 rfl (by decide) rfl ?_
  obtain ⟨o21, ho21, hf⟩ := zbind hf
  refine z_sub [1, 0] rfl ?_
  refine wsX10_fails_75 C hRm _ zfuel (o15, (zi 0)) o21 ho21 ?_
  intro z9 e9
  subst e9
  refine z_iconst C (zi 0) dX10_fails_104 (by decide) ?_
  refine z_istore_n (lv2 := [(1, .int ((zi 0))), (0, .ref x0)]) C dX10_fails_105 rfl (by decide) rfl ?_
  obtain ⟨o27, ho27, hf⟩ := zbind hf
  refine z_sub [1, 0] rfl ?_
  refine wsX10_fails_106 C hRm _ zfuel (o21, (zi 0)) o27 ho27 ?_
  intro z9 e9
  subst e9
  refine z_bipush C (zi 43) dX10_fails_137 (by decide) ?_
  refine z_istore_n (lv2 := [(1, .int ((zi 43))), (0, .ref x0)]) C dX10_fails_139 rfl (by decide) rfl ?_
  obtain ⟨o31, ho31, hf⟩ := zbind hf
  refine z_sub [1, 0] rfl ?_
  refine wsX10_fails_140 C hRm _ zfuel (o27, (zi 43)) o31 ho31 ?_
  intro z9 e9
  subst e9
  refine z_iconst C (zi 0) dX10_fails_159 (by decide) ?_
  refine z_istore_n (lv2 := [(1, .int ((zi 0))), (0, .ref x0)]) C dX10_fails_160 rfl (by decide) rfl ?_
  obtain ⟨o37, ho37, hf⟩ := zbind hf
  refine z_sub [1, 0] rfl ?_
  refine wsX10_fails_161 C hRm _ zfuel (o31, (zi 0)) o37 ho37 ?_
  intro z9 e9
  subst e9
  refine z_aload_n C dX10_fails_192 rfl 0 rfl ?_
  obtain ⟨c38, hc38, hf⟩ := zbind hf
  obtain ⟨kc38, hc38⟩ := zck_ok hc38
  refine z_callVv (As := []) (F0 := 4) (L0 := 89) C (mX10_emptiesKept l D Ca B En C.2.2.2.2.2.2.2.1 o37 N x0  _ hc38) hRm kc38 rfl kw_1408 kw_14 kw_1405 kw_1407 kp_41 hyX10_emptiesKept (Nat.le_of_ble_eq_true rfl) (Nat.le_of_ble_eq_true rfl) rfl rfl (Nat.le_of_ble_eq_true rfl) dX10_fails_193 ?_
  refine z_aload_n C dX10_fails_196 rfl 0 rfl ?_
  obtain ⟨c39, hc39, hf⟩ := zbind hf
  obtain ⟨kc39, hc39⟩ := zck_ok hc39
  refine z_callVv (As := []) (F0 := 4) (L0 := 89) C (mX10_laysDone l D Ca B En C.2.2.2.2.2.2.2.1 c38 N x0  _ hc39) hRm kc39 rfl kw_1599 kw_14 kw_1596 kw_1598 kp_79 hyX10_laysDone (Nat.le_of_ble_eq_true rfl) (Nat.le_of_ble_eq_true rfl) rfl rfl (Nat.le_of_ble_eq_true rfl) dX10_fails_197 ?_
  cases hf
  exact hq _ _ dX10_fails_200

theorem mX10_fails (l : Launch) (D : va_G) (Ca : Nat → ClassId) (B : Nat) (En : State → Prop) (hE : zEk B En) (σ : zS) (N : Nat) (x0 : Nat) (X : zS) (hf : fX10_fails σ x0 = some X) : zMv l D Ca B En yX10_fails cX10_fails 2 (Option.none : Option Jvm.ClassFile.FieldType) 4 89 [.ref x0] σ N X () :=
  zMet_v (own := RX10) hE (by decide +kernel) rfl (Nat.le_of_ble_eq_true rfl) (fun p e s m args below meth c C hr hRm => wfX10_fails C hRm σ x0 X hf (fun pc lv hd => zfin_v (r := ()) C hr hd))
theorem dX10_parts_0 : decode cX10_parts 0 = .ok (.iconst 0, 1) := by decide +kernel
theorem dX10_parts_1 : decode cX10_parts 1 = .ok (.istore_n 1, 1) := by decide +kernel
theorem dX10_parts_2 : decode cX10_parts 2 = .ok (.iload_n 1, 1) := by decide +kernel
theorem dX10_parts_3 : decode cX10_parts 3 = .ok (.aload_n 0, 1) := by decide +kernel
theorem dX10_parts_4 : decode cX10_parts 4 = .ok (.getfield 75, 3) := by decide +kernel
theorem dX10_parts_7 : decode cX10_parts 7 = .ok (.if_icmp .ge 79, 3) := by decide +kernel
theorem dX10_parts_10 : decode cX10_parts 10 = .ok (.iconst 0, 1) := by decide +kernel
theorem dX10_parts_11 : decode cX10_parts 11 = .ok (.istore_n 2, 1) := by decide +kernel
theorem dX10_parts_12 : decode cX10_parts 12 = .ok (.iload_n 2, 1) := by decide +kernel
theorem dX10_parts_13 : decode cX10_parts 13 = .ok (.iconst 4, 1) := by decide +kernel
theorem dX10_parts_14 : decode cX10_parts 14 = .ok (.if_icmp .ge 66, 3) := by decide +kernel
theorem dX10_parts_17 : decode cX10_parts 17 = .ok (.iload_n 1, 1) := by decide +kernel
theorem dX10_parts_18 : decode cX10_parts 18 = .ok (.iload_n 2, 1) := by decide +kernel
theorem dX10_parts_19 : decode cX10_parts 19 = .ok (.invokestatic 140, 3) := by decide +kernel
theorem dX10_parts_22 : decode cX10_parts 22 = .ok (.istore_n 3, 1) := by decide +kernel
theorem dX10_parts_23 : decode cX10_parts 23 = .ok (.iconst 0, 1) := by decide +kernel
theorem dX10_parts_24 : decode cX10_parts 24 = .ok (.istore 4, 2) := by decide +kernel
theorem dX10_parts_26 : decode cX10_parts 26 = .ok (.iload 4, 2) := by decide +kernel
theorem dX10_parts_28 : decode cX10_parts 28 = .ok (.aload_n 0, 1) := by decide +kernel
theorem dX10_parts_29 : decode cX10_parts 29 = .ok (.getfield 21, 3) := by decide +kernel
theorem dX10_parts_32 : decode cX10_parts 32 = .ok (.iload_n 3, 1) := by decide +kernel
theorem dX10_parts_33 : decode cX10_parts 33 = .ok (.iaload, 1) := by decide +kernel
theorem dX10_parts_34 : decode cX10_parts 34 = .ok (.if_icmp .ge 40, 3) := by decide +kernel
theorem dX10_parts_37 : decode cX10_parts 37 = .ok (.aload_n 0, 1) := by decide +kernel
theorem dX10_parts_38 : decode cX10_parts 38 = .ok (.iload_n 1, 1) := by decide +kernel
theorem dX10_parts_39 : decode cX10_parts 39 = .ok (.aload_n 0, 1) := by decide +kernel
theorem dX10_parts_40 : decode cX10_parts 40 = .ok (.aload_n 0, 1) := by decide +kernel
theorem dX10_parts_41 : decode cX10_parts 41 = .ok (.iload_n 1, 1) := by decide +kernel
theorem dX10_parts_42 : decode cX10_parts 42 = .ok (.aload_n 0, 1) := by decide +kernel
theorem dX10_parts_43 : decode cX10_parts 43 = .ok (.iload_n 3, 1) := by decide +kernel
theorem dX10_parts_44 : decode cX10_parts 44 = .ok (.iload 4, 2) := by decide +kernel
theorem dX10_parts_46 : decode cX10_parts 46 = .ok (.invokevirtual 100, 3) := by decide +kernel
theorem dX10_parts_49 : decode cX10_parts 49 = .ok (.invokevirtual 185, 3) := by decide +kernel
theorem dX10_parts_52 : decode cX10_parts 52 = .ok (.invokevirtual 149, 3) := by decide +kernel
theorem dX10_parts_55 : decode cX10_parts 55 = .ok (.invokestatic 134, 3) := by decide +kernel
theorem dX10_parts_58 : decode cX10_parts 58 = .ok (.aload_n 0, 1) := by decide +kernel
theorem dX10_parts_59 : decode cX10_parts 59 = .ok (.iload_n 3, 1) := by decide +kernel
theorem dX10_parts_60 : decode cX10_parts 60 = .ok (.iload 4, 2) := by decide +kernel
theorem dX10_parts_62 : decode cX10_parts 62 = .ok (.invokevirtual 100, 3) := by decide +kernel
theorem dX10_parts_65 : decode cX10_parts 65 = .ok (.invokevirtual 104, 3) := by decide +kernel
theorem dX10_parts_68 : decode cX10_parts 68 = .ok (.iinc 4 1, 3) := by decide +kernel
theorem dX10_parts_71 : decode cX10_parts 71 = .ok (.goto (-45), 3) := by decide +kernel
theorem dX10_parts_74 : decode cX10_parts 74 = .ok (.iinc 2 1, 3) := by decide +kernel
theorem dX10_parts_77 : decode cX10_parts 77 = .ok (.goto (-65), 3) := by decide +kernel
theorem dX10_parts_80 : decode cX10_parts 80 = .ok (.iinc 1 1, 3) := by decide +kernel
theorem dX10_parts_83 : decode cX10_parts 83 = .ok (.goto (-81), 3) := by decide +kernel
theorem dX10_parts_86 : decode cX10_parts 86 = .ok (.iconst 0, 1) := by decide +kernel
theorem dX10_parts_87 : decode cX10_parts 87 = .ok (.istore_n 1, 1) := by decide +kernel
theorem dX10_parts_88 : decode cX10_parts 88 = .ok (.iload_n 1, 1) := by decide +kernel
theorem dX10_parts_89 : decode cX10_parts 89 = .ok (.aload_n 0, 1) := by decide +kernel
theorem dX10_parts_90 : decode cX10_parts 90 = .ok (.getfield 78, 3) := by decide +kernel
theorem dX10_parts_93 : decode cX10_parts 93 = .ok (.if_icmp .ge 78, 3) := by decide +kernel
theorem dX10_parts_96 : decode cX10_parts 96 = .ok (.iconst 0, 1) := by decide +kernel
theorem dX10_parts_97 : decode cX10_parts 97 = .ok (.istore_n 2, 1) := by decide +kernel
theorem dX10_parts_98 : decode cX10_parts 98 = .ok (.iload_n 2, 1) := by decide +kernel
theorem dX10_parts_99 : decode cX10_parts 99 = .ok (.iconst 4, 1) := by decide +kernel
theorem dX10_parts_100 : decode cX10_parts 100 = .ok (.if_icmp .ge 65, 3) := by decide +kernel
theorem dX10_parts_103 : decode cX10_parts 103 = .ok (.iload_n 2, 1) := by decide +kernel
theorem dX10_parts_104 : decode cX10_parts 104 = .ok (.iload_n 1, 1) := by decide +kernel
theorem dX10_parts_105 : decode cX10_parts 105 = .ok (.invokestatic 146, 3) := by decide +kernel
theorem dX10_parts_108 : decode cX10_parts 108 = .ok (.istore_n 3, 1) := by decide +kernel
theorem dX10_parts_109 : decode cX10_parts 109 = .ok (.iconst 0, 1) := by decide +kernel
theorem dX10_parts_110 : decode cX10_parts 110 = .ok (.istore 4, 2) := by decide +kernel
theorem dX10_parts_112 : decode cX10_parts 112 = .ok (.iload 4, 2) := by decide +kernel
theorem dX10_parts_114 : decode cX10_parts 114 = .ok (.aload_n 0, 1) := by decide +kernel
theorem dX10_parts_115 : decode cX10_parts 115 = .ok (.getfield 21, 3) := by decide +kernel
theorem dX10_parts_118 : decode cX10_parts 118 = .ok (.iload_n 3, 1) := by decide +kernel
theorem dX10_parts_119 : decode cX10_parts 119 = .ok (.iaload, 1) := by decide +kernel
theorem dX10_parts_120 : decode cX10_parts 120 = .ok (.if_icmp .ge 39, 3) := by decide +kernel
theorem dX10_parts_123 : decode cX10_parts 123 = .ok (.aload_n 0, 1) := by decide +kernel
theorem dX10_parts_124 : decode cX10_parts 124 = .ok (.aload_n 0, 1) := by decide +kernel
theorem dX10_parts_125 : decode cX10_parts 125 = .ok (.aload_n 0, 1) := by decide +kernel
theorem dX10_parts_126 : decode cX10_parts 126 = .ok (.iload_n 3, 1) := by decide +kernel
theorem dX10_parts_127 : decode cX10_parts 127 = .ok (.iload 4, 2) := by decide +kernel
theorem dX10_parts_129 : decode cX10_parts 129 = .ok (.invokevirtual 100, 3) := by decide +kernel
theorem dX10_parts_132 : decode cX10_parts 132 = .ok (.sipush 20000, 3) := by decide +kernel
theorem dX10_parts_135 : decode cX10_parts 135 = .ok (.idiv, 1) := by decide +kernel
theorem dX10_parts_136 : decode cX10_parts 136 = .ok (.invokevirtual 149, 3) := by decide +kernel
theorem dX10_parts_139 : decode cX10_parts 139 = .ok (.iload_n 1, 1) := by decide +kernel
theorem dX10_parts_140 : decode cX10_parts 140 = .ok (.invokestatic 137, 3) := by decide +kernel
theorem dX10_parts_143 : decode cX10_parts 143 = .ok (.aload_n 0, 1) := by decide +kernel
theorem dX10_parts_144 : decode cX10_parts 144 = .ok (.iload_n 3, 1) := by decide +kernel
theorem dX10_parts_145 : decode cX10_parts 145 = .ok (.iload 4, 2) := by decide +kernel
theorem dX10_parts_147 : decode cX10_parts 147 = .ok (.invokevirtual 100, 3) := by decide +kernel
theorem dX10_parts_150 : decode cX10_parts 150 = .ok (.invokevirtual 104, 3) := by decide +kernel
theorem dX10_parts_153 : decode cX10_parts 153 = .ok (.iinc 4 1, 3) := by decide +kernel
theorem dX10_parts_156 : decode cX10_parts 156 = .ok (.goto (-44), 3) := by decide +kernel
theorem dX10_parts_159 : decode cX10_parts 159 = .ok (.iinc 2 1, 3) := by decide +kernel
theorem dX10_parts_162 : decode cX10_parts 162 = .ok (.goto (-64), 3) := by decide +kernel
theorem dX10_parts_165 : decode cX10_parts 165 = .ok (.iinc 1 1, 3) := by decide +kernel
theorem dX10_parts_168 : decode cX10_parts 168 = .ok (.goto (-80), 3) := by decide +kernel
theorem dX10_parts_171 : decode cX10_parts 171 = .ok (.aload_n 0, 1) := by decide +kernel
theorem dX10_parts_172 : decode cX10_parts 172 = .ok (.invokevirtual 182, 3) := by decide +kernel
theorem dX10_parts_175 : decode cX10_parts 175 = .ok (.aload_n 0, 1) := by decide +kernel
theorem dX10_parts_176 : decode cX10_parts 176 = .ok (.invokevirtual 131, 3) := by decide +kernel
theorem dX10_parts_179 : decode cX10_parts 179 = .ok (.aload_n 0, 1) := by decide +kernel
theorem dX10_parts_180 : decode cX10_parts 180 = .ok (.invokevirtual 263, 3) := by decide +kernel
theorem dX10_parts_183 : decode cX10_parts 183 = .ok (.return_, 1) := by decide +kernel
theorem hyX10_parts : yX10_parts.cls ≠ "java/lang/invoke/MethodHandle" ∧ yX10_parts.cls ≠ "java/lang/invoke/VarHandle" ∧ (parseMethodDescriptor yX10_parts.desc).map (fun d => d.parameters.length) = some 0 := ⟨by decide +kernel, by decide +kernel, by decide +kernel⟩
set_option maxRecDepth 100000 in
set_option maxHeartbeats 4000000 in
theorem wsX10_parts_26b (C : zC p s m args meth c cX10_parts RX10 5 D Ca B En) (hRm : zRm R 4 89 cells slots) (x0 : Nat) (x1 : Int32) (x2 : Int32) (x3 : Int32) (σ : zS) (u4 : Int32) (y : (zS × Int32) ⊕ zS) (hf : sX10_parts_26b x0 x1 x2 x3 σ u4 = some y) (hk : (∀ z : (zS × Int32), y = .inl z → zW p l e R s m args below meth c cells slots Q D Ca B 5 z.1 N 26 [(0, .ref x0), (1, .int x1), (2, .int x2), (3, .int x3), (4, .int z.2)] []) ∧ (∀ z : zS, y = .inr z → zW p l e R s m args below meth c cells slots Q D Ca B 5 z N 74 [(0, .ref x0), (1, .int x1), (2, .int x2)] [])) : zW p l e R s m args below meth c cells slots Q D Ca B 5 σ N 26 [(0, .ref x0), (1, .int x1), (2, .int x2), (3, .int x3), (4, .int u4)] [] := by
  unfold sX10_parts_26b at hf
  refine z_iload C dX10_parts_26 4 rfl ?_
  refine z_aload_n C dX10_parts_28 rfl 0 rfl ?_
  obtain ⟨v3, hv3, hf⟩ := zbind hf
  refine gf_RX10_21 C hv3 dX10_parts_29 ?_
  refine z_iload_n C dX10_parts_32 rfl 3 rfl ?_
  obtain ⟨v4, hv4, hf⟩ := zbind hf
  refine z_aI C hv4 dX10_parts_33 ?_
  refine z_icmp_ge C 74 dX10_parts_34 (by decide) (fun q11 => ?_) (fun q11 => ?_)
  · rw [if_pos q11] at hf
    cases hf
    refine z_sub [0, 1, 2] rfl ?_
    exact hk.2 _ rfl
  · rw [if_neg q11] at hf
    refine z_aload_n C dX10_parts_37 rfl 0 rfl ?_
    refine z_iload_n C dX10_parts_38 rfl 1 rfl ?_
    refine z_aload_n C dX10_parts_39 rfl 0 rfl ?_
    refine z_aload_n C dX10_parts_40 rfl 0 rfl ?_
    refine z_iload_n C dX10_parts_41 rfl 1 rfl ?_
    refine z_aload_n C dX10_parts_42 rfl 0 rfl ?_
    refine z_iload_n C dX10_parts_43 rfl 3 rfl ?_
    refine z_iload C dX10_parts_44 4 rfl ?_
    obtain ⟨c5, hc5, hf⟩ := zbind hf
    obtain ⟨kc5, hc5⟩ := zck_ok hc5
    refine z_callVi (As := [.int x3, .int u4]) (F0 := 4) (L0 := 89) C (mX10_at l D Ca B En C.2.2.2.2.2.2.2.1 σ N x0 x3 u4 _ hc5) hRm kc5 rfl kw_1439 kw_14 kw_1436 kw_1438 kp_45 hyX10_at (Nat.le_of_ble_eq_true rfl) (Nat.le_of_ble_eq_true rfl) rfl rfl (Nat.le_of_ble_eq_true rfl) dX10_parts_46 ?_
    obtain ⟨c6, hc6, hf⟩ := zbind hf
    obtain ⟨kc6, hc6⟩ := zck_ok hc6
    refine z_callVi (As := [.int x1, .int c5.2]) (F0 := 4) (L0 := 89) C (mX10_keyOf l D Ca B En C.2.2.2.2.2.2.2.1 c5.1 N x0 x1 c5.2 _ hc6) hRm kc6 rfl kw_1454 kw_14 kw_1451 kw_1453 kp_48 hyX10_keyOf (Nat.le_of_ble_eq_true rfl) (Nat.le_of_ble_eq_true rfl) rfl rfl (Nat.le_of_ble_eq_true rfl) dX10_parts_49 ?_
    obtain ⟨c7, hc7, hf⟩ := zbind hf
    obtain ⟨kc7, hc7⟩ := zck_ok hc7
    refine z_callVi (As := [.int c6.2]) (F0 := 4) (L0 := 89) C (mX10_ownerOf l D Ca B En C.2.2.2.2.2.2.2.1 c6.1 N x0 c6.2 _ hc7) hRm kc7 rfl kw_1458 kw_14 kw_1455 kw_1457 kp_49 hyX10_ownerOf (Nat.le_of_ble_eq_true rfl) (Nat.le_of_ble_eq_true rfl) rfl rfl (Nat.le_of_ble_eq_true rfl) dX10_parts_52 ?_
    obtain ⟨c8, hc8, hf⟩ := zbind hf
    refine z_callSi (As := [.int x1, .int c7.2]) (F0 := 4) (L0 := 89) C (mX10_keptIn l D Ca B En C.2.2.2.2.2.2.2.1 c7.1 N x1 c7.2 _ hc8) hRm kw_1411 kw_14 kw_1409 kw_1410 hyX10_keptIn (Nat.le_of_ble_eq_true rfl) (Nat.le_of_ble_eq_true rfl) rfl rfl (Nat.le_of_ble_eq_true rfl) dX10_parts_55 ?_
    refine z_aload_n C dX10_parts_58 rfl 0 rfl ?_
    refine z_iload_n C dX10_parts_59 rfl 3 rfl ?_
    refine z_iload C dX10_parts_60 4 rfl ?_
    obtain ⟨c9, hc9, hf⟩ := zbind hf
    obtain ⟨kc9, hc9⟩ := zck_ok hc9
    refine z_callVi (As := [.int x3, .int u4]) (F0 := 4) (L0 := 89) C (mX10_at l D Ca B En C.2.2.2.2.2.2.2.1 c8.1 N x0 x3 u4 _ hc9) hRm kc9 rfl kw_1439 kw_14 kw_1436 kw_1438 kp_45 hyX10_at (Nat.le_of_ble_eq_true rfl) (Nat.le_of_ble_eq_true rfl) rfl rfl (Nat.le_of_ble_eq_true rfl) dX10_parts_62 ?_
    obtain ⟨c10, hc10, hf⟩ := zbind hf
    obtain ⟨kc10, hc10⟩ := zck_ok hc10
    refine z_callVv (As := [.int c8.2, .int c9.2]) (F0 := 4) (L0 := 89) C (mX10_adds l D Ca B En C.2.2.2.2.2.2.2.1 c9.1 N x0 c8.2 c9.2 _ hc10) hRm kc10 rfl kw_1443 kw_14 kw_1440 kw_1442 kp_46 hyX10_adds (Nat.le_of_ble_eq_true rfl) (Nat.le_of_ble_eq_true rfl) rfl rfl (Nat.le_of_ble_eq_true rfl) dX10_parts_65 ?_
    refine z_iinc (lv2 := [(4, .int (u4 + (zi 1))), (0, .ref x0), (1, .int x1), (2, .int x2), (3, .int x3)]) C (u4 + (zi 1)) dX10_parts_68 4 rfl rfl (by decide) rfl ?_
    refine z_goto C 26 dX10_parts_71 (by decide) ?_
    cases hf
    refine z_sub [1, 2, 3, 4, 0] rfl ?_
    exact hk.1 _ rfl

theorem wsX10_parts_26 (C : zC p s m args meth c cX10_parts RX10 5 D Ca B En) (hRm : zRm R 4 89 cells slots) (x0 : Nat) (x1 : Int32) (x2 : Int32) (x3 : Int32) (n : Nat) (z : (zS × Int32)) (x : zS) (hf : zloop (sX10_parts_26 x0 x1 x2 x3) n z = some x) (hk : (∀ o : zS, x = o → zW p l e R s m args below meth c cells slots Q D Ca B 5 o N 74 [(0, .ref x0), (1, .int x1), (2, .int x2)] [])) : zW p l e R s m args below meth c cells slots Q D Ca B 5 z.1 N 26 [(0, .ref x0), (1, .int x1), (2, .int x2), (3, .int x3), (4, .int z.2)] [] := by
  refine zloop_W (P := fun z : (zS × Int32) => zW p l e R s m args below meth c cells slots Q D Ca B 5 z.1 N 26 [(0, .ref x0), (1, .int x1), (2, .int x2), (3, .int x3), (4, .int z.2)] []) (K := fun x : zS => (∀ o : zS, x = o → zW p l e R s m args below meth c cells slots Q D Ca B 5 o N 74 [(0, .ref x0), (1, .int x1), (2, .int x2)] [])) ?_ n z x hf hk
  intro z y hy h1 h2
  refine wsX10_parts_26b C hRm x0 x1 x2 x3 z.1 z.2 y hy ⟨fun z2 e => h1 z2 e, fun o e => (h2 _ e) o rfl⟩
set_option maxRecDepth 100000 in
set_option maxHeartbeats 4000000 in
theorem wsX10_parts_12b (C : zC p s m args meth c cX10_parts RX10 5 D Ca B En) (hRm : zRm R 4 89 cells slots) (x0 : Nat) (x1 : Int32) (σ : zS) (u2 : Int32) (y : (zS × Int32) ⊕ zS) (hf : sX10_parts_12b x0 x1 σ u2 = some y) (hk : (∀ z : (zS × Int32), y = .inl z → zW p l e R s m args below meth c cells slots Q D Ca B 5 z.1 N 12 [(0, .ref x0), (1, .int x1), (2, .int z.2)] []) ∧ (∀ z : zS, y = .inr z → zW p l e R s m args below meth c cells slots Q D Ca B 5 z N 80 [(0, .ref x0), (1, .int x1)] [])) : zW p l e R s m args below meth c cells slots Q D Ca B 5 σ N 12 [(0, .ref x0), (1, .int x1), (2, .int u2)] [] := by
  unfold sX10_parts_12b at hf
  refine z_iload_n C dX10_parts_12 rfl 2 rfl ?_
  refine z_iconst C (zi 4) dX10_parts_13 (by decide) ?_
  refine z_icmp_ge C 80 dX10_parts_14 (by decide) (fun q13 => ?_) (fun q13 => ?_)
  · rw [if_pos q13] at hf
    cases hf
    refine z_sub [0, 1] rfl ?_
    exact hk.2 _ rfl
  · rw [if_neg q13] at hf
    refine z_iload_n C dX10_parts_17 rfl 1 rfl ?_
    refine z_iload_n C dX10_parts_18 rfl 2 rfl ?_
    obtain ⟨c2, hc2, hf⟩ := zbind hf
    refine z_callSi (As := [.int x1, .int u2]) (F0 := 4) (L0 := 89) C (mX10_doneIn l D Ca B En C.2.2.2.2.2.2.2.1 σ N x1 u2 _ hc2) hRm kw_1571 kw_14 kw_1569 kw_1570 hyX10_doneIn (Nat.le_of_ble_eq_true rfl) (Nat.le_of_ble_eq_true rfl) rfl rfl (Nat.le_of_ble_eq_true rfl) dX10_parts_19 ?_
    refine z_istore_n (lv2 := [(3, .int c2.2), (0, .ref x0), (1, .int x1), (2, .int u2)]) C dX10_parts_22 rfl (by decide) rfl ?_
    refine z_iconst C (zi 0) dX10_parts_23 (by decide) ?_
    refine z_istore (lv2 := [(4, .int ((zi 0))), (3, .int c2.2), (0, .ref x0), (1, .int x1), (2, .int u2)]) C dX10_parts_24 (by decide) rfl ?_
    obtain ⟨o12, ho12, hf⟩ := zbind hf
    refine z_sub [2, 3, 4, 1, 0] rfl ?_
    refine wsX10_parts_26 C hRm _ _ _ _ zfuel (c2.1, (zi 0)) o12 ho12 ?_
    intro z9 e9
    subst e9
    refine z_iinc (lv2 := [(2, .int (u2 + (zi 1))), (0, .ref x0), (1, .int x1)]) C (u2 + (zi 1)) dX10_parts_74 2 rfl rfl (by decide) rfl ?_
    refine z_goto C 12 dX10_parts_77 (by decide) ?_
    cases hf
    refine z_sub [1, 2, 0] rfl ?_
    exact hk.1 _ rfl

theorem wsX10_parts_12 (C : zC p s m args meth c cX10_parts RX10 5 D Ca B En) (hRm : zRm R 4 89 cells slots) (x0 : Nat) (x1 : Int32) (n : Nat) (z : (zS × Int32)) (x : zS) (hf : zloop (sX10_parts_12 x0 x1) n z = some x) (hk : (∀ o : zS, x = o → zW p l e R s m args below meth c cells slots Q D Ca B 5 o N 80 [(0, .ref x0), (1, .int x1)] [])) : zW p l e R s m args below meth c cells slots Q D Ca B 5 z.1 N 12 [(0, .ref x0), (1, .int x1), (2, .int z.2)] [] := by
  refine zloop_W (P := fun z : (zS × Int32) => zW p l e R s m args below meth c cells slots Q D Ca B 5 z.1 N 12 [(0, .ref x0), (1, .int x1), (2, .int z.2)] []) (K := fun x : zS => (∀ o : zS, x = o → zW p l e R s m args below meth c cells slots Q D Ca B 5 o N 80 [(0, .ref x0), (1, .int x1)] [])) ?_ n z x hf hk
  intro z y hy h1 h2
  refine wsX10_parts_12b C hRm x0 x1 z.1 z.2 y hy ⟨fun z2 e => h1 z2 e, fun o e => (h2 _ e) o rfl⟩
set_option maxRecDepth 100000 in
set_option maxHeartbeats 4000000 in
theorem wsX10_parts_2b (C : zC p s m args meth c cX10_parts RX10 5 D Ca B En) (hRm : zRm R 4 89 cells slots) (x0 : Nat) (σ : zS) (u1 : Int32) (y : (zS × Int32) ⊕ zS) (hf : sX10_parts_2b x0 σ u1 = some y) (hk : (∀ z : (zS × Int32), y = .inl z → zW p l e R s m args below meth c cells slots Q D Ca B 5 z.1 N 2 [(0, .ref x0), (1, .int z.2)] []) ∧ (∀ z : zS, y = .inr z → zW p l e R s m args below meth c cells slots Q D Ca B 5 z N 86 [(0, .ref x0)] [])) : zW p l e R s m args below meth c cells slots Q D Ca B 5 σ N 2 [(0, .ref x0), (1, .int u1)] [] := by
  unfold sX10_parts_2b at hf
  refine z_iload_n C dX10_parts_2 rfl 1 rfl ?_
  refine z_aload_n C dX10_parts_3 rfl 0 rfl ?_
  obtain ⟨v1, hv1, hf⟩ := zbind hf
  refine gf_RX10_75 C hv1 dX10_parts_4 ?_
  refine z_icmp_ge C 86 dX10_parts_7 (by decide) (fun q15 => ?_) (fun q15 => ?_)
  · rw [if_pos q15] at hf
    cases hf
    refine z_sub [0] rfl ?_
    exact hk.2 _ rfl
  · rw [if_neg q15] at hf
    refine z_iconst C (zi 0) dX10_parts_10 (by decide) ?_
    refine z_istore_n (lv2 := [(2, .int ((zi 0))), (0, .ref x0), (1, .int u1)]) C dX10_parts_11 rfl (by decide) rfl ?_
    obtain ⟨o14, ho14, hf⟩ := zbind hf
    refine z_sub [1, 2, 0] rfl ?_
    refine wsX10_parts_12 C hRm _ _ zfuel (σ, (zi 0)) o14 ho14 ?_
    intro z9 e9
    subst e9
    refine z_iinc (lv2 := [(1, .int (u1 + (zi 1))), (0, .ref x0)]) C (u1 + (zi 1)) dX10_parts_80 1 rfl rfl (by decide) rfl ?_
    refine z_goto C 2 dX10_parts_83 (by decide) ?_
    cases hf
    refine z_sub [1, 0] rfl ?_
    exact hk.1 _ rfl

theorem wsX10_parts_2 (C : zC p s m args meth c cX10_parts RX10 5 D Ca B En) (hRm : zRm R 4 89 cells slots) (x0 : Nat) (n : Nat) (z : (zS × Int32)) (x : zS) (hf : zloop (sX10_parts_2 x0) n z = some x) (hk : (∀ o : zS, x = o → zW p l e R s m args below meth c cells slots Q D Ca B 5 o N 86 [(0, .ref x0)] [])) : zW p l e R s m args below meth c cells slots Q D Ca B 5 z.1 N 2 [(0, .ref x0), (1, .int z.2)] [] := by
  refine zloop_W (P := fun z : (zS × Int32) => zW p l e R s m args below meth c cells slots Q D Ca B 5 z.1 N 2 [(0, .ref x0), (1, .int z.2)] []) (K := fun x : zS => (∀ o : zS, x = o → zW p l e R s m args below meth c cells slots Q D Ca B 5 o N 86 [(0, .ref x0)] [])) ?_ n z x hf hk
  intro z y hy h1 h2
  refine wsX10_parts_2b C hRm x0 z.1 z.2 y hy ⟨fun z2 e => h1 z2 e, fun o e => (h2 _ e) o rfl⟩
set_option maxRecDepth 100000 in
set_option maxHeartbeats 4000000 in
theorem wsX10_parts_112b (C : zC p s m args meth c cX10_parts RX10 5 D Ca B En) (hRm : zRm R 4 89 cells slots) (x0 : Nat) (x1 : Int32) (x2 : Int32) (x3 : Int32) (σ : zS) (u4 : Int32) (y : (zS × Int32) ⊕ zS) (hf : sX10_parts_112b x0 x1 x2 x3 σ u4 = some y) (hk : (∀ z : (zS × Int32), y = .inl z → zW p l e R s m args below meth c cells slots Q D Ca B 5 z.1 N 112 [(0, .ref x0), (1, .int x1), (2, .int x2), (3, .int x3), (4, .int z.2)] []) ∧ (∀ z : zS, y = .inr z → zW p l e R s m args below meth c cells slots Q D Ca B 5 z N 159 [(0, .ref x0), (1, .int x1), (2, .int x2)] [])) : zW p l e R s m args below meth c cells slots Q D Ca B 5 σ N 112 [(0, .ref x0), (1, .int x1), (2, .int x2), (3, .int x3), (4, .int u4)] [] := by
  unfold sX10_parts_112b at hf
  refine z_iload C dX10_parts_112 4 rfl ?_
  refine z_aload_n C dX10_parts_114 rfl 0 rfl ?_
  obtain ⟨v19, hv19, hf⟩ := zbind hf
  refine gf_RX10_21 C hv19 dX10_parts_115 ?_
  refine z_iload_n C dX10_parts_118 rfl 3 rfl ?_
  obtain ⟨v20, hv20, hf⟩ := zbind hf
  refine z_aI C hv20 dX10_parts_119 ?_
  refine z_icmp_ge C 159 dX10_parts_120 (by decide) (fun q26 => ?_) (fun q26 => ?_)
  · rw [if_pos q26] at hf
    cases hf
    refine z_sub [0, 1, 2] rfl ?_
    exact hk.2 _ rfl
  · rw [if_neg q26] at hf
    refine z_aload_n C dX10_parts_123 rfl 0 rfl ?_
    refine z_aload_n C dX10_parts_124 rfl 0 rfl ?_
    refine z_aload_n C dX10_parts_125 rfl 0 rfl ?_
    refine z_iload_n C dX10_parts_126 rfl 3 rfl ?_
    refine z_iload C dX10_parts_127 4 rfl ?_
    obtain ⟨c21, hc21, hf⟩ := zbind hf
    obtain ⟨kc21, hc21⟩ := zck_ok hc21
    refine z_callVi (As := [.int x3, .int u4]) (F0 := 4) (L0 := 89) C (mX10_at l D Ca B En C.2.2.2.2.2.2.2.1 σ N x0 x3 u4 _ hc21) hRm kc21 rfl kw_1439 kw_14 kw_1436 kw_1438 kp_45 hyX10_at (Nat.le_of_ble_eq_true rfl) (Nat.le_of_ble_eq_true rfl) rfl rfl (Nat.le_of_ble_eq_true rfl) dX10_parts_129 ?_
    refine z_sipush C (zi 20000) dX10_parts_132 (by decide) ?_
    refine z_idiv C dX10_parts_135 (by decide) ?_
    obtain ⟨c22, hc22, hf⟩ := zbind hf
    obtain ⟨kc22, hc22⟩ := zck_ok hc22
    refine z_callVi (As := [.int (c21.2 / ((zi 20000)))]) (F0 := 4) (L0 := 89) C (mX10_ownerOf l D Ca B En C.2.2.2.2.2.2.2.1 c21.1 N x0 (c21.2 / ((zi 20000))) _ hc22) hRm kc22 rfl kw_1458 kw_14 kw_1455 kw_1457 kp_49 hyX10_ownerOf (Nat.le_of_ble_eq_true rfl) (Nat.le_of_ble_eq_true rfl) rfl rfl (Nat.le_of_ble_eq_true rfl) dX10_parts_136 ?_
    refine z_iload_n C dX10_parts_139 rfl 1 rfl ?_
    obtain ⟨c23, hc23, hf⟩ := zbind hf
    refine z_callSi (As := [.int c22.2, .int x1]) (F0 := 4) (L0 := 89) C (mX10_keptOut l D Ca B En C.2.2.2.2.2.2.2.1 c22.1 N c22.2 x1 _ hc23) hRm kw_1421 kw_14 kw_1419 kw_1420 hyX10_keptOut (Nat.le_of_ble_eq_true rfl) (Nat.le_of_ble_eq_true rfl) rfl rfl (Nat.le_of_ble_eq_true rfl) dX10_parts_140 ?_
    refine z_aload_n C dX10_parts_143 rfl 0 rfl ?_
    refine z_iload_n C dX10_parts_144 rfl 3 rfl ?_
    refine z_iload C dX10_parts_145 4 rfl ?_
    obtain ⟨c24, hc24, hf⟩ := zbind hf
    obtain ⟨kc24, hc24⟩ := zck_ok hc24
    refine z_callVi (As := [.int x3, .int u4]) (F0 := 4) (L0 := 89) C (mX10_at l D Ca B En C.2.2.2.2.2.2.2.1 c23.1 N x0 x3 u4 _ hc24) hRm kc24 rfl kw_1439 kw_14 kw_1436 kw_1438 kp_45 hyX10_at (Nat.le_of_ble_eq_true rfl) (Nat.le_of_ble_eq_true rfl) rfl rfl (Nat.le_of_ble_eq_true rfl) dX10_parts_147 ?_
    obtain ⟨c25, hc25, hf⟩ := zbind hf
    obtain ⟨kc25, hc25⟩ := zck_ok hc25
    refine z_callVv (As := [.int c23.2, .int c24.2]) (F0 := 4) (L0 := 89) C (mX10_adds l D Ca B En C.2.2.2.2.2.2.2.1 c24.1 N x0 c23.2 c24.2 _ hc25) hRm kc25 rfl kw_1443 kw_14 kw_1440 kw_1442 kp_46 hyX10_adds (Nat.le_of_ble_eq_true rfl) (Nat.le_of_ble_eq_true rfl) rfl rfl (Nat.le_of_ble_eq_true rfl) dX10_parts_150 ?_
    refine z_iinc (lv2 := [(4, .int (u4 + (zi 1))), (0, .ref x0), (1, .int x1), (2, .int x2), (3, .int x3)]) C (u4 + (zi 1)) dX10_parts_153 4 rfl rfl (by decide) rfl ?_
    refine z_goto C 112 dX10_parts_156 (by decide) ?_
    cases hf
    refine z_sub [1, 2, 3, 4, 0] rfl ?_
    exact hk.1 _ rfl

theorem wsX10_parts_112 (C : zC p s m args meth c cX10_parts RX10 5 D Ca B En) (hRm : zRm R 4 89 cells slots) (x0 : Nat) (x1 : Int32) (x2 : Int32) (x3 : Int32) (n : Nat) (z : (zS × Int32)) (x : zS) (hf : zloop (sX10_parts_112 x0 x1 x2 x3) n z = some x) (hk : (∀ o : zS, x = o → zW p l e R s m args below meth c cells slots Q D Ca B 5 o N 159 [(0, .ref x0), (1, .int x1), (2, .int x2)] [])) : zW p l e R s m args below meth c cells slots Q D Ca B 5 z.1 N 112 [(0, .ref x0), (1, .int x1), (2, .int x2), (3, .int x3), (4, .int z.2)] [] := by
  refine zloop_W (P := fun z : (zS × Int32) => zW p l e R s m args below meth c cells slots Q D Ca B 5 z.1 N 112 [(0, .ref x0), (1, .int x1), (2, .int x2), (3, .int x3), (4, .int z.2)] []) (K := fun x : zS => (∀ o : zS, x = o → zW p l e R s m args below meth c cells slots Q D Ca B 5 o N 159 [(0, .ref x0), (1, .int x1), (2, .int x2)] [])) ?_ n z x hf hk
  intro z y hy h1 h2
  refine wsX10_parts_112b C hRm x0 x1 x2 x3 z.1 z.2 y hy ⟨fun z2 e => h1 z2 e, fun o e => (h2 _ e) o rfl⟩
set_option maxRecDepth 100000 in
set_option maxHeartbeats 4000000 in
theorem wsX10_parts_98b (C : zC p s m args meth c cX10_parts RX10 5 D Ca B En) (hRm : zRm R 4 89 cells slots) (x0 : Nat) (x1 : Int32) (σ : zS) (u2 : Int32) (y : (zS × Int32) ⊕ zS) (hf : sX10_parts_98b x0 x1 σ u2 = some y) (hk : (∀ z : (zS × Int32), y = .inl z → zW p l e R s m args below meth c cells slots Q D Ca B 5 z.1 N 98 [(0, .ref x0), (1, .int x1), (2, .int z.2)] []) ∧ (∀ z : zS, y = .inr z → zW p l e R s m args below meth c cells slots Q D Ca B 5 z N 165 [(0, .ref x0), (1, .int x1)] [])) : zW p l e R s m args below meth c cells slots Q D Ca B 5 σ N 98 [(0, .ref x0), (1, .int x1), (2, .int u2)] [] := by
  unfold sX10_parts_98b at hf
  refine z_iload_n C dX10_parts_98 rfl 2 rfl ?_
  refine z_iconst C (zi 4) dX10_parts_99 (by decide) ?_
  refine z_icmp_ge C 165 dX10_parts_100 (by decide) (fun q28 => ?_) (fun q28 => ?_)
  · rw [if_pos q28] at hf
    cases hf
    refine z_sub [0, 1] rfl ?_
    exact hk.2 _ rfl
  · rw [if_neg q28] at hf
    refine z_iload_n C dX10_parts_103 rfl 2 rfl ?_
    refine z_iload_n C dX10_parts_104 rfl 1 rfl ?_
    obtain ⟨c18, hc18, hf⟩ := zbind hf
    refine z_callSi (As := [.int u2, .int x1]) (F0 := 4) (L0 := 89) C (mX10_doneOut l D Ca B En C.2.2.2.2.2.2.2.1 σ N u2 x1 _ hc18) hRm kw_1574 kw_14 kw_1572 kw_1573 hyX10_doneOut (Nat.le_of_ble_eq_true rfl) (Nat.le_of_ble_eq_true rfl) rfl rfl (Nat.le_of_ble_eq_true rfl) dX10_parts_105 ?_
    refine z_istore_n (lv2 := [(3, .int c18.2), (0, .ref x0), (1, .int x1), (2, .int u2)]) C dX10_parts_108 rfl (by decide) rfl ?_
    refine z_iconst C (zi 0) dX10_parts_109 (by decide) ?_
    refine z_istore (lv2 := [(4, .int ((zi 0))), (3, .int c18.2), (0, .ref x0), (1, .int x1), (2, .int u2)]) C dX10_parts_110 (by decide) rfl ?_
    obtain ⟨o27, ho27, hf⟩ := zbind hf
    refine z_sub [2, 3, 4, 1, 0] rfl ?_
    refine wsX10_parts_112 C hRm _ _ _ _ zfuel (c18.1, (zi 0)) o27 ho27 ?_
    intro z9 e9
    subst e9
    refine z_iinc (lv2 := [(2, .int (u2 + (zi 1))), (0, .ref x0), (1, .int x1)]) C (u2 + (zi 1)) dX10_parts_159 2 rfl rfl (by decide) rfl ?_
    refine z_goto C 98 dX10_parts_162 (by decide) ?_
    cases hf
    refine z_sub [1, 2, 0] rfl ?_
    exact hk.1 _ rfl

theorem wsX10_parts_98 (C : zC p s m args meth c cX10_parts RX10 5 D Ca B En) (hRm : zRm R 4 89 cells slots) (x0 : Nat) (x1 : Int32) (n : Nat) (z : (zS × Int32)) (x : zS) (hf : zloop (sX10_parts_98 x0 x1) n z = some x) (hk : (∀ o : zS, x = o → zW p l e R s m args below meth c cells slots Q D Ca B 5 o N 165 [(0, .ref x0), (1, .int x1)] [])) : zW p l e R s m args below meth c cells slots Q D Ca B 5 z.1 N 98 [(0, .ref x0), (1, .int x1), (2, .int z.2)] [] := by
  refine zloop_W (P := fun z : (zS × Int32) => zW p l e R s m args below meth c cells slots Q D Ca B 5 z.1 N 98 [(0, .ref x0), (1, .int x1), (2, .int z.2)] []) (K := fun x : zS => (∀ o : zS, x = o → zW p l e R s m args below meth c cells slots Q D Ca B 5 o N 165 [(0, .ref x0), (1, .int x1)] [])) ?_ n z x hf hk
  intro z y hy h1 h2
  refine wsX10_parts_98b C hRm x0 x1 z.1 z.2 y hy ⟨fun z2 e => h1 z2 e, fun o e => (h2 _ e) o rfl⟩
set_option maxRecDepth 100000 in
set_option maxHeartbeats 4000000 in
theorem wsX10_parts_88b (C : zC p s m args meth c cX10_parts RX10 5 D Ca B En) (hRm : zRm R 4 89 cells slots) (x0 : Nat) (σ : zS) (u1 : Int32) (y : (zS × Int32) ⊕ zS) (hf : sX10_parts_88b x0 σ u1 = some y) (hk : (∀ z : (zS × Int32), y = .inl z → zW p l e R s m args below meth c cells slots Q D Ca B 5 z.1 N 88 [(0, .ref x0), (1, .int z.2)] []) ∧ (∀ z : zS, y = .inr z → zW p l e R s m args below meth c cells slots Q D Ca B 5 z N 171 [(0, .ref x0)] [])) : zW p l e R s m args below meth c cells slots Q D Ca B 5 σ N 88 [(0, .ref x0), (1, .int u1)] [] := by
  unfold sX10_parts_88b at hf
  refine z_iload_n C dX10_parts_88 rfl 1 rfl ?_
  refine z_aload_n C dX10_parts_89 rfl 0 rfl ?_
  obtain ⟨v17, hv17, hf⟩ := zbind hf
  refine gf_RX10_78 C hv17 dX10_parts_90 ?_
  refine z_icmp_ge C 171 dX10_parts_93 (by decide) (fun q30 => ?_) (fun q30 => ?_)
  · rw [if_pos q30] at hf
    cases hf
    refine z_sub [0] rfl ?_
    exact hk.2 _ rfl
  · rw [if_neg q30] at hf
    refine z_iconst C (zi 0) dX10_parts_96 (by decide) ?_
    refine z_istore_n (lv2 := [(2, .int ((zi 0))), (0, .ref x0), (1, .int u1)]) C dX10_parts_97 rfl (by decide) rfl ?_
    obtain ⟨o29, ho29, hf⟩ := zbind hf
    refine z_sub [1, 2, 0] rfl ?_
    refine wsX10_parts_98 C hRm _ _ zfuel (σ, (zi 0)) o29 ho29 ?_
    intro z9 e9
    subst e9
    refine z_iinc (lv2 := [(1, .int (u1 + (zi 1))), (0, .ref x0)]) C (u1 + (zi 1)) dX10_parts_165 1 rfl rfl (by decide) rfl ?_
    refine z_goto C 88 dX10_parts_168 (by decide) ?_
    cases hf
    refine z_sub [1, 0] rfl ?_
    exact hk.1 _ rfl

theorem wsX10_parts_88 (C : zC p s m args meth c cX10_parts RX10 5 D Ca B En) (hRm : zRm R 4 89 cells slots) (x0 : Nat) (n : Nat) (z : (zS × Int32)) (x : zS) (hf : zloop (sX10_parts_88 x0) n z = some x) (hk : (∀ o : zS, x = o → zW p l e R s m args below meth c cells slots Q D Ca B 5 o N 171 [(0, .ref x0)] [])) : zW p l e R s m args below meth c cells slots Q D Ca B 5 z.1 N 88 [(0, .ref x0), (1, .int z.2)] [] := by
  refine zloop_W (P := fun z : (zS × Int32) => zW p l e R s m args below meth c cells slots Q D Ca B 5 z.1 N 88 [(0, .ref x0), (1, .int z.2)] []) (K := fun x : zS => (∀ o : zS, x = o → zW p l e R s m args below meth c cells slots Q D Ca B 5 o N 171 [(0, .ref x0)] [])) ?_ n z x hf hk
  intro z y hy h1 h2
  refine wsX10_parts_88b C hRm x0 z.1 z.2 y hy ⟨fun z2 e => h1 z2 e, fun o e => (h2 _ e) o rfl⟩
set_option maxRecDepth 100000 in
set_option maxHeartbeats 4000000 in
theorem wfX10_parts (C : zC p s m args meth c cX10_parts RX10 5 D Ca B En) (hRm : zRm R 4 89 cells slots) (σ : zS) (x0 : Nat) (τ : zS) (hf : fX10_parts σ x0 = some τ) (hq : ∀ (pc : Nat) (lv : List (Nat × Value)), decode cX10_parts pc = .ok (.return_, 1) → zW p l e R s m args below meth c cells slots Q D Ca B 5 τ N pc lv []) : zW p l e R s m args below meth c cells slots Q D Ca B 5 σ N 0 [(0, .ref x0)] [] := by
  unfold fX10_parts at hf
  refine z_iconst C (zi 0) dX10_parts_0 (by decide) ?_
  refine z_istore_n (lv2 := [(1, .int ((zi 0))), (0, .ref x0)]) C dX10_parts_1 rfl (by decide) rfl ?_
  obtain ⟨o16, ho16, hf⟩ := zbind hf
  refine z_sub [1, 0] rfl ?_
  refine wsX10_parts_2 C hRm _ zfuel (σ, (zi 0)) o16 ho16 ?_
  intro z9 e9
  subst e9
  refine z_iconst C (zi 0) dX10_parts_86 (by decide) ?_
  refine z_istore_n (lv2 := [(1, .int ((zi 0))), (0, .ref x0)]) C dX10_parts_87 rfl (by decide) rfl ?_
  obtain ⟨o31, ho31, hf⟩ := zbind hf
  refine z_sub [1, 0] rfl ?_
  refine wsX10_parts_88 C hRm _ zfuel (o16, (zi 0)) o31 ho31 ?_
  intro z9 e9
  subst e9
  refine z_aload_n C dX10_parts_171 rfl 0 rfl ?_
  obtain ⟨c32, hc32, hf⟩ := zbind hf
  obtain ⟨kc32, hc32⟩ := zck_ok hc32
  refine z_callVv (As := []) (F0 := 4) (L0 := 89) C (mX10_laysKept l D Ca B En C.2.2.2.2.2.2.2.1 o31 N x0  _ hc32) hRm kc32 rfl kw_1568 kw_14 kw_1565 kw_1567 kp_75 hyX10_laysKept (Nat.le_of_ble_eq_true rfl) (Nat.le_of_ble_eq_true rfl) rfl rfl (Nat.le_of_ble_eq_true rfl) dX10_parts_172 ?_
  refine z_aload_n C dX10_parts_175 rfl 0 rfl ?_
  obtain ⟨c33, hc33, hf⟩ := zbind hf
  obtain ⟨kc33, hc33⟩ := zck_ok hc33
  refine z_callVv (As := []) (F0 := 4) (L0 := 89) C (mX10_emptiesKept l D Ca B En C.2.2.2.2.2.2.2.1 c32 N x0  _ hc33) hRm kc33 rfl kw_1408 kw_14 kw_1405 kw_1407 kp_41 hyX10_emptiesKept (Nat.le_of_ble_eq_true rfl) (Nat.le_of_ble_eq_true rfl) rfl rfl (Nat.le_of_ble_eq_true rfl) dX10_parts_176 ?_
  refine z_aload_n C dX10_parts_179 rfl 0 rfl ?_
  obtain ⟨c34, hc34, hf⟩ := zbind hf
  obtain ⟨kc34, hc34⟩ := zck_ok hc34
  refine z_callVv (As := []) (F0 := 4) (L0 := 89) C (mX10_laysDone l D Ca B En C.2.2.2.2.2.2.2.1 c33 N x0  _ hc34) hRm kc34 rfl kw_1599 kw_14 kw_1596 kw_1598 kp_79 hyX10_laysDone (Nat.le_of_ble_eq_true rfl) (Nat.le_of_ble_eq_true rfl) rfl rfl (Nat.le_of_ble_eq_true rfl) dX10_parts_180 ?_
  cases hf
  exact hq _ _ dX10_parts_183

theorem mX10_parts (l : Launch) (D : va_G) (Ca : Nat → ClassId) (B : Nat) (En : State → Prop) (hE : zEk B En) (σ : zS) (N : Nat) (x0 : Nat) (X : zS) (hf : fX10_parts σ x0 = some X) : zMv l D Ca B En yX10_parts cX10_parts 5 (Option.none : Option Jvm.ClassFile.FieldType) 4 89 [.ref x0] σ N X () :=
  zMet_v (own := RX10) hE (by decide +kernel) rfl (Nat.le_of_ble_eq_true rfl) (fun p e s m args below meth c C hr hRm => wfX10_parts C hRm σ x0 X hf (fun pc lv hd => zfin_v (r := ()) C hr hd))
theorem dX10_rescales_0 : decode cX10_rescales 0 = .ok (.aload_n 0, 1) := by decide +kernel
theorem dX10_rescales_1 : decode cX10_rescales 1 = .ok (.invokevirtual 266, 3) := by decide +kernel
theorem dX10_rescales_4 : decode cX10_rescales 4 = .ok (.aload_n 0, 1) := by decide +kernel
theorem dX10_rescales_5 : decode cX10_rescales 5 = .ok (.getfield 21, 3) := by decide +kernel
theorem dX10_rescales_8 : decode cX10_rescales 8 = .ok (.iconst 1, 1) := by decide +kernel
theorem dX10_rescales_9 : decode cX10_rescales 9 = .ok (.iaload, 1) := by decide +kernel
theorem dX10_rescales_10 : decode cX10_rescales 10 = .ok (.istore_n 2, 1) := by decide +kernel
theorem dX10_rescales_11 : decode cX10_rescales 11 = .ok (.aload_n 0, 1) := by decide +kernel
theorem dX10_rescales_12 : decode cX10_rescales 12 = .ok (.getfield 21, 3) := by decide +kernel
theorem dX10_rescales_15 : decode cX10_rescales 15 = .ok (.iconst 1, 1) := by decide +kernel
theorem dX10_rescales_16 : decode cX10_rescales 16 = .ok (.iload_n 1, 1) := by decide +kernel
theorem dX10_rescales_17 : decode cX10_rescales 17 = .ok (.iastore, 1) := by decide +kernel
theorem dX10_rescales_18 : decode cX10_rescales 18 = .ok (.aload_n 0, 1) := by decide +kernel
theorem dX10_rescales_19 : decode cX10_rescales 19 = .ok (.invokevirtual 269, 3) := by decide +kernel
theorem dX10_rescales_22 : decode cX10_rescales 22 = .ok (.iconst 0, 1) := by decide +kernel
theorem dX10_rescales_23 : decode cX10_rescales 23 = .ok (.istore_n 3, 1) := by decide +kernel
theorem dX10_rescales_24 : decode cX10_rescales 24 = .ok (.iconst 0, 1) := by decide +kernel
theorem dX10_rescales_25 : decode cX10_rescales 25 = .ok (.istore 4, 2) := by decide +kernel
theorem dX10_rescales_27 : decode cX10_rescales 27 = .ok (.iload 4, 2) := by decide +kernel
theorem dX10_rescales_29 : decode cX10_rescales 29 = .ok (.bipush 8, 2) := by decide +kernel
theorem dX10_rescales_31 : decode cX10_rescales 31 = .ok (.if_icmp .ge 28, 3) := by decide +kernel
theorem dX10_rescales_34 : decode cX10_rescales 34 = .ok (.iload 4, 2) := by decide +kernel
theorem dX10_rescales_36 : decode cX10_rescales 36 = .ok (.iload_n 2, 1) := by decide +kernel
theorem dX10_rescales_37 : decode cX10_rescales 37 = .ok (.invokestatic 128, 3) := by decide +kernel
theorem dX10_rescales_40 : decode cX10_rescales 40 = .ok (.iload 4, 2) := by decide +kernel
theorem dX10_rescales_42 : decode cX10_rescales 42 = .ok (.iload_n 1, 1) := by decide +kernel
theorem dX10_rescales_43 : decode cX10_rescales 43 = .ok (.invokestatic 128, 3) := by decide +kernel
theorem dX10_rescales_46 : decode cX10_rescales 46 = .ok (.if_icmp .eq 7, 3) := by decide +kernel
theorem dX10_rescales_49 : decode cX10_rescales 49 = .ok (.iload_n 3, 1) := by decide +kernel
theorem dX10_rescales_50 : decode cX10_rescales 50 = .ok (.iconst 1, 1) := by decide +kernel
theorem dX10_rescales_51 : decode cX10_rescales 51 = .ok (.iadd, 1) := by decide +kernel
theorem dX10_rescales_52 : decode cX10_rescales 52 = .ok (.istore_n 3, 1) := by decide +kernel
theorem dX10_rescales_53 : decode cX10_rescales 53 = .ok (.iinc 4 1, 3) := by decide +kernel
theorem dX10_rescales_56 : decode cX10_rescales 56 = .ok (.goto (-29), 3) := by decide +kernel
theorem dX10_rescales_59 : decode cX10_rescales 59 = .ok (.iload_n 3, 1) := by decide +kernel
theorem dX10_rescales_60 : decode cX10_rescales 60 = .ok (.ireturn, 1) := by decide +kernel
theorem hyX10_rescales : yX10_rescales.cls ≠ "java/lang/invoke/MethodHandle" ∧ yX10_rescales.cls ≠ "java/lang/invoke/VarHandle" ∧ (parseMethodDescriptor yX10_rescales.desc).map (fun d => d.parameters.length) = some 1 := ⟨by decide +kernel, by decide +kernel, by decide +kernel⟩
set_option maxRecDepth 100000 in
set_option maxHeartbeats 4000000 in
theorem wjX10_rescales_53_L27 (C : zC p s m args meth c cX10_rescales RX10 5 D Ca B En) (hRm : zRm R 5 113 cells slots) (σ : zS) (x1 : Int32) (x2 : Int32) (x3 : Int32) (x4 : Int32)  (y : (zS × Int32 × Int32) ⊕ (zS × Int32)) (hf : jX10_rescales_53_L27 σ x1 x2 x3 x4  = some y) (hk : (∀ z : (zS × Int32 × Int32), y = .inl z → zW p l e R s m args below meth c cells slots Q D Ca B 5 z.1 N 27 [(1, .int x1), (2, .int x2), (3, .int z.2.1), (4, .int z.2.2)] []) ∧ (∀ z : (zS × Int32), y = .inr z → zW p l e R s m args below meth c cells slots Q D Ca B 5 z.1 N 59 [(3, .int z.2)] [])) : zW p l e R s m args below meth c cells slots Q D Ca B 5 σ N 53 [(1, .int x1), (2, .int x2), (3, .int x3), (4, .int x4)] [] := by
  unfold jX10_rescales_53_L27 at hf
  refine z_iinc (lv2 := [(4, .int (x4 + (zi 1))), (1, .int x1), (2, .int x2), (3, .int x3)]) C (x4 + (zi 1)) dX10_rescales_53 3 rfl rfl (by decide) rfl ?_
  refine z_goto C 27 dX10_rescales_56 (by decide) ?_
  cases hf
  refine z_sub [1, 2, 3, 0] rfl ?_
  exact hk.1 _ rfl

set_option maxRecDepth 100000 in
set_option maxHeartbeats 4000000 in
theorem wsX10_rescales_27b (C : zC p s m args meth c cX10_rescales RX10 5 D Ca B En) (hRm : zRm R 5 113 cells slots) (x1 : Int32) (x2 : Int32) (σ : zS) (u3 : Int32) (u4 : Int32) (y : (zS × Int32 × Int32) ⊕ (zS × Int32)) (hf : sX10_rescales_27b x1 x2 σ u3 u4 = some y) (hk : (∀ z : (zS × Int32 × Int32), y = .inl z → zW p l e R s m args below meth c cells slots Q D Ca B 5 z.1 N 27 [(1, .int x1), (2, .int x2), (3, .int z.2.1), (4, .int z.2.2)] []) ∧ (∀ z : (zS × Int32), y = .inr z → zW p l e R s m args below meth c cells slots Q D Ca B 5 z.1 N 59 [(3, .int z.2)] [])) : zW p l e R s m args below meth c cells slots Q D Ca B 5 σ N 27 [(1, .int x1), (2, .int x2), (3, .int u3), (4, .int u4)] [] := by
  unfold sX10_rescales_27b at hf
  refine z_iload C dX10_rescales_27 3 rfl ?_
  refine z_bipush C (zi 8) dX10_rescales_29 (by decide) ?_
  refine z_icmp_ge C 59 dX10_rescales_31 (by decide) (fun q10 => ?_) (fun q10 => ?_)
  · rw [if_pos q10] at hf
    cases hf
    refine z_sub [2] rfl ?_
    exact hk.2 _ rfl
  · rw [if_neg q10] at hf
    refine z_iload C dX10_rescales_34 3 rfl ?_
    refine z_iload_n C dX10_rescales_36 rfl 1 rfl ?_
    obtain ⟨c7, hc7, hf⟩ := zbind hf
    refine z_callSi (As := [.int u4, .int x2]) (F0 := 5) (L0 := 113) C (mX10_ownerAmong l D Ca B En C.2.2.2.2.2.2.2.1 σ N u4 x2 _ hc7) hRm kw_1461 kw_14 kw_1459 kw_1460 hyX10_ownerAmong (Nat.le_of_ble_eq_true rfl) (Nat.le_of_ble_eq_true rfl) rfl rfl (Nat.le_of_ble_eq_true rfl) dX10_rescales_37 ?_
    refine z_iload C dX10_rescales_40 3 rfl ?_
    refine z_iload_n C dX10_rescales_42 rfl 0 rfl ?_
    obtain ⟨c8, hc8, hf⟩ := zbind hf
    refine z_callSi (As := [.int u4, .int x1]) (F0 := 5) (L0 := 113) C (mX10_ownerAmong l D Ca B En C.2.2.2.2.2.2.2.1 c7.1 N u4 x1 _ hc8) hRm kw_1461 kw_14 kw_1459 kw_1460 hyX10_ownerAmong (Nat.le_of_ble_eq_true rfl) (Nat.le_of_ble_eq_true rfl) rfl rfl (Nat.le_of_ble_eq_true rfl) dX10_rescales_43 ?_
    refine z_icmp_eq C 53 dX10_rescales_46 (by decide) (fun q9 => ?_) (fun q9 => ?_)
    · rw [if_pos q9] at hf
      refine z_sub [0, 1, 2, 3] rfl ?_
      exact wjX10_rescales_53_L27 C hRm _ _ _ _ _  _ hf hk
    · rw [if_neg q9] at hf
      refine z_iload_n C dX10_rescales_49 rfl 2 rfl ?_
      refine z_iconst C (zi 1) dX10_rescales_50 (by decide) ?_
      refine z_iadd C dX10_rescales_51 ?_
      refine z_istore_n (lv2 := [(3, .int (u3 + ((zi 1)))), (1, .int x1), (2, .int x2), (4, .int u4)]) C dX10_rescales_52 rfl (by decide) rfl ?_
      refine z_sub [1, 2, 0, 3] rfl ?_
      exact wjX10_rescales_53_L27 C hRm _ _ _ _ _  _ hf hk

theorem wsX10_rescales_27 (C : zC p s m args meth c cX10_rescales RX10 5 D Ca B En) (hRm : zRm R 5 113 cells slots) (x1 : Int32) (x2 : Int32) (n : Nat) (z : (zS × Int32 × Int32)) (x : (zS × Int32)) (hf : zloop (sX10_rescales_27 x1 x2) n z = some x) (hk : (∀ o : (zS × Int32), x = o → zW p l e R s m args below meth c cells slots Q D Ca B 5 o.1 N 59 [(3, .int o.2)] [])) : zW p l e R s m args below meth c cells slots Q D Ca B 5 z.1 N 27 [(1, .int x1), (2, .int x2), (3, .int z.2.1), (4, .int z.2.2)] [] := by
  refine zloop_W (P := fun z : (zS × Int32 × Int32) => zW p l e R s m args below meth c cells slots Q D Ca B 5 z.1 N 27 [(1, .int x1), (2, .int x2), (3, .int z.2.1), (4, .int z.2.2)] []) (K := fun x : (zS × Int32) => (∀ o : (zS × Int32), x = o → zW p l e R s m args below meth c cells slots Q D Ca B 5 o.1 N 59 [(3, .int o.2)] [])) ?_ n z x hf hk
  intro z y hy h1 h2
  refine wsX10_rescales_27b C hRm x1 x2 z.1 z.2.1 z.2.2 y hy ⟨fun z2 e => h1 z2 e, fun o e => (h2 _ e) o rfl⟩
set_option maxRecDepth 100000 in
set_option maxHeartbeats 4000000 in
theorem wfX10_rescales (C : zC p s m args meth c cX10_rescales RX10 5 D Ca B En) (hRm : zRm R 5 113 cells slots) (σ : zS) (x0 : Nat) (x1 : Int32) (τ : zS) (r : Int32) (hf : fX10_rescales σ x0 x1 = some (τ, r)) (hq : ∀ (pc : Nat) (lv : List (Nat × Value)), decode cX10_rescales pc = .ok (.ireturn, 1) → zW p l e R s m args below meth c cells slots Q D Ca B 5 τ N pc lv [.int r]) : zW p l e R s m args below meth c cells slots Q D Ca B 5 σ N 0 [(0, .ref x0), (1, .int x1)] [] := by
  unfold fX10_rescales at hf
  refine z_aload_n C dX10_rescales_0 rfl 0 rfl ?_
  obtain ⟨c1, hc1, hf⟩ := zbind hf
  obtain ⟨kc1, hc1⟩ := zck_ok hc1
  refine z_callVv (As := []) (F0 := 5) (L0 := 113) C (mX10_fails l D Ca B En C.2.2.2.2.2.2.2.1 σ N x0  _ hc1) hRm kc1 rfl kw_1595 kw_14 kw_1592 kw_1594 kp_78 hyX10_fails (Nat.le_of_ble_eq_true rfl) (Nat.le_of_ble_eq_true rfl) rfl rfl (Nat.le_of_ble_eq_true rfl) dX10_rescales_1 ?_
  refine z_aload_n C dX10_rescales_4 rfl 0 rfl ?_
  obtain ⟨v2, hv2, hf⟩ := zbind hf
  refine gf_RX10_21 C hv2 dX10_rescales_5 ?_
  refine z_iconst C (zi 1) dX10_rescales_8 (by decide) ?_
  obtain ⟨v3, hv3, hf⟩ := zbind hf
  refine z_aI C hv3 dX10_rescales_9 ?_
  refine z_istore_n (lv2 := [(2, .int v3), (0, .ref x0), (1, .int x1)]) C dX10_rescales_10 rfl (by decide) rfl ?_
  refine z_aload_n C dX10_rescales_11 rfl 1 rfl ?_
  obtain ⟨v4, hv4, hf⟩ := zbind hf
  refine gf_RX10_21 C hv4 dX10_rescales_12 ?_
  refine z_iconst C (zi 1) dX10_rescales_15 (by decide) ?_
  refine z_iload_n C dX10_rescales_16 rfl 2 rfl ?_
  obtain ⟨σ5, hσ5, hf⟩ := zbind hf
  refine z_sI C hσ5 dX10_rescales_17 ?_
  refine z_aload_n C dX10_rescales_18 rfl 1 rfl ?_
  obtain ⟨c6, hc6, hf⟩ := zbind hf
  obtain ⟨kc6, hc6⟩ := zck_ok hc6
  refine z_callVv (As := []) (F0 := 5) (L0 := 113) C (mX10_parts l D Ca B En C.2.2.2.2.2.2.2.1 σ5 N x0  _ hc6) hRm kc6 rfl kw_1615 kw_14 kw_1612 kw_1614 kp_81 hyX10_parts (Nat.le_of_ble_eq_true rfl) (Nat.le_of_ble_eq_true rfl) rfl rfl (Nat.le_of_ble_eq_true rfl) dX10_rescales_19 ?_
  refine z_iconst C (zi 0) dX10_rescales_22 (by decide) ?_
  refine z_istore_n (lv2 := [(3, .int ((zi 0))), (2, .int v3), (0, .ref x0), (1, .int x1)]) C dX10_rescales_23 rfl (by decide) rfl ?_
  refine z_iconst C (zi 0) dX10_rescales_24 (by decide) ?_
  refine z_istore (lv2 := [(4, .int ((zi 0))), (3, .int ((zi 0))), (2, .int v3), (0, .ref x0), (1, .int x1)]) C dX10_rescales_25 (by decide) rfl ?_
  obtain ⟨o11, ho11, hf⟩ := zbind hf
  refine z_sub [4, 2, 1, 0] rfl ?_
  refine wsX10_rescales_27 C hRm _ _ zfuel (c6, (zi 0), (zi 0)) o11 ho11 ?_
  intro z9 e9
  subst e9
  refine z_iload_n C dX10_rescales_59 rfl 0 rfl ?_
  cases hf
  exact hq _ _ dX10_rescales_60

theorem mX10_rescales (l : Launch) (D : va_G) (Ca : Nat → ClassId) (B : Nat) (En : State → Prop) (hE : zEk B En) (σ : zS) (N : Nat) (x0 : Nat) (x1 : Int32) (X : zS × Int32) (hf : fX10_rescales σ x0 x1 = some X) : zMi l D Ca B En yX10_rescales cX10_rescales 5 (Option.some Jvm.ClassFile.FieldType.int) 5 113 [.ref x0, .int x1] σ N X.1 X.2 :=
  zMet_i (own := RX10) hE (by decide +kernel) rfl (Nat.le_of_ble_eq_true rfl) (fun p e s m args below meth c C hr hRm => wfX10_rescales C hRm σ x0 x1 X.1 X.2 hf (fun pc lv hd => zfin_i C hr hd))
end ZM
