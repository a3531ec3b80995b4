/-! Methods: X10_removes, X10_empties, X10_addsAll, X10_becomes, X10_barrierIn, X10_barriers, X10_things, X10_isFull, X10_channelIn, X10_channelOut, X10_toInstance, X10_toSink, X10_keptIn, X10_keptOut, X10_doneIn, X10_doneOut, X10_results, X10_keyOf, X10_valueOf, X10_ownerAmong, X10_ownerOf, X10_sinkOf, X10_emptiesKept, X10_begins, X10_laysKept, X10_overtakes, X10_arrivedAt, X10_arrivedAtSink, X10_notes, X10_closes, X10_aligns -/
section ZM
variable {p : Program} {l : Launch} {e : Env} {R : Room} {s : State} {m : MethodId} {args : Array Value} {below : List Frame} {meth : Method} {c : Code} {cells slots : Nat} {Q : State → Prop} {D : va_G} {Ca : Nat → ClassId} {B : Nat} {En : State → Prop} {N : Nat}
theorem dX10_removes_0 : decode cX10_removes 0 = .ok (.aload_n 0, 1) := by decide +kernel
theorem dX10_removes_1 : decode cX10_removes 1 = .ok (.getfield 21, 3) := by decide +kernel
theorem dX10_removes_4 : decode cX10_removes 4 = .ok (.iload_n 1, 1) := by decide +kernel
theorem dX10_removes_5 : decode cX10_removes 5 = .ok (.aload_n 0, 1) := by decide +kernel
theorem dX10_removes_6 : decode cX10_removes 6 = .ok (.getfield 21, 3) := by decide +kernel
theorem dX10_removes_9 : decode cX10_removes 9 = .ok (.iload_n 1, 1) := by decide +kernel
theorem dX10_removes_10 : decode cX10_removes 10 = .ok (.iaload, 1) := by decide +kernel
theorem dX10_removes_11 : decode cX10_removes 11 = .ok (.iconst 1, 1) := by decide +kernel
theorem dX10_removes_12 : decode cX10_removes 12 = .ok (.isub, 1) := by decide +kernel
theorem dX10_removes_13 : decode cX10_removes 13 = .ok (.iastore, 1) := by decide +kernel
theorem dX10_removes_14 : decode cX10_removes 14 = .ok (.iload_n 2, 1) := by decide +kernel
theorem dX10_removes_15 : decode cX10_removes 15 = .ok (.istore_n 3, 1) := by decide +kernel
theorem dX10_removes_16 : decode cX10_removes 16 = .ok (.iload_n 3, 1) := by decide +kernel
theorem dX10_removes_17 : decode cX10_removes 17 = .ok (.aload_n 0, 1) := by decide +kernel
theorem dX10_removes_18 : decode cX10_removes 18 = .ok (.getfield 21, 3) := by decide +kernel
theorem dX10_removes_21 : decode cX10_removes 21 = .ok (.iload_n 1, 1) := by decide +kernel
theorem dX10_removes_22 : decode cX10_removes 22 = .ok (.iaload, 1) := by decide +kernel
theorem dX10_removes_23 : decode cX10_removes 23 = .ok (.if_icmp .ge 29, 3) := by decide +kernel
theorem dX10_removes_26 : decode cX10_removes 26 = .ok (.aload_n 0, 1) := by decide +kernel
theorem dX10_removes_27 : decode cX10_removes 27 = .ok (.getfield 21, 3) := by decide +kernel
theorem dX10_removes_30 : decode cX10_removes 30 = .ok (.iload_n 1, 1) := by decide +kernel
theorem dX10_removes_31 : decode cX10_removes 31 = .ok (.iconst 1, 1) := by decide +kernel
theorem dX10_removes_32 : decode cX10_removes 32 = .ok (.iadd, 1) := by decide +kernel
theorem dX10_removes_33 : decode cX10_removes 33 = .ok (.iload_n 3, 1) := by decide +kernel
theorem dX10_removes_34 : decode cX10_removes 34 = .ok (.iadd, 1) := by decide +kernel
theorem dX10_removes_35 : decode cX10_removes 35 = .ok (.aload_n 0, 1) := by decide +kernel
theorem dX10_removes_36 : decode cX10_removes 36 = .ok (.getfield 21, 3) := by decide +kernel
theorem dX10_removes_39 : decode cX10_removes 39 = .ok (.iload_n 1, 1) := by decide +kernel
theorem dX10_removes_40 : decode cX10_removes 40 = .ok (.iconst 2, 1) := by decide +kernel
theorem dX10_removes_41 : decode cX10_removes 41 = .ok (.iadd, 1) := by decide +kernel
theorem dX10_removes_42 : decode cX10_removes 42 = .ok (.iload_n 3, 1) := by decide +kernel
theorem dX10_removes_43 : decode cX10_removes 43 = .ok (.iadd, 1) := by decide +kernel
theorem dX10_removes_44 : decode cX10_removes 44 = .ok (.iaload, 1) := by decide +kernel
theorem dX10_removes_45 : decode cX10_removes 45 = .ok (.iastore, 1) := by decide +kernel
theorem dX10_removes_46 : decode cX10_removes 46 = .ok (.iinc 3 1, 3) := by decide +kernel
theorem dX10_removes_49 : decode cX10_removes 49 = .ok (.goto (-33), 3) := by decide +kernel
theorem dX10_removes_52 : decode cX10_removes 52 = .ok (.return_, 1) := by decide +kernel
theorem hyX10_removes : yX10_removes.cls ≠ "java/lang/invoke/MethodHandle" ∧ yX10_removes.cls ≠ "java/lang/invoke/VarHandle" ∧ (parseMethodDescriptor yX10_removes.desc).map (fun d => d.parameters.length) = some 2 := ⟨by decide +kernel, by decide +kernel, by decide +kernel⟩
set_option maxRecDepth 100000 in
set_option maxHeartbeats 4000000 in
theorem wsX10_removes_16b (C : zC p s m args meth c cX10_removes RX10 4 D Ca B En) (hRm : zRm R 0 0 cells slots) (x0 : Nat) (x1 : Int32) (σ : zS) (u3 : Int32) (y : (zS × Int32) ⊕ zS) (hf : sX10_removes_16b x0 x1 σ u3 = some y) (hk : (∀ z : (zS × Int32), y = .inl z → zW p l e R s m args below meth c cells slots Q D Ca B 4 z.1 N 16 [(0, .ref x0), (1, .int x1), (3, .int z.2)] []) ∧ (∀ z : zS, y = .inr z → zW p l e R s m args below meth c cells slots Q D Ca B 4 z N 52 [] [])) : zW p l e R s m args below meth c cells slots Q D Ca B 4 σ N 16 [(0, .ref x0), (1, .int x1), (3, .int u3)] [] := by
  unfold sX10_removes_16b at hf
  refine z_iload_n C dX10_removes_16 rfl 2 rfl ?_
  refine z_aload_n C dX10_removes_17 rfl 0 rfl ?_
  obtain ⟨v5, hv5, hf⟩ := zbind hf
  refine gf_RX10_21 C hv5 dX10_removes_18 ?_
  refine z_iload_n C dX10_removes_21 rfl 1 rfl ?_
  obtain ⟨v6, hv6, hf⟩ := zbind hf
  refine z_aI C hv6 dX10_removes_22 ?_
  refine z_icmp_ge C 52 dX10_removes_23 (by decide) (fun q11 => ?_) (fun q11 => ?_)
  · rw [if_pos q11] at hf
    cases hf
    refine z_sub [] rfl ?_
    exact hk.2 _ rfl
  · rw [if_neg q11] at hf
    refine z_aload_n C dX10_removes_26 rfl 0 rfl ?_
    obtain ⟨v7, hv7, hf⟩ := zbind hf
    refine gf_RX10_21 C hv7 dX10_removes_27 ?_
    refine z_iload_n C dX10_removes_30 rfl 1 rfl ?_
    refine z_iconst C (zi 1) dX10_removes_31 (by decide) ?_
    refine z_iadd C dX10_removes_32 ?_
    refine z_iload_n C dX10_removes_33 rfl 2 rfl ?_
    refine z_iadd C dX10_removes_34 ?_
    refine z_aload_n C dX10_removes_35 rfl 0 rfl ?_
    obtain ⟨v8, hv8, hf⟩ := zbind hf
    refine gf_RX10_21 C hv8 dX10_removes_36 ?_
    refine z_iload_n C dX10_removes_39 rfl 1 rfl ?_
    refine z_iconst C (zi 2) dX10_removes_40 (by decide) ?_
    refine z_iadd C dX10_removes_41 ?_
    refine z_iload_n C dX10_removes_42 rfl 2 rfl ?_
    refine z_iadd C dX10_removes_43 ?_
    obtain ⟨v9, hv9, hf⟩ := zbind hf
    refine z_aI C hv9 dX10_removes_44 ?_
    obtain ⟨σ10, hσ10, hf⟩ := zbind hf
    refine z_sI C hσ10 dX10_removes_45 ?_
    refine z_iinc (lv2 := [(3, .int (u3 + (zi 1))), (0, .ref x0), (1, .int x1)]) C (u3 + (zi 1)) dX10_removes_46 2 rfl rfl (by decide) rfl ?_
    refine z_goto C 16 dX10_removes_49 (by decide) ?_
    cases hf
    refine z_sub [1, 2, 0] rfl ?_
    exact hk.1 _ rfl

theorem wsX10_removes_16 (C : zC p s m args meth c cX10_removes RX10 4 D Ca B En) (hRm : zRm R 0 0 cells slots) (x0 : Nat) (x1 : Int32) (n : Nat) (z : (zS × Int32)) (x : zS) (hf : zloop (sX10_removes_16 x0 x1) n z = some x) (hk : (∀ o : zS, x = o → zW p l e R s m args below meth c cells slots Q D Ca B 4 o N 52 [] [])) : zW p l e R s m args below meth c cells slots Q D Ca B 4 z.1 N 16 [(0, .ref x0), (1, .int x1), (3, .int z.2)] [] := by
  refine zloop_W (P := fun z : (zS × Int32) => zW p l e R s m args below meth c cells slots Q D Ca B 4 z.1 N 16 [(0, .ref x0), (1, .int x1), (3, .int z.2)] []) (K := fun x : zS => (∀ o : zS, x = o → zW p l e R s m args below meth c cells slots Q D Ca B 4 o N 52 [] [])) ?_ n z x hf hk
  intro z y hy h1 h2
  refine wsX10_removes_16b C hRm x0 x1 z.1 z.2 y hy ⟨fun z2 e => h1 z2 e, fun o e => (h2 _ e) o rfl⟩
set_option maxRecDepth 100000 in
set_option maxHeartbeats 4000000 in
theorem wfX10_removes (C : zC p s m args meth c cX10_removes RX10 4 D Ca B En) (hRm : zRm R 0 0 cells slots) (σ : zS) (x0 : Nat) (x1 : Int32) (x2 : Int32) (τ : zS) (hf : fX10_removes σ x0 x1 x2 = some τ) (hq : ∀ (pc : Nat) (lv : List (Nat × Value)), decode cX10_removes pc = .ok (.return_, 1) → zW p l e R s m args below meth c cells slots Q D Ca B 4 τ N pc lv []) : zW p l e R s m args below meth c cells slots Q D Ca B 4 σ N 0 [(0, .ref x0), (1, .int x1), (2, .int x2)] [] := by
  unfold fX10_removes at hf
  refine z_aload_n C dX10_removes_0 rfl 0 rfl ?_
  obtain ⟨v1, hv1, hf⟩ := zbind hf
  refine gf_RX10_21 C hv1 dX10_removes_1 ?_
  refine z_iload_n C dX10_removes_4 rfl 1 rfl ?_
  refine z_aload_n C dX10_removes_5 rfl 0 rfl ?_
  obtain ⟨v2, hv2, hf⟩ := zbind hf
  refine gf_RX10_21 C hv2 dX10_removes_6 ?_
  refine z_iload_n C dX10_removes_9 rfl 1 rfl ?_
  obtain ⟨v3, hv3, hf⟩ := zbind hf
  refine z_aI C hv3 dX10_removes_10 ?_
  refine z_iconst C (zi 1) dX10_removes_11 (by decide) ?_
  refine z_isub C dX10_removes_12 ?_
  obtain ⟨σ4, hσ4, hf⟩ := zbind hf
  refine z_sI C hσ4 dX10_removes_13 ?_
  refine z_iload_n C dX10_removes_14 rfl 2 rfl ?_
  refine z_istore_n (lv2 := [(3, .int x2), (0, .ref x0), (1, .int x1), (2, .int x2)]) C dX10_removes_15 rfl (by decide) rfl ?_
  obtain ⟨o12, ho12, hf⟩ := zbind hf
  refine z_sub [1, 2, 0] rfl ?_
  refine wsX10_removes_16 C hRm _ _ zfuel (σ4, x2) o12 ho12 ?_
  intro z9 e9
  subst e9
  cases hf
  exact hq _ _ dX10_removes_52

theorem mX10_removes (l : Launch) (D : va_G) (Ca : Nat → ClassId) (B : Nat) (En : State → Prop) (hE : zEk B En) (σ : zS) (N : Nat) (x0 : Nat) (x1 : Int32) (x2 : Int32) (X : zS) (hf : fX10_removes σ x0 x1 x2 = some X) : zMv l D Ca B En yX10_removes cX10_removes 4 (Option.none : Option Jvm.ClassFile.FieldType) 0 0 [.ref x0, .int x1, .int x2] σ N X () :=
  zMet_v (own := RX10) hE (by decide +kernel) rfl (Nat.le_of_ble_eq_true rfl) (fun p e s m args below meth c C hr hRm => wfX10_removes C hRm σ x0 x1 x2 X hf (fun pc lv hd => zfin_v (r := ()) C hr hd))
theorem dX10_empties_0 : decode cX10_empties 0 = .ok (.aload_n 0, 1) := by decide +kernel
theorem dX10_empties_1 : decode cX10_empties 1 = .ok (.getfield 21, 3) := by decide +kernel
theorem dX10_empties_4 : decode cX10_empties 4 = .ok (.iload_n 1, 1) := by decide +kernel
theorem dX10_empties_5 : decode cX10_empties 5 = .ok (.iconst 0, 1) := by decide +kernel
theorem dX10_empties_6 : decode cX10_empties 6 = .ok (.iastore, 1) := by decide +kernel
theorem dX10_empties_7 : decode cX10_empties 7 = .ok (.return_, 1) := by decide +kernel
theorem hyX10_empties : yX10_empties.cls ≠ "java/lang/invoke/MethodHandle" ∧ yX10_empties.cls ≠ "java/lang/invoke/VarHandle" ∧ (parseMethodDescriptor yX10_empties.desc).map (fun d => d.parameters.length) = some 1 := ⟨by decide +kernel, by decide +kernel, by decide +kernel⟩
set_option maxRecDepth 100000 in
set_option maxHeartbeats 4000000 in
theorem wfX10_empties (C : zC p s m args meth c cX10_empties RX10 2 D Ca B En) (hRm : zRm R 0 0 cells slots) (σ : zS) (x0 : Nat) (x1 : Int32) (τ : zS) (hf : fX10_empties σ x0 x1 = some τ) (hq : ∀ (pc : Nat) (lv : List (Nat × Value)), decode cX10_empties pc = .ok (.return_, 1) → zW p l e R s m args below meth c cells slots Q D Ca B 2 τ N pc lv []) : zW p l e R s m args below meth c cells slots Q D Ca B 2 σ N 0 [(0, .ref x0), (1, .int x1)] [] := by
  unfold fX10_empties at hf
  refine z_aload_n C dX10_empties_0 rfl 0 rfl ?_
  obtain ⟨v1, hv1, hf⟩ := zbind hf
  refine gf_RX10_21 C hv1 dX10_empties_1 ?_
  refine z_iload_n C dX10_empties_4 rfl 1 rfl ?_
  refine z_iconst C (zi 0) dX10_empties_5 (by decide) ?_
  obtain ⟨σ2, hσ2, hf⟩ := zbind hf
  refine z_sI C hσ2 dX10_empties_6 ?_
  cases hf
  exact hq _ _ dX10_empties_7

theorem mX10_empties (l : Launch) (D : va_G) (Ca : Nat → ClassId) (B : Nat) (En : State → Prop) (hE : zEk B En) (σ : zS) (N : Nat) (x0 : Nat) (x1 : Int32) (X : zS) (hf : fX10_empties σ x0 x1 = some X) : zMv l D Ca B En yX10_empties cX10_empties 2 (Option.none : Option Jvm.ClassFile.FieldType) 0 0 [.ref x0, .int x1] σ N X () :=
  zMet_v (own := RX10) hE (by decide +kernel) rfl (Nat.le_of_ble_eq_true rfl) (fun p e s m args below meth c C hr hRm => wfX10_empties C hRm σ x0 x1 X hf (fun pc lv hd => zfin_v (r := ()) C hr hd))
theorem dX10_addsAll_0 : decode cX10_addsAll 0 = .ok (.iconst 0, 1) := by decide +kernel
theorem dX10_addsAll_1 : decode cX10_addsAll 1 = .ok (.istore_n 3, 1) := by decide +kernel
theorem dX10_addsAll_2 : decode cX10_addsAll 2 = .ok (.iload_n 3, 1) := by decide +kernel
theorem dX10_addsAll_3 : decode cX10_addsAll 3 = .ok (.aload_n 0, 1) := by decide +kernel
theorem dX10_addsAll_4 : decode cX10_addsAll 4 = .ok (.getfield 21, 3) := by decide +kernel
theorem dX10_addsAll_7 : decode cX10_addsAll 7 = .ok (.iload_n 1, 1) := by decide +kernel
theorem dX10_addsAll_8 : decode cX10_addsAll 8 = .ok (.iaload, 1) := by decide +kernel
theorem dX10_addsAll_9 : decode cX10_addsAll 9 = .ok (.if_icmp .ge 20, 3) := by decide +kernel
theorem dX10_addsAll_12 : decode cX10_addsAll 12 = .ok (.aload_n 0, 1) := by decide +kernel
theorem dX10_addsAll_13 : decode cX10_addsAll 13 = .ok (.iload_n 2, 1) := by decide +kernel
theorem dX10_addsAll_14 : decode cX10_addsAll 14 = .ok (.aload_n 0, 1) := by decide +kernel
theorem dX10_addsAll_15 : decode cX10_addsAll 15 = .ok (.iload_n 1, 1) := by decide +kernel
theorem dX10_addsAll_16 : decode cX10_addsAll 16 = .ok (.iload_n 3, 1) := by decide +kernel
theorem dX10_addsAll_17 : decode cX10_addsAll 17 = .ok (.invokevirtual 100, 3) := by decide +kernel
theorem dX10_addsAll_20 : decode cX10_addsAll 20 = .ok (.invokevirtual 104, 3) := by decide +kernel
theorem dX10_addsAll_23 : decode cX10_addsAll 23 = .ok (.iinc 3 1, 3) := by decide +kernel
theorem dX10_addsAll_26 : decode cX10_addsAll 26 = .ok (.goto (-24), 3) := by decide +kernel
theorem dX10_addsAll_29 : decode cX10_addsAll 29 = .ok (.return_, 1) := by decide +kernel
theorem hyX10_addsAll : yX10_addsAll.cls ≠ "java/lang/invoke/MethodHandle" ∧ yX10_addsAll.cls ≠ "java/lang/invoke/VarHandle" ∧ (parseMethodDescriptor yX10_addsAll.desc).map (fun d => d.parameters.length) = some 2 := ⟨by decide +kernel, by decide +kernel, by decide +kernel⟩
set_option maxRecDepth 100000 in
set_option maxHeartbeats 4000000 in
theorem wsX10_addsAll_2b (C : zC p s m args meth c cX10_addsAll RX10 4 D Ca B En) (hRm : zRm R 1 22 cells slots) (x0 : Nat) (x1 : Int32) (x2 : Int32) (σ : zS) (u3 : Int32) (y : (zS × Int32) ⊕ zS) (hf : sX10_addsAll_2b x0 x1 x2 σ u3 = some y) (hk : (∀ z : (zS × Int32), y = .inl z → zW p l e R s m args below meth c cells slots Q D Ca B 4 z.1 N 2 [(0, .ref x0), (1, .int x1), (2, .int x2), (3, .int z.2)] []) ∧ (∀ z : zS, y = .inr z → zW p l e R s m args below meth c cells slots Q D Ca B 4 z N 29 [] [])) : zW p l e R s m args below meth c cells slots Q D Ca B 4 σ N 2 [(0, .ref x0), (1, .int x1), (2, .int x2), (3, .int u3)] [] := by
  unfold sX10_addsAll_2b at hf
  refine z_iload_n C dX10_addsAll_2 rfl 3 rfl ?_
  refine z_aload_n C dX10_addsAll_3 rfl 0 rfl ?_
  obtain ⟨v1, hv1, hf⟩ := zbind hf
  refine gf_RX10_21 C hv1 dX10_addsAll_4 ?_
  refine z_iload_n C dX10_addsAll_7 rfl 1 rfl ?_
  obtain ⟨v2, hv2, hf⟩ := zbind hf
  refine z_aI C hv2 dX10_addsAll_8 ?_
  refine z_icmp_ge C 29 dX10_addsAll_9 (by decide) (fun q5 => ?_) (fun q5 => ?_)
  · rw [if_pos q5] at hf
    cases hf
    refine z_sub [] rfl ?_
    exact hk.2 _ rfl
  · rw [if_neg q5] at hf
    refine z_aload_n C dX10_addsAll_12 rfl 0 rfl ?_
    refine z_iload_n C dX10_addsAll_13 rfl 2 rfl ?_
    refine z_aload_n C dX10_addsAll_14 rfl 0 rfl ?_
    refine z_iload_n C dX10_addsAll_15 rfl 1 rfl ?_
    refine z_iload_n C dX10_addsAll_16 rfl 3 rfl ?_
    obtain ⟨c3, hc3, hf⟩ := zbind hf
    obtain ⟨kc3, hc3⟩ := zck_ok hc3
    refine z_callVi (As := [.int x1, .int u3]) (F0 := 1) (L0 := 22) C (mX10_at l D Ca B En C.2.2.2.2.2.2.2.1 σ N x0 x1 u3 _ hc3) hRm kc3 rfl kw_1439 kw_14 kw_1436 kw_1438 kp_45 hyX10_at (Nat.le_of_ble_eq_true rfl) (Nat.le_of_ble_eq_true rfl) rfl rfl (Nat.le_of_ble_eq_true rfl) dX10_addsAll_17 ?_
    obtain ⟨c4, hc4, hf⟩ := zbind hf
    obtain ⟨kc4, hc4⟩ := zck_ok hc4
    refine z_callVv (As := [.int x2, .int c3.2]) (F0 := 1) (L0 := 22) C (mX10_adds l D Ca B En C.2.2.2.2.2.2.2.1 c3.1 N x0 x2 c3.2 _ hc4) hRm kc4 rfl kw_1443 kw_14 kw_1440 kw_1442 kp_46 hyX10_adds (Nat.le_of_ble_eq_true rfl) (Nat.le_of_ble_eq_true rfl) rfl rfl (Nat.le_of_ble_eq_true rfl) dX10_addsAll_20 ?_
    refine z_iinc (lv2 := [(3, .int (u3 + (zi 1))), (0, .ref x0), (1, .int x1), (2, .int x2)]) C (u3 + (zi 1)) dX10_addsAll_23 3 rfl rfl (by decide) rfl ?_
    refine z_goto C 2 dX10_addsAll_26 (by decide) ?_
    cases hf
    refine z_sub [1, 2, 3, 0] rfl ?_
    exact hk.1 _ rfl

theorem wsX10_addsAll_2 (C : zC p s m args meth c cX10_addsAll RX10 4 D Ca B En) (hRm : zRm R 1 22 cells slots) (x0 : Nat) (x1 : Int32) (x2 : Int32) (n : Nat) (z : (zS × Int32)) (x : zS) (hf : zloop (sX10_addsAll_2 x0 x1 x2) n z = some x) (hk : (∀ o : zS, x = o → zW p l e R s m args below meth c cells slots Q D Ca B 4 o N 29 [] [])) : zW p l e R s m args below meth c cells slots Q D Ca B 4 z.1 N 2 [(0, .ref x0), (1, .int x1), (2, .int x2), (3, .int z.2)] [] := by
  refine zloop_W (P := fun z : (zS × Int32) => zW p l e R s m args below meth c cells slots Q D Ca B 4 z.1 N 2 [(0, .ref x0), (1, .int x1), (2, .int x2), (3, .int z.2)] []) (K := fun x : zS => (∀ o : zS, x = o → zW p l e R s m args below meth c cells slots Q D Ca B 4 o N 29 [] [])) ?_ n z x hf hk
  intro z y hy h1 h2
  refine wsX10_addsAll_2b C hRm x0 x1 x2 z.1 z.2 y hy ⟨fun z2 e => h1 z2 e, fun o e => (h2 _ e) o rfl⟩
set_option maxRecDepth 100000 in
set_option maxHeartbeats 4000000 in
theorem wfX10_addsAll (C : zC p s m args meth c cX10_addsAll RX10 4 D Ca B En) (hRm : zRm R 1 22 cells slots) (σ : zS) (x0 : Nat) (x1 : Int32) (x2 : Int32) (τ : zS) (hf : fX10_addsAll σ x0 x1 x2 = some τ) (hq : ∀ (pc : Nat) (lv : List (Nat × Value)), decode cX10_addsAll pc = .ok (.return_, 1) → zW p l e R s m args below meth c cells slots Q D Ca B 4 τ N pc lv []) : zW p l e R s m args below meth c cells slots Q D Ca B 4 σ N 0 [(0, .ref x0), (1, .int x1), (2, .int x2)] [] := by
  unfold fX10_addsAll at hf
  refine z_iconst C (zi 0) dX10_addsAll_0 (by decide) ?_
  refine z_istore_n (lv2 := [(3, .int ((zi 0))), (0, .ref x0), (1, .int x1), (2, .int x2)]) C dX10_addsAll_1 rfl (by decide) rfl ?_
  obtain ⟨o6, ho6, hf⟩ := zbind hf
  refine z_sub [1, 2, 3, 0] rfl ?_
  refine wsX10_addsAll_2 C hRm _ _ _ zfuel (σ, (zi 0)) o6 ho6 ?_
  intro z9 e9
  subst e9
  cases hf
  exact hq _ _ dX10_addsAll_29

theorem mX10_addsAll (l : Launch) (D : va_G) (Ca : Nat → ClassId) (B : Nat) (En : State → Prop) (hE : zEk B En) (σ : zS) (N : Nat) (x0 : Nat) (x1 : Int32) (x2 : Int32) (X : zS) (hf : fX10_addsAll σ x0 x1 x2 = some X) : zMv l D Ca B En yX10_addsAll cX10_addsAll 4 (Option.none : Option Jvm.ClassFile.FieldType) 1 22 [.ref x0, .int x1, .int x2] σ N X () :=
  zMet_v (own := RX10) hE (by decide +kernel) rfl (Nat.le_of_ble_eq_true rfl) (fun p e s m args below meth c C hr hRm => wfX10_addsAll C hRm σ x0 x1 x2 X hf (fun pc lv hd => zfin_v (r := ()) C hr hd))
theorem dX10_becomes_0 : decode cX10_becomes 0 = .ok (.aload_n 0, 1) := by decide +kernel
theorem dX10_becomes_1 : decode cX10_becomes 1 = .ok (.iload_n 1, 1) := by decide +kernel
theorem dX10_becomes_2 : decode cX10_becomes 2 = .ok (.invokevirtual 108, 3) := by decide +kernel
theorem dX10_becomes_5 : decode cX10_becomes 5 = .ok (.aload_n 0, 1) := by decide +kernel
theorem dX10_becomes_6 : decode cX10_becomes 6 = .ok (.iload_n 2, 1) := by decide +kernel
theorem dX10_becomes_7 : decode cX10_becomes 7 = .ok (.iload_n 1, 1) := by decide +kernel
theorem dX10_becomes_8 : decode cX10_becomes 8 = .ok (.invokevirtual 112, 3) := by decide +kernel
theorem dX10_becomes_11 : decode cX10_becomes 11 = .ok (.return_, 1) := by decide +kernel
theorem hyX10_becomes : yX10_becomes.cls ≠ "java/lang/invoke/MethodHandle" ∧ yX10_becomes.cls ≠ "java/lang/invoke/VarHandle" ∧ (parseMethodDescriptor yX10_becomes.desc).map (fun d => d.parameters.length) = some 2 := ⟨by decide +kernel, by decide +kernel, by decide +kernel⟩
set_option maxRecDepth 100000 in
set_option maxHeartbeats 4000000 in
theorem wfX10_becomes (C : zC p s m args meth c cX10_becomes RX10 3 D Ca B En) (hRm : zRm R 2 45 cells slots) (σ : zS) (x0 : Nat) (x1 : Int32) (x2 : Int32) (τ : zS) (hf : fX10_becomes σ x0 x1 x2 = some τ) (hq : ∀ (pc : Nat) (lv : List (Nat × Value)), decode cX10_becomes pc = .ok (.return_, 1) → zW p l e R s m args below meth c cells slots Q D Ca B 3 τ N pc lv []) : zW p l e R s m args below meth c cells slots Q D Ca B 3 σ N 0 [(0, .ref x0), (1, .int x1), (2, .int x2)] [] := by
  unfold fX10_becomes at hf
  refine z_aload_n C dX10_becomes_0 rfl 0 rfl ?_
  refine z_iload_n C dX10_becomes_1 rfl 1 rfl ?_
  obtain ⟨c1, hc1, hf⟩ := zbind hf
  obtain ⟨kc1, hc1⟩ := zck_ok hc1
  refine z_callVv (As := [.int x1]) (F0 := 2) (L0 := 45) C (mX10_empties l D Ca B En C.2.2.2.2.2.2.2.1 σ N x0 x1 _ hc1) hRm kc1 rfl kw_1418 kw_14 kw_1415 kw_1417 kp_42 hyX10_empties (Nat.le_of_ble_eq_true rfl) (Nat.le_of_ble_eq_true rfl) rfl rfl (Nat.le_of_ble_eq_true rfl) dX10_becomes_2 ?_
  refine z_aload_n C dX10_becomes_5 rfl 0 rfl ?_
  refine z_iload_n C dX10_becomes_6 rfl 2 rfl ?_
  refine z_iload_n C dX10_becomes_7 rfl 1 rfl ?_
  obtain ⟨c2, hc2, hf⟩ := zbind hf
  obtain ⟨kc2, hc2⟩ := zck_ok hc2
  refine z_callVv (As := [.int x2, .int x1]) (F0 := 2) (L0 := 45) C (mX10_addsAll l D Ca B En C.2.2.2.2.2.2.2.1 c1 N x0 x2 x1 _ hc2) hRm kc2 rfl kw_1435 kw_14 kw_1432 kw_1434 kp_44 hyX10_addsAll (Nat.le_of_ble_eq_true rfl) (Nat.le_of_ble_eq_true rfl) rfl rfl (Nat.le_of_ble_eq_true rfl) dX10_becomes_8 ?_
  cases hf
  exact hq _ _ dX10_becomes_11

theorem mX10_becomes (l : Launch) (D : va_G) (Ca : Nat → ClassId) (B : Nat) (En : State → Prop) (hE : zEk B En) (σ : zS) (N : Nat) (x0 : Nat) (x1 : Int32) (x2 : Int32) (X : zS) (hf : fX10_becomes σ x0 x1 x2 = some X) : zMv l D Ca B En yX10_becomes cX10_becomes 3 (Option.none : Option Jvm.ClassFile.FieldType) 2 45 [.ref x0, .int x1, .int x2] σ N X () :=
  zMet_v (own := RX10) hE (by decide +kernel) rfl (Nat.le_of_ble_eq_true rfl) (fun p e s m args below meth c C hr hRm => wfX10_becomes C hRm σ x0 x1 x2 X hf (fun pc lv hd => zfin_v (r := ()) C hr hd))
theorem dX10_barrierIn_0 : decode cX10_barrierIn 0 = .ok (.iconst 0, 1) := by decide +kernel
theorem dX10_barrierIn_1 : decode cX10_barrierIn 1 = .ok (.istore_n 2, 1) := by decide +kernel
theorem dX10_barrierIn_2 : decode cX10_barrierIn 2 = .ok (.iload_n 2, 1) := by decide +kernel
theorem dX10_barrierIn_3 : decode cX10_barrierIn 3 = .ok (.aload_n 0, 1) := by decide +kernel
theorem dX10_barrierIn_4 : decode cX10_barrierIn 4 = .ok (.getfield 21, 3) := by decide +kernel
theorem dX10_barrierIn_7 : decode cX10_barrierIn 7 = .ok (.iload_n 1, 1) := by decide +kernel
theorem dX10_barrierIn_8 : decode cX10_barrierIn 8 = .ok (.iaload, 1) := by decide +kernel
theorem dX10_barrierIn_9 : decode cX10_barrierIn 9 = .ok (.if_icmp .ge 21, 3) := by decide +kernel
theorem dX10_barrierIn_12 : decode cX10_barrierIn 12 = .ok (.aload_n 0, 1) := by decide +kernel
theorem dX10_barrierIn_13 : decode cX10_barrierIn 13 = .ok (.iload_n 1, 1) := by decide +kernel
theorem dX10_barrierIn_14 : decode cX10_barrierIn 14 = .ok (.iload_n 2, 1) := by decide +kernel
theorem dX10_barrierIn_15 : decode cX10_barrierIn 15 = .ok (.invokevirtual 100, 3) := by decide +kernel
theorem dX10_barrierIn_18 : decode cX10_barrierIn 18 = .ok (.iconst (-1), 1) := by decide +kernel
theorem dX10_barrierIn_19 : decode cX10_barrierIn 19 = .ok (.if_icmp .ne 5, 3) := by decide +kernel
theorem dX10_barrierIn_22 : decode cX10_barrierIn 22 = .ok (.iload_n 2, 1) := by decide +kernel
theorem dX10_barrierIn_23 : decode cX10_barrierIn 23 = .ok (.ireturn, 1) := by decide +kernel
theorem dX10_barrierIn_24 : decode cX10_barrierIn 24 = .ok (.iinc 2 1, 3) := by decide +kernel
theorem dX10_barrierIn_27 : decode cX10_barrierIn 27 = .ok (.goto (-25), 3) := by decide +kernel
theorem dX10_barrierIn_30 : decode cX10_barrierIn 30 = .ok (.iconst (-1), 1) := by decide +kernel
theorem dX10_barrierIn_31 : decode cX10_barrierIn 31 = .ok (.ireturn, 1) := by decide +kernel
theorem hyX10_barrierIn : yX10_barrierIn.cls ≠ "java/lang/invoke/MethodHandle" ∧ yX10_barrierIn.cls ≠ "java/lang/invoke/VarHandle" ∧ (parseMethodDescriptor yX10_barrierIn.desc).map (fun d => d.parameters.length) = some 1 := ⟨by decide +kernel, by decide +kernel, by decide +kernel⟩
set_option maxRecDepth 100000 in
set_option maxHeartbeats 4000000 in
theorem wsX10_barrierIn_2b (C : zC p s m args meth c cX10_barrierIn RX10 3 D Ca B En) (hRm : zRm R 1 22 cells slots) (x0 : Nat) (x1 : Int32) (σ : zS) (u2 : Int32) (y : (zS × Int32) ⊕ ((zS × Int32) ⊕ zS)) (hf : sX10_barrierIn_2b x0 x1 σ u2 = some y) (hk : (∀ z : (zS × Int32), y = .inl z → zW p l e R s m args below meth c cells slots Q D Ca B 3 z.1 N 2 [(0, .ref x0), (1, .int x1), (2, .int z.2)] []) ∧ (∀ z : (zS × Int32), y = .inr (.inl z) → zW p l e R s m args below meth c cells slots Q D Ca B 3 z.1 N 22 [(2, .int z.2)] []) ∧ (∀ z : zS, y = .inr (.inr z) → zW p l e R s m args below meth c cells slots Q D Ca B 3 z N 30 [] [])) : zW p l e R s m args below meth c cells slots Q D Ca B 3 σ N 2 [(0, .ref x0), (1, .int x1), (2, .int u2)] [] := by
  unfold sX10_barrierIn_2b at hf
  refine z_iload_n C dX10_barrierIn_2 rfl 2 rfl ?_
  refine z_aload_n C dX10_barrierIn_3 rfl 0 rfl ?_
  obtain ⟨v1, hv1, hf⟩ := zbind hf
  refine gf_RX10_21 C hv1 dX10_barrierIn_4 ?_
  refine z_iload_n C dX10_barrierIn_7 rfl 1 rfl ?_
  obtain ⟨v2, hv2, hf⟩ := zbind hf
  refine z_aI C hv2 dX10_barrierIn_8 ?_
  refine z_icmp_ge C 30 dX10_barrierIn_9 (by decide) (fun q5 => ?_) (fun q5 => ?_)
  · rw [if_pos q5] at hf
    cases hf
    refine z_sub [] rfl ?_
    exact hk.2.2 _ rfl
  · rw [if_neg q5] at hf
    refine z_aload_n C dX10_barrierIn_12 rfl 0 rfl ?_
    refine z_iload_n C dX10_barrierIn_13 rfl 1 rfl ?_
    refine z_iload_n C dX10_barrierIn_14 rfl 2 rfl ?_
    obtain ⟨c3, hc3, hf⟩ := zbind hf
    obtain ⟨kc3, hc3⟩ := zck_ok hc3
    refine z_callVi (As := [.int x1, .int u2]) (F0 := 1) (L0 := 22) C (mX10_at l D Ca B En C.2.2.2.2.2.2.2.1 σ N x0 x1 u2 _ hc3) hRm kc3 rfl kw_1439 kw_14 kw_1436 kw_1438 kp_45 hyX10_at (Nat.le_of_ble_eq_true rfl) (Nat.le_of_ble_eq_true rfl) rfl rfl (Nat.le_of_ble_eq_true rfl) dX10_barrierIn_15 ?_
    refine z_iconst C (zi (-1)) dX10_barrierIn_18 (by decide) ?_
    refine z_icmp_ne C 24 dX10_barrierIn_19 (by decide) (fun q4 => ?_) (fun q4 => ?_)
    · rw [if_neg q4] at hf
      refine z_iinc (lv2 := [(2, .int (u2 + (zi 1))), (0, .ref x0), (1, .int x1)]) C (u2 + (zi 1)) dX10_barrierIn_24 2 rfl rfl (by decide) rfl ?_
      refine z_goto C 2 dX10_barrierIn_27 (by decide) ?_
      cases hf
      refine z_sub [1, 2, 0] rfl ?_
      exact hk.1 _ rfl
    · rw [if_pos q4] at hf
      cases hf
      refine z_sub [2] rfl ?_
      exact hk.2.1 _ rfl

theorem wsX10_barrierIn_2 (C : zC p s m args meth c cX10_barrierIn RX10 3 D Ca B En) (hRm : zRm R 1 22 cells slots) (x0 : Nat) (x1 : Int32) (n : Nat) (z : (zS × Int32)) (x : ((zS × Int32) ⊕ zS)) (hf : zloop (sX10_barrierIn_2 x0 x1) n z = some x) (hk : (∀ o : (zS × Int32), x = (.inl o) → zW p l e R s m args below meth c cells slots Q D Ca B 3 o.1 N 22 [(2, .int o.2)] []) ∧ (∀ o : zS, x = (.inr o) → zW p l e R s m args below meth c cells slots Q D Ca B 3 o N 30 [] [])) : zW p l e R s m args below meth c cells slots Q D Ca B 3 z.1 N 2 [(0, .ref x0), (1, .int x1), (2, .int z.2)] [] := by
  refine zloop_W (P := fun z : (zS × Int32) => zW p l e R s m args below meth c cells slots Q D Ca B 3 z.1 N 2 [(0, .ref x0), (1, .int x1), (2, .int z.2)] []) (K := fun x : ((zS × Int32) ⊕ zS) => (∀ o : (zS × Int32), x = (.inl o) → zW p l e R s m args below meth c cells slots Q D Ca B 3 o.1 N 22 [(2, .int o.2)] []) ∧ (∀ o : zS, x = (.inr o) → zW p l e R s m args below meth c cells slots Q D Ca B 3 o N 30 [] [])) ?_ n z x hf hk
  intro z y hy h1 h2
  refine wsX10_barrierIn_2b C hRm x0 x1 z.1 z.2 y hy ⟨fun z2 e => h1 z2 e, fun o e => (h2 _ e).1 o rfl, fun o e => (h2 _ e).2 o rfl⟩
set_option maxRecDepth 100000 in
set_option maxHeartbeats 4000000 in
theorem wfX10_barrierIn (C : zC p s m args meth c cX10_barrierIn RX10 3 D Ca B En) (hRm : zRm R 1 22 cells slots) (σ : zS) (x0 : Nat) (x1 : Int32) (τ : zS) (r : Int32) (hf : fX10_barrierIn σ x0 x1 = some (τ, r)) (hq : ∀ (pc : Nat) (lv : List (Nat × Value)), decode cX10_barrierIn pc = .ok (.ireturn, 1) → zW p l e R s m args below meth c cells slots Q D Ca B 3 τ N pc lv [.int r]) : zW p l e R s m args below meth c cells slots Q D Ca B 3 σ N 0 [(0, .ref x0), (1, .int x1)] [] := by
  unfold fX10_barrierIn at hf
  refine z_iconst C (zi 0) dX10_barrierIn_0 (by decide) ?_
  refine z_istore_n (lv2 := [(2, .int ((zi 0))), (0, .ref x0), (1, .int x1)]) C dX10_barrierIn_1 rfl (by decide) rfl ?_
  obtain ⟨o6, ho6, hf⟩ := zbind hf
  refine z_sub [1, 2, 0] rfl ?_
  refine wsX10_barrierIn_2 C hRm _ _ zfuel (σ, (zi 0)) o6 ho6 ⟨?_, ?_⟩
  · intro z7 e9
    subst e9
    dsimp only at hf
    refine z_iload_n C dX10_barrierIn_22 rfl 0 rfl ?_
    cases hf
    exact hq _ _ dX10_barrierIn_23
  · intro z8 e9
    subst e9
    dsimp only at hf
    refine z_iconst C (zi (-1)) dX10_barrierIn_30 (by decide) ?_
    cases hf
    exact hq _ _ dX10_barrierIn_31

theorem mX10_barrierIn (l : Launch) (D : va_G) (Ca : Nat → ClassId) (B : Nat) (En : State → Prop) (hE : zEk B En) (σ : zS) (N : Nat) (x0 : Nat) (x1 : Int32) (X : zS × Int32) (hf : fX10_barrierIn σ x0 x1 = some X) : zMi l D Ca B En yX10_barrierIn cX10_barrierIn 3 (Option.some Jvm.ClassFile.FieldType.int) 1 22 [.ref x0, .int x1] σ N X.1 X.2 :=
  zMet_i (own := RX10) hE (by decide +kernel) rfl (Nat.le_of_ble_eq_true rfl) (fun p e s m args below meth c C hr hRm => wfX10_barrierIn C hRm σ x0 x1 X.1 X.2 hf (fun pc lv hd => zfin_i C hr hd))
theorem dX10_barriers_0 : decode cX10_barriers 0 = .ok (.iconst 0, 1) := by decide +kernel
theorem dX10_barriers_1 : decode cX10_barriers 1 = .ok (.istore_n 2, 1) := by decide +kernel
theorem dX10_barriers_2 : decode cX10_barriers 2 = .ok (.iconst 0, 1) := by decide +kernel
theorem dX10_barriers_3 : decode cX10_barriers 3 = .ok (.istore_n 3, 1) := by decide +kernel
theorem dX10_barriers_4 : decode cX10_barriers 4 = .ok (.iload_n 3, 1) := by decide +kernel
theorem dX10_barriers_5 : decode cX10_barriers 5 = .ok (.aload_n 0, 1) := by decide +kernel
theorem dX10_barriers_6 : decode cX10_barriers 6 = .ok (.getfield 21, 3) := by decide +kernel
theorem dX10_barriers_9 : decode cX10_barriers 9 = .ok (.iload_n 1, 1) := by decide +kernel
theorem dX10_barriers_10 : decode cX10_barriers 10 = .ok (.iaload, 1) := by decide +kernel
theorem dX10_barriers_11 : decode cX10_barriers 11 = .ok (.if_icmp .ge 23, 3) := by decide +kernel
theorem dX10_barriers_14 : decode cX10_barriers 14 = .ok (.aload_n 0, 1) := by decide +kernel
theorem dX10_barriers_15 : decode cX10_barriers 15 = .ok (.iload_n 1, 1) := by decide +kernel
theorem dX10_barriers_16 : decode cX10_barriers 16 = .ok (.iload_n 3, 1) := by decide +kernel
theorem dX10_barriers_17 : decode cX10_barriers 17 = .ok (.invokevirtual 100, 3) := by decide +kernel
theorem dX10_barriers_20 : decode cX10_barriers 20 = .ok (.iconst (-1), 1) := by decide +kernel
theorem dX10_barriers_21 : decode cX10_barriers 21 = .ok (.if_icmp .ne 7, 3) := by decide +kernel
theorem dX10_barriers_24 : decode cX10_barriers 24 = .ok (.iload_n 2, 1) := by decide +kernel
theorem dX10_barriers_25 : decode cX10_barriers 25 = .ok (.iconst 1, 1) := by decide +kernel
theorem dX10_barriers_26 : decode cX10_barriers 26 = .ok (.iadd, 1) := by decide +kernel
theorem dX10_barriers_27 : decode cX10_barriers 27 = .ok (.istore_n 2, 1) := by decide +kernel
theorem dX10_barriers_28 : decode cX10_barriers 28 = .ok (.iinc 3 1, 3) := by decide +kernel
theorem dX10_barriers_31 : decode cX10_barriers 31 = .ok (.goto (-27), 3) := by decide +kernel
theorem dX10_barriers_34 : decode cX10_barriers 34 = .ok (.iload_n 2, 1) := by decide +kernel
theorem dX10_barriers_35 : decode cX10_barriers 35 = .ok (.ireturn, 1) := by decide +kernel
theorem hyX10_barriers : yX10_barriers.cls ≠ "java/lang/invoke/MethodHandle" ∧ yX10_barriers.cls ≠ "java/lang/invoke/VarHandle" ∧ (parseMethodDescriptor yX10_barriers.desc).map (fun d => d.parameters.length) = some 1 := ⟨by decide +kernel, by decide +kernel, by decide +kernel⟩
set_option maxRecDepth 100000 in
set_option maxHeartbeats 4000000 in
theorem wjX10_barriers_28_L4 (C : zC p s m args meth c cX10_barriers RX10 4 D Ca B En) (hRm : zRm R 1 22 cells slots) (σ : zS) (x0 : Nat) (x1 : Int32) (x2 : Int32) (x3 : Int32)  (y : (zS × Int32 × Int32) ⊕ (zS × Int32)) (hf : jX10_barriers_28_L4 σ x0 x1 x2 x3  = some y) (hk : (∀ z : (zS × Int32 × Int32), y = .inl z → zW p l e R s m args below meth c cells slots Q D Ca B 4 z.1 N 4 [(0, .ref x0), (1, .int x1), (2, .int z.2.1), (3, .int z.2.2)] []) ∧ (∀ z : (zS × Int32), y = .inr z → zW p l e R s m args below meth c cells slots Q D Ca B 4 z.1 N 34 [(2, .int z.2)] [])) : zW p l e R s m args below meth c cells slots Q D Ca B 4 σ N 28 [(0, .ref x0), (1, .int x1), (2, .int x2), (3, .int x3)] [] := by
  unfold jX10_barriers_28_L4 at hf
  refine z_iinc (lv2 := [(3, .int (x3 + (zi 1))), (0, .ref x0), (1, .int x1), (2, .int x2)]) C (x3 + (zi 1)) dX10_barriers_28 3 rfl rfl (by decide) rfl ?_
  refine z_goto C 4 dX10_barriers_31 (by decide) ?_
  cases hf
  refine z_sub [1, 2, 3, 0] rfl ?_
  exact hk.1 _ rfl

set_option maxRecDepth 100000 in
set_option maxHeartbeats 4000000 in
theorem wsX10_barriers_4b (C : zC p s m args meth c cX10_barriers RX10 4 D Ca B En) (hRm : zRm R 1 22 cells slots) (x0 : Nat) (x1 : Int32) (σ : zS) (u2 : Int32) (u3 : Int32) (y : (zS × Int32 × Int32) ⊕ (zS × Int32)) (hf : sX10_barriers_4b x0 x1 σ u2 u3 = some y) (hk : (∀ z : (zS × Int32 × Int32), y = .inl z → zW p l e R s m args below meth c cells slots Q D Ca B 4 z.1 N 4 [(0, .ref x0), (1, .int x1), (2, .int z.2.1), (3, .int z.2.2)] []) ∧ (∀ z : (zS × Int32), y = .inr z → zW p l e R s m args below meth c cells slots Q D Ca B 4 z.1 N 34 [(2, .int z.2)] [])) : zW p l e R s m args below meth c cells slots Q D Ca B 4 σ N 4 [(0, .ref x0), (1, .int x1), (2, .int u2), (3, .int u3)] [] := by
  unfold sX10_barriers_4b at hf
  refine z_iload_n C dX10_barriers_4 rfl 3 rfl ?_
  refine z_aload_n C dX10_barriers_5 rfl 0 rfl ?_
  obtain ⟨v1, hv1, hf⟩ := zbind hf
  refine gf_RX10_21 C hv1 dX10_barriers_6 ?_
  refine z_iload_n C dX10_barriers_9 rfl 1 rfl ?_
  obtain ⟨v2, hv2, hf⟩ := zbind hf
  refine z_aI C hv2 dX10_barriers_10 ?_
  refine z_icmp_ge C 34 dX10_barriers_11 (by decide) (fun q5 => ?_) (fun q5 => ?_)
  · rw [if_pos q5] at hf
    cases hf
    refine z_sub [2] rfl ?_
    exact hk.2 _ rfl
  · rw [if_neg q5] at hf
    refine z_aload_n C dX10_barriers_14 rfl 0 rfl ?_
    refine z_iload_n C dX10_barriers_15 rfl 1 rfl ?_
    refine z_iload_n C dX10_barriers_16 rfl 3 rfl ?_
    obtain ⟨c3, hc3, hf⟩ := zbind hf
    obtain ⟨kc3, hc3⟩ := zck_ok hc3
    refine z_callVi (As := [.int x1, .int u3]) (F0 := 1) (L0 := 22) C (mX10_at l D Ca B En C.2.2.2.2.2.2.2.1 σ N x0 x1 u3 _ hc3) hRm kc3 rfl kw_1439 kw_14 kw_1436 kw_1438 kp_45 hyX10_at (Nat.le_of_ble_eq_true rfl) (Nat.le_of_ble_eq_true rfl) rfl rfl (Nat.le_of_ble_eq_true rfl) dX10_barriers_17 ?_
    refine z_iconst C (zi (-1)) dX10_barriers_20 (by decide) ?_
    refine z_icmp_ne C 28 dX10_barriers_21 (by decide) (fun q4 => ?_) (fun q4 => ?_)
    · rw [if_neg q4] at hf
      refine z_sub [0, 1, 2, 3] rfl ?_
      exact wjX10_barriers_28_L4 C hRm _ _ _ _ _  _ hf hk
    · rw [if_pos q4] at hf
      refine z_iload_n C dX10_barriers_24 rfl 2 rfl ?_
      refine z_iconst C (zi 1) dX10_barriers_25 (by decide) ?_
      refine z_iadd C dX10_barriers_26 ?_
      refine z_istore_n (lv2 := [(2, .int (u2 + ((zi 1)))), (0, .ref x0), (1, .int x1), (3, .int u3)]) C dX10_barriers_27 rfl (by decide) rfl ?_
      refine z_sub [1, 2, 0, 3] rfl ?_
      exact wjX10_barriers_28_L4 C hRm _ _ _ _ _  _ hf hk

theorem wsX10_barriers_4 (C : zC p s m args meth c cX10_barriers RX10 4 D Ca B En) (hRm : zRm R 1 22 cells slots) (x0 : Nat) (x1 : Int32) (n : Nat) (z : (zS × Int32 × Int32)) (x : (zS × Int32)) (hf : zloop (sX10_barriers_4 x0 x1) n z = some x) (hk : (∀ o : (zS × Int32), x = o → zW p l e R s m args below meth c cells slots Q D Ca B 4 o.1 N 34 [(2, .int o.2)] [])) : zW p l e R s m args below meth c cells slots Q D Ca B 4 z.1 N 4 [(0, .ref x0), (1, .int x1), (2, .int z.2.1), (3, .int z.2.2)] [] := by
  refine zloop_W (P := fun z : (zS × Int32 × Int32) => zW p l e R s m args below meth c cells slots Q D Ca B 4 z.1 N 4 [(0, .ref x0), (1, .int x1), (2, .int z.2.1), (3, .int z.2.2)] []) (K := fun x : (zS × Int32) => (∀ o : (zS × Int32), x = o → zW p l e R s m args below meth c cells slots Q D Ca B 4 o.1 N 34 [(2, .int o.2)] [])) ?_ n z x hf hk
  intro z y hy h1 h2
  refine wsX10_barriers_4b C hRm x0 x1 z.1 z.2.1 z.2.2 y hy ⟨fun z2 e => h1 z2 e, fun o e => (h2 _ e) o rfl⟩
set_option maxRecDepth 100000 in
set_option maxHeartbeats 4000000 in
theorem wfX10_barriers (C : zC p s m args meth c cX10_barriers RX10 4 D Ca B En) (hRm : zRm R 1 22 cells slots) (σ : zS) (x0 : Nat) (x1 : Int32) (τ : zS) (r : Int32) (hf : fX10_barriers σ x0 x1 = some (τ, r)) (hq : ∀ (pc : Nat) (lv : List (Nat × Value)), decode cX10_barriers pc = .ok (.ireturn, 1) → zW p l e R s m args below meth c cells slots Q D Ca B 4 τ N pc lv [.int r]) : zW p l e R s m args below meth c cells slots Q D Ca B 4 σ N 0 [(0, .ref x0), (1, .int x1)] [] := by
  unfold fX10_barriers at hf
  refine z_iconst C (zi 0) dX10_barriers_0 (by decide) ?_
  refine z_istore_n (lv2 := [(2, .int ((zi 0))), (0, .ref x0), (1, .int x1)]) C dX10_barriers_1 rfl (by decide) rfl ?_
  refine z_iconst C (zi 0) dX10_barriers_2 (by decide) ?_
  refine z_istore_n (lv2 := [(3, .int ((zi 0))), (2, .int ((zi 0))), (0, .ref x0), (1, .int x1)]) C dX10_barriers_3 rfl (by decide) rfl ?_
  obtain ⟨o6, ho6, hf⟩ := zbind hf
  refine z_sub [2, 3, 1, 0] rfl ?_
  refine wsX10_barriers_4 C hRm _ _ zfuel (σ, (zi 0), (zi 0)) o6 ho6 ?_
  intro z9 e9
  subst e9
  refine z_iload_n C dX10_barriers_34 rfl 0 rfl ?_
  cases hf
  exact hq _ _ dX10_barriers_35

theorem mX10_barriers (l : Launch) (D : va_G) (Ca : Nat → ClassId) (B : Nat) (En : State → Prop) (hE : zEk B En) (σ : zS) (N : Nat) (x0 : Nat) (x1 : Int32) (X : zS × Int32) (hf : fX10_barriers σ x0 x1 = some X) : zMi l D Ca B En yX10_barriers cX10_barriers 4 (Option.some Jvm.ClassFile.FieldType.int) 1 22 [.ref x0, .int x1] σ N X.1 X.2 :=
  zMet_i (own := RX10) hE (by decide +kernel) rfl (Nat.le_of_ble_eq_true rfl) (fun p e s m args below meth c C hr hRm => wfX10_barriers C hRm σ x0 x1 X.1 X.2 hf (fun pc lv hd => zfin_i C hr hd))
theorem dX10_things_0 : decode cX10_things 0 = .ok (.aload_n 0, 1) := by decide +kernel
theorem dX10_things_1 : decode cX10_things 1 = .ok (.getfield 21, 3) := by decide +kernel
theorem dX10_things_4 : decode cX10_things 4 = .ok (.iload_n 1, 1) := by decide +kernel
theorem dX10_things_5 : decode cX10_things 5 = .ok (.iaload, 1) := by decide +kernel
theorem dX10_things_6 : decode cX10_things 6 = .ok (.aload_n 0, 1) := by decide +kernel
theorem dX10_things_7 : decode cX10_things 7 = .ok (.iload_n 1, 1) := by decide +kernel
theorem dX10_things_8 : decode cX10_things 8 = .ok (.invokevirtual 115, 3) := by decide +kernel
theorem dX10_things_11 : decode cX10_things 11 = .ok (.isub, 1) := by decide +kernel
theorem dX10_things_12 : decode cX10_things 12 = .ok (.ireturn, 1) := by decide +kernel
theorem hyX10_things : yX10_things.cls ≠ "java/lang/invoke/MethodHandle" ∧ yX10_things.cls ≠ "java/lang/invoke/VarHandle" ∧ (parseMethodDescriptor yX10_things.desc).map (fun d => d.parameters.length) = some 1 := ⟨by decide +kernel, by decide +kernel, by decide +kernel⟩
set_option maxRecDepth 100000 in
set_option maxHeartbeats 4000000 in
theorem wfX10_things (C : zC p s m args meth c cX10_things RX10 2 D Ca B En) (hRm : zRm R 2 45 cells slots) (σ : zS) (x0 : Nat) (x1 : Int32) (τ : zS) (r : Int32) (hf : fX10_things σ x0 x1 = some (τ, r)) (hq : ∀ (pc : Nat) (lv : List (Nat × Value)), decode cX10_things pc = .ok (.ireturn, 1) → zW p l e R s m args below meth c cells slots Q D Ca B 2 τ N pc lv [.int r]) : zW p l e R s m args below meth c cells slots Q D Ca B 2 σ N 0 [(0, .ref x0), (1, .int x1)] [] := by
  unfold fX10_things at hf
  refine z_aload_n C dX10_things_0 rfl 0 rfl ?_
  obtain ⟨v1, hv1, hf⟩ := zbind hf
  refine gf_RX10_21 C hv1 dX10_things_1 ?_
  refine z_iload_n C dX10_things_4 rfl 1 rfl ?_
  obtain ⟨v2, hv2, hf⟩ := zbind hf
  refine z_aI C hv2 dX10_things_5 ?_
  refine z_aload_n C dX10_things_6 rfl 0 rfl ?_
  refine z_iload_n C dX10_things_7 rfl 1 rfl ?_
  obtain ⟨c3, hc3, hf⟩ := zbind hf
  obtain ⟨kc3, hc3⟩ := zck_ok hc3
  refine z_callVi (As := [.int x1]) (F0 := 2) (L0 := 45) C (mX10_barriers l D Ca B En C.2.2.2.2.2.2.2.1 σ N x0 x1 _ hc3) hRm kc3 rfl kw_1473 kw_14 kw_1470 kw_1472 kp_52 hyX10_barriers (Nat.le_of_ble_eq_true rfl) (Nat.le_of_ble_eq_true rfl) rfl rfl (Nat.le_of_ble_eq_true rfl) dX10_things_8 ?_
  refine z_isub C dX10_things_11 ?_
  cases hf
  exact hq _ _ dX10_things_12

theorem mX10_things (l : Launch) (D : va_G) (Ca : Nat → ClassId) (B : Nat) (En : State → Prop) (hE : zEk B En) (σ : zS) (N : Nat) (x0 : Nat) (x1 : Int32) (X : zS × Int32) (hf : fX10_things σ x0 x1 = some X) : zMi l D Ca B En yX10_things cX10_things 2 (Option.some Jvm.ClassFile.FieldType.int) 2 45 [.ref x0, .int x1] σ N X.1 X.2 :=
  zMet_i (own := RX10) hE (by decide +kernel) rfl (Nat.le_of_ble_eq_true rfl) (fun p e s m args below meth c C hr hRm => wfX10_things C hRm σ x0 x1 X.1 X.2 hf (fun pc lv hd => zfin_i C hr hd))
theorem dX10_isFull_0 : decode cX10_isFull 0 = .ok (.aload_n 0, 1) := by decide +kernel
theorem dX10_isFull_1 : decode cX10_isFull 1 = .ok (.iload_n 1, 1) := by decide +kernel
theorem dX10_isFull_2 : decode cX10_isFull 2 = .ok (.invokevirtual 119, 3) := by decide +kernel
theorem dX10_isFull_5 : decode cX10_isFull 5 = .ok (.aload_n 0, 1) := by decide +kernel
theorem dX10_isFull_6 : decode cX10_isFull 6 = .ok (.getfield 21, 3) := by decide +kernel
theorem dX10_isFull_9 : decode cX10_isFull 9 = .ok (.iconst 2, 1) := by decide +kernel
theorem dX10_isFull_10 : decode cX10_isFull 10 = .ok (.iaload, 1) := by decide +kernel
theorem dX10_isFull_11 : decode cX10_isFull 11 = .ok (.if_icmp .lt 7, 3) := by decide +kernel
theorem dX10_isFull_14 : decode cX10_isFull 14 = .ok (.iconst 1, 1) := by decide +kernel
theorem dX10_isFull_15 : decode cX10_isFull 15 = .ok (.goto 4, 3) := by decide +kernel
theorem dX10_isFull_18 : decode cX10_isFull 18 = .ok (.iconst 0, 1) := by decide +kernel
theorem dX10_isFull_19 : decode cX10_isFull 19 = .ok (.ireturn, 1) := by decide +kernel
theorem hyX10_isFull : yX10_isFull.cls ≠ "java/lang/invoke/MethodHandle" ∧ yX10_isFull.cls ≠ "java/lang/invoke/VarHandle" ∧ (parseMethodDescriptor yX10_isFull.desc).map (fun d => d.parameters.length) = some 1 := ⟨by decide +kernel, by decide +kernel, by decide +kernel⟩
set_option maxRecDepth 100000 in
set_option maxHeartbeats 4000000 in
theorem wfX10_isFull (C : zC p s m args meth c cX10_isFull RX10 2 D Ca B En) (hRm : zRm R 3 66 cells slots) (σ : zS) (x0 : Nat) (x1 : Int32) (τ : zS) (r : Int32) (hf : fX10_isFull σ x0 x1 = some (τ, r)) (hq : ∀ (pc : Nat) (lv : List (Nat × Value)), (r = 0 ∨ r = 1) → decode cX10_isFull pc = .ok (.ireturn, 1) → zW p l e R s m args below meth c cells slots Q D Ca B 2 τ N pc lv [.int r]) : zW p l e R s m args below meth c cells slots Q D Ca B 2 σ N 0 [(0, .ref x0), (1, .int x1)] [] := by
  unfold fX10_isFull at hf
  refine z_aload_n C dX10_isFull_0 rfl 0 rfl ?_
  refine z_iload_n C dX10_isFull_1 rfl 1 rfl ?_
  obtain ⟨c1, hc1, hf⟩ := zbind hf
  obtain ⟨kc1, hc1⟩ := zck_ok hc1
  refine z_callVi (As := [.int x1]) (F0 := 3) (L0 := 66) C (mX10_things l D Ca B En C.2.2.2.2.2.2.2.1 σ N x0 x1 _ hc1) hRm kc1 rfl kw_1469 kw_14 kw_1466 kw_1468 kp_51 hyX10_things (Nat.le_of_ble_eq_true rfl) (Nat.le_of_ble_eq_true rfl) rfl rfl (Nat.le_of_ble_eq_true rfl) dX10_isFull_2 ?_
  refine z_aload_n C dX10_isFull_5 rfl 0 rfl ?_
  obtain ⟨v2, hv2, hf⟩ := zbind hf
  refine gf_RX10_21 C hv2 dX10_isFull_6 ?_
  refine z_iconst C (zi 2) dX10_isFull_9 (by decide) ?_
  obtain ⟨v3, hv3, hf⟩ := zbind hf
  refine z_aI C hv3 dX10_isFull_10 ?_
  refine z_icmp_lt C 18 dX10_isFull_11 (by decide) (fun q4 => ?_) (fun q4 => ?_)
  · rw [if_pos q4] at hf
    refine z_iconst C (zi 0) dX10_isFull_18 (by decide) ?_
    obtain ⟨e9, b9⟩ := zrZ_ok hf
    cases e9
    exact hq _ _ b9 dX10_isFull_19
  · rw [if_neg q4] at hf
    refine z_iconst C (zi 1) dX10_isFull_14 (by decide) ?_
    refine z_goto C 19 dX10_isFull_15 (by decide) ?_
    obtain ⟨e9, b9⟩ := zrZ_ok hf
    cases e9
    exact hq _ _ b9 dX10_isFull_19

theorem mX10_isFull (l : Launch) (D : va_G) (Ca : Nat → ClassId) (B : Nat) (En : State → Prop) (hE : zEk B En) (σ : zS) (N : Nat) (x0 : Nat) (x1 : Int32) (X : zS × Int32) (hf : fX10_isFull σ x0 x1 = some X) : zMi l D Ca B En yX10_isFull cX10_isFull 2 (Option.some Jvm.ClassFile.FieldType.boolean) 3 66 [.ref x0, .int x1] σ N X.1 X.2 :=
  zMet_i (own := RX10) hE (by decide +kernel) rfl (Nat.le_of_ble_eq_true rfl) (fun p e s m args below meth c C hr hRm => wfX10_isFull C hRm σ x0 x1 X.1 X.2 hf (fun pc lv hb hd => zfin_z C hb hr hd))
theorem dX10_channelIn_0 : decode cX10_channelIn 0 = .ok (.iconst 4, 1) := by decide +kernel
theorem dX10_channelIn_1 : decode cX10_channelIn 1 = .ok (.iload_n 0, 1) := by decide +kernel
theorem dX10_channelIn_2 : decode cX10_channelIn 2 = .ok (.imul, 1) := by decide +kernel
theorem dX10_channelIn_3 : decode cX10_channelIn 3 = .ok (.iload_n 1, 1) := by decide +kernel
theorem dX10_channelIn_4 : decode cX10_channelIn 4 = .ok (.iadd, 1) := by decide +kernel
theorem dX10_channelIn_5 : decode cX10_channelIn 5 = .ok (.ireturn, 1) := by decide +kernel
theorem hyX10_channelIn : yX10_channelIn.cls ≠ "java/lang/invoke/MethodHandle" ∧ yX10_channelIn.cls ≠ "java/lang/invoke/VarHandle" ∧ (parseMethodDescriptor yX10_channelIn.desc).map (fun d => d.parameters.length) = some 2 := ⟨by decide +kernel, by decide +kernel, by decide +kernel⟩
set_option maxRecDepth 100000 in
set_option maxHeartbeats 4000000 in
theorem wfX10_channelIn (C : zC p s m args meth c cX10_channelIn RX10 2 D Ca B En) (hRm : zRm R 0 0 cells slots) (σ : zS) (x0 : Int32) (x1 : Int32) (τ : zS) (r : Int32) (hf : fX10_channelIn σ x0 x1 = some (τ, r)) (hq : ∀ (pc : Nat) (lv : List (Nat × Value)), decode cX10_channelIn pc = .ok (.ireturn, 1) → zW p l e R s m args below meth c cells slots Q D Ca B 2 τ N pc lv [.int r]) : zW p l e R s m args below meth c cells slots Q D Ca B 2 σ N 0 [(0, .int x0), (1, .int x1)] [] := by
  unfold fX10_channelIn at hf
  refine z_iconst C (zi 4) dX10_channelIn_0 (by decide) ?_
  refine z_iload_n C dX10_channelIn_1 rfl 0 rfl ?_
  refine z_imul C dX10_channelIn_2 ?_
  refine z_iload_n C dX10_channelIn_3 rfl 1 rfl ?_
  refine z_iadd C dX10_channelIn_4 ?_
  cases hf
  exact hq _ _ dX10_channelIn_5

theorem mX10_channelIn (l : Launch) (D : va_G) (Ca : Nat → ClassId) (B : Nat) (En : State → Prop) (hE : zEk B En) (σ : zS) (N : Nat) (x0 : Int32) (x1 : Int32) (X : zS × Int32) (hf : fX10_channelIn σ x0 x1 = some X) : zMi l D Ca B En yX10_channelIn cX10_channelIn 2 (Option.some Jvm.ClassFile.FieldType.int) 0 0 [.int x0, .int x1] σ N X.1 X.2 :=
  zMet_i (own := RX10) hE (by decide +kernel) rfl (Nat.le_of_ble_eq_true rfl) (fun p e s m args below meth c C hr hRm => wfX10_channelIn C hRm σ x0 x1 X.1 X.2 hf (fun pc lv hd => zfin_i C hr hd))
theorem dX10_channelOut_0 : decode cX10_channelOut 0 = .ok (.iconst 2, 1) := by decide +kernel
theorem dX10_channelOut_1 : decode cX10_channelOut 1 = .ok (.iload_n 0, 1) := by decide +kernel
theorem dX10_channelOut_2 : decode cX10_channelOut 2 = .ok (.imul, 1) := by decide +kernel
theorem dX10_channelOut_3 : decode cX10_channelOut 3 = .ok (.iload_n 1, 1) := by decide +kernel
theorem dX10_channelOut_4 : decode cX10_channelOut 4 = .ok (.iadd, 1) := by decide +kernel
theorem dX10_channelOut_5 : decode cX10_channelOut 5 = .ok (.ireturn, 1) := by decide +kernel
theorem hyX10_channelOut : yX10_channelOut.cls ≠ "java/lang/invoke/MethodHandle" ∧ yX10_channelOut.cls ≠ "java/lang/invoke/VarHandle" ∧ (parseMethodDescriptor yX10_channelOut.desc).map (fun d => d.parameters.length) = some 2 := ⟨by decide +kernel, by decide +kernel, by decide +kernel⟩
set_option maxRecDepth 100000 in
set_option maxHeartbeats 4000000 in
theorem wfX10_channelOut (C : zC p s m args meth c cX10_channelOut RX10 2 D Ca B En) (hRm : zRm R 0 0 cells slots) (σ : zS) (x0 : Int32) (x1 : Int32) (τ : zS) (r : Int32) (hf : fX10_channelOut σ x0 x1 = some (τ, r)) (hq : ∀ (pc : Nat) (lv : List (Nat × Value)), decode cX10_channelOut pc = .ok (.ireturn, 1) → zW p l e R s m args below meth c cells slots Q D Ca B 2 τ N pc lv [.int r]) : zW p l e R s m args below meth c cells slots Q D Ca B 2 σ N 0 [(0, .int x0), (1, .int x1)] [] := by
  unfold fX10_channelOut at hf
  refine z_iconst C (zi 2) dX10_channelOut_0 (by decide) ?_
  refine z_iload_n C dX10_channelOut_1 rfl 0 rfl ?_
  refine z_imul C dX10_channelOut_2 ?_
  refine z_iload_n C dX10_channelOut_3 rfl 1 rfl ?_
  refine z_iadd C dX10_channelOut_4 ?_
  cases hf
  exact hq _ _ dX10_channelOut_5

theorem mX10_channelOut (l : Launch) (D : va_G) (Ca : Nat → ClassId) (B : Nat) (En : State → Prop) (hE : zEk B En) (σ : zS) (N : Nat) (x0 : Int32) (x1 : Int32) (X : zS × Int32) (hf : fX10_channelOut σ x0 x1 = some X) : zMi l D Ca B En yX10_channelOut cX10_channelOut 2 (Option.some Jvm.ClassFile.FieldType.int) 0 0 [.int x0, .int x1] σ N X.1 X.2 :=
  zMet_i (own := RX10) hE (by decide +kernel) rfl (Nat.le_of_ble_eq_true rfl) (fun p e s m args below meth c C hr hRm => wfX10_channelOut C hRm σ x0 x1 X.1 X.2 hf (fun pc lv hd => zfin_i C hr hd))
theorem dX10_toInstance_0 : decode cX10_toInstance 0 = .ok (.sipush 144, 3) := by decide +kernel
theorem dX10_toInstance_3 : decode cX10_toInstance 3 = .ok (.sipush 202, 3) := by decide +kernel
theorem dX10_toInstance_6 : decode cX10_toInstance 6 = .ok (.iload_n 0, 1) := by decide +kernel
theorem dX10_toInstance_7 : decode cX10_toInstance 7 = .ok (.iload_n 1, 1) := by decide +kernel
theorem dX10_toInstance_8 : decode cX10_toInstance 8 = .ok (.invokestatic 122, 3) := by decide +kernel
theorem dX10_toInstance_11 : decode cX10_toInstance 11 = .ok (.imul, 1) := by decide +kernel
theorem dX10_toInstance_12 : decode cX10_toInstance 12 = .ok (.iadd, 1) := by decide +kernel
theorem dX10_toInstance_13 : decode cX10_toInstance 13 = .ok (.ireturn, 1) := by decide +kernel
theorem hyX10_toInstance : yX10_toInstance.cls ≠ "java/lang/invoke/MethodHandle" ∧ yX10_toInstance.cls ≠ "java/lang/invoke/VarHandle" ∧ (parseMethodDescriptor yX10_toInstance.desc).map (fun d => d.parameters.length) = some 2 := ⟨by decide +kernel, by decide +kernel, by decide +kernel⟩
set_option maxRecDepth 100000 in
set_option maxHeartbeats 4000000 in
theorem wfX10_toInstance (C : zC p s m args meth c cX10_toInstance RX10 2 D Ca B En) (hRm : zRm R 1 21 cells slots) (σ : zS) (x0 : Int32) (x1 : Int32) (τ : zS) (r : Int32) (hf : fX10_toInstance σ x0 x1 = some (τ, r)) (hq : ∀ (pc : Nat) (lv : List (Nat × Value)), decode cX10_toInstance pc = .ok (.ireturn, 1) → zW p l e R s m args below meth c cells slots Q D Ca B 2 τ N pc lv [.int r]) : zW p l e R s m args below meth c cells slots Q D Ca B 2 σ N 0 [(0, .int x0), (1, .int x1)] [] := by
  unfold fX10_toInstance at hf
  refine z_sipush C (zi 144) dX10_toInstance_0 (by decide) ?_
  refine z_sipush C (zi 202) dX10_toInstance_3 (by decide) ?_
  refine z_iload_n C dX10_toInstance_6 rfl 0 rfl ?_
  refine z_iload_n C dX10_toInstance_7 rfl 1 rfl ?_
  obtain ⟨c1, hc1, hf⟩ := zbind hf
  refine z_callSi (As := [.int x0, .int x1]) (F0 := 1) (L0 := 21) C (mX10_channelIn l D Ca B En C.2.2.2.2.2.2.2.1 σ N x0 x1 _ hc1) hRm kw_1414 kw_14 kw_1412 kw_1413 hyX10_channelIn (Nat.le_of_ble_eq_true rfl) (Nat.le_of_ble_eq_true rfl) rfl rfl (Nat.le_of_ble_eq_true rfl) dX10_toInstance_8 ?_
  refine z_imul C dX10_toInstance_11 ?_
  refine z_iadd C dX10_toInstance_12 ?_
  cases hf
  exact hq _ _ dX10_toInstance_13

theorem mX10_toInstance (l : Launch) (D : va_G) (Ca : Nat → ClassId) (B : Nat) (En : State → Prop) (hE : zEk B En) (σ : zS) (N : Nat) (x0 : Int32) (x1 : Int32) (X : zS × Int32) (hf : fX10_toInstance σ x0 x1 = some X) : zMi l D Ca B En yX10_toInstance cX10_toInstance 2 (Option.some Jvm.ClassFile.FieldType.int) 1 21 [.int x0, .int x1] σ N X.1 X.2 :=
  zMet_i (own := RX10) hE (by decide +kernel) rfl (Nat.le_of_ble_eq_true rfl) (fun p e s m args below meth c C hr hRm => wfX10_toInstance C hRm σ x0 x1 X.1 X.2 hf (fun pc lv hd => zfin_i C hr hd))
theorem dX10_toSink_0 : decode cX10_toSink 0 = .ok (.sipush 3376, 3) := by decide +kernel
theorem dX10_toSink_3 : decode cX10_toSink 3 = .ok (.sipush 802, 3) := by decide +kernel
theorem dX10_toSink_6 : decode cX10_toSink 6 = .ok (.iload_n 0, 1) := by decide +kernel
theorem dX10_toSink_7 : decode cX10_toSink 7 = .ok (.iload_n 1, 1) := by decide +kernel
theorem dX10_toSink_8 : decode cX10_toSink 8 = .ok (.invokestatic 125, 3) := by decide +kernel
theorem dX10_toSink_11 : decode cX10_toSink 11 = .ok (.imul, 1) := by decide +kernel
theorem dX10_toSink_12 : decode cX10_toSink 12 = .ok (.iadd, 1) := by decide +kernel
theorem dX10_toSink_13 : decode cX10_toSink 13 = .ok (.ireturn, 1) := by decide +kernel
theorem hyX10_toSink : yX10_toSink.cls ≠ "java/lang/invoke/MethodHandle" ∧ yX10_toSink.cls ≠ "java/lang/invoke/VarHandle" ∧ (parseMethodDescriptor yX10_toSink.desc).map (fun d => d.parameters.length) = some 2 := ⟨by decide +kernel, by decide +kernel, by decide +kernel⟩
set_option maxRecDepth 100000 in
set_option maxHeartbeats 4000000 in
theorem wfX10_toSink (C : zC p s m args meth c cX10_toSink RX10 2 D Ca B En) (hRm : zRm R 1 21 cells slots) (σ : zS) (x0 : Int32) (x1 : Int32) (τ : zS) (r : Int32) (hf : fX10_toSink σ x0 x1 = some (τ, r)) (hq : ∀ (pc : Nat) (lv : List (Nat × Value)), decode cX10_toSink pc = .ok (.ireturn, 1) → zW p l e R s m args below meth c cells slots Q D Ca B 2 τ N pc lv [.int r]) : zW p l e R s m args below meth c cells slots Q D Ca B 2 σ N 0 [(0, .int x0), (1, .int x1)] [] := by
  unfold fX10_toSink at hf
  refine z_sipush C (zi 3376) dX10_toSink_0 (by decide) ?_
  refine z_sipush C (zi 802) dX10_toSink_3 (by decide) ?_
  refine z_iload_n C dX10_toSink_6 rfl 0 rfl ?_
  refine z_iload_n C dX10_toSink_7 rfl 1 rfl ?_
  obtain ⟨c1, hc1, hf⟩ := zbind hf
  refine z_callSi (As := [.int x0, .int x1]) (F0 := 1) (L0 := 21) C (mX10_channelOut l D Ca B En C.2.2.2.2.2.2.2.1 σ N x0 x1 _ hc1) hRm kw_1424 kw_14 kw_1422 kw_1423 hyX10_channelOut (Nat.le_of_ble_eq_true rfl) (Nat.le_of_ble_eq_true rfl) rfl rfl (Nat.le_of_ble_eq_true rfl) dX10_toSink_8 ?_
  refine z_imul C dX10_toSink_11 ?_
  refine z_iadd C dX10_toSink_12 ?_
  cases hf
  exact hq _ _ dX10_toSink_13

theorem mX10_toSink (l : Launch) (D : va_G) (Ca : Nat → ClassId) (B : Nat) (En : State → Prop) (hE : zEk B En) (σ : zS) (N : Nat) (x0 : Int32) (x1 : Int32) (X : zS × Int32) (hf : fX10_toSink σ x0 x1 = some X) : zMi l D Ca B En yX10_toSink cX10_toSink 2 (Option.some Jvm.ClassFile.FieldType.int) 1 21 [.int x0, .int x1] σ N X.1 X.2 :=
  zMet_i (own := RX10) hE (by decide +kernel) rfl (Nat.le_of_ble_eq_true rfl) (fun p e s m args below meth c C hr hRm => wfX10_toSink C hRm σ x0 x1 X.1 X.2 hf (fun pc lv hd => zfin_i C hr hd))
theorem dX10_keptIn_0 : decode cX10_keptIn 0 = .ok (.sipush 14598, 3) := by decide +kernel
theorem dX10_keptIn_3 : decode cX10_keptIn 3 = .ok (.sipush 202, 3) := by decide +kernel
theorem dX10_keptIn_6 : decode cX10_keptIn 6 = .ok (.iload_n 0, 1) := by decide +kernel
theorem dX10_keptIn_7 : decode cX10_keptIn 7 = .ok (.iload_n 1, 1) := by decide +kernel
theorem dX10_keptIn_8 : decode cX10_keptIn 8 = .ok (.invokestatic 122, 3) := by decide +kernel
theorem dX10_keptIn_11 : decode cX10_keptIn 11 = .ok (.imul, 1) := by decide +kernel
theorem dX10_keptIn_12 : decode cX10_keptIn 12 = .ok (.iadd, 1) := by decide +kernel
theorem dX10_keptIn_13 : decode cX10_keptIn 13 = .ok (.ireturn, 1) := by decide +kernel
theorem hyX10_keptIn : yX10_keptIn.cls ≠ "java/lang/invoke/MethodHandle" ∧ yX10_keptIn.cls ≠ "java/lang/invoke/VarHandle" ∧ (parseMethodDescriptor yX10_keptIn.desc).map (fun d => d.parameters.length) = some 2 := ⟨by decide +kernel, by decide +kernel, by decide +kernel⟩
set_option maxRecDepth 100000 in
set_option maxHeartbeats 4000000 in
theorem wfX10_keptIn (C : zC p s m args meth c cX10_keptIn RX10 2 D Ca B En) (hRm : zRm R 1 21 cells slots) (σ : zS) (x0 : Int32) (x1 : Int32) (τ : zS) (r : Int32) (hf : fX10_keptIn σ x0 x1 = some (τ, r)) (hq : ∀ (pc : Nat) (lv : List (Nat × Value)), decode cX10_keptIn pc = .ok (.ireturn, 1) → zW p l e R s m args below meth c cells slots Q D Ca B 2 τ N pc lv [.int r]) : zW p l e R s m args below meth c cells slots Q D Ca B 2 σ N 0 [(0, .int x0), (1, .int x1)] [] := by
  unfold fX10_keptIn at hf
  refine z_sipush C (zi 14598) dX10_keptIn_0 (by decide) ?_
  refine z_sipush C (zi 202) dX10_keptIn_3 (by decide) ?_
  refine z_iload_n C dX10_keptIn_6 rfl 0 rfl ?_
  refine z_iload_n C dX10_keptIn_7 rfl 1 rfl ?_
  obtain ⟨c1, hc1, hf⟩ := zbind hf
  refine z_callSi (As := [.int x0, .int x1]) (F0 := 1) (L0 := 21) C (mX10_channelIn l D Ca B En C.2.2.2.2.2.2.2.1 σ N x0 x1 _ hc1) hRm kw_1414 kw_14 kw_1412 kw_1413 hyX10_channelIn (Nat.le_of_ble_eq_true rfl) (Nat.le_of_ble_eq_true rfl) rfl rfl (Nat.le_of_ble_eq_true rfl) dX10_keptIn_8 ?_
  refine z_imul C dX10_keptIn_11 ?_
  refine z_iadd C dX10_keptIn_12 ?_
  cases hf
  exact hq _ _ dX10_keptIn_13

theorem mX10_keptIn (l : Launch) (D : va_G) (Ca : Nat → ClassId) (B : Nat) (En : State → Prop) (hE : zEk B En) (σ : zS) (N : Nat) (x0 : Int32) (x1 : Int32) (X : zS × Int32) (hf : fX10_keptIn σ x0 x1 = some X) : zMi l D Ca B En yX10_keptIn cX10_keptIn 2 (Option.some Jvm.ClassFile.FieldType.int) 1 21 [.int x0, .int x1] σ N X.1 X.2 :=
  zMet_i (own := RX10) hE (by decide +kernel) rfl (Nat.le_of_ble_eq_true rfl) (fun p e s m args below meth c C hr hRm => wfX10_keptIn C hRm σ x0 x1 X.1 X.2 hf (fun pc lv hd => zfin_i C hr hd))
theorem dX10_keptOut_0 : decode cX10_keptOut 0 = .ok (.sipush 17830, 3) := by decide +kernel
theorem dX10_keptOut_3 : decode cX10_keptOut 3 = .ok (.sipush 802, 3) := by decide +kernel
theorem dX10_keptOut_6 : decode cX10_keptOut 6 = .ok (.iload_n 0, 1) := by decide +kernel
theorem dX10_keptOut_7 : decode cX10_keptOut 7 = .ok (.iload_n 1, 1) := by decide +kernel
theorem dX10_keptOut_8 : decode cX10_keptOut 8 = .ok (.invokestatic 125, 3) := by decide +kernel
theorem dX10_keptOut_11 : decode cX10_keptOut 11 = .ok (.imul, 1) := by decide +kernel
theorem dX10_keptOut_12 : decode cX10_keptOut 12 = .ok (.iadd, 1) := by decide +kernel
theorem dX10_keptOut_13 : decode cX10_keptOut 13 = .ok (.ireturn, 1) := by decide +kernel
theorem hyX10_keptOut : yX10_keptOut.cls ≠ "java/lang/invoke/MethodHandle" ∧ yX10_keptOut.cls ≠ "java/lang/invoke/VarHandle" ∧ (parseMethodDescriptor yX10_keptOut.desc).map (fun d => d.parameters.length) = some 2 := ⟨by decide +kernel, by decide +kernel, by decide +kernel⟩
set_option maxRecDepth 100000 in
set_option maxHeartbeats 4000000 in
theorem wfX10_keptOut (C : zC p s m args meth c cX10_keptOut RX10 2 D Ca B En) (hRm : zRm R 1 21 cells slots) (σ : zS) (x0 : Int32) (x1 : Int32) (τ : zS) (r : Int32) (hf : fX10_keptOut σ x0 x1 = some (τ, r)) (hq : ∀ (pc : Nat) (lv : List (Nat × Value)), decode cX10_keptOut pc = .ok (.ireturn, 1) → zW p l e R s m args below meth c cells slots Q D Ca B 2 τ N pc lv [.int r]) : zW p l e R s m args below meth c cells slots Q D Ca B 2 σ N 0 [(0, .int x0), (1, .int x1)] [] := by
  unfold fX10_keptOut at hf
  refine z_sipush C (zi 17830) dX10_keptOut_0 (by decide) ?_
  refine z_sipush C (zi 802) dX10_keptOut_3 (by decide) ?_
  refine z_iload_n C dX10_keptOut_6 rfl 0 rfl ?_
  refine z_iload_n C dX10_keptOut_7 rfl 1 rfl ?_
  obtain ⟨c1, hc1, hf⟩ := zbind hf
  refine z_callSi (As := [.int x0, .int x1]) (F0 := 1) (L0 := 21) C (mX10_channelOut l D Ca B En C.2.2.2.2.2.2.2.1 σ N x0 x1 _ hc1) hRm kw_1424 kw_14 kw_1422 kw_1423 hyX10_channelOut (Nat.le_of_ble_eq_true rfl) (Nat.le_of_ble_eq_true rfl) rfl rfl (Nat.le_of_ble_eq_true rfl) dX10_keptOut_8 ?_
  refine z_imul C dX10_keptOut_11 ?_
  refine z_iadd C dX10_keptOut_12 ?_
  cases hf
  exact hq _ _ dX10_keptOut_13

theorem mX10_keptOut (l : Launch) (D : va_G) (Ca : Nat → ClassId) (B : Nat) (En : State → Prop) (hE : zEk B En) (σ : zS) (N : Nat) (x0 : Int32) (x1 : Int32) (X : zS × Int32) (hf : fX10_keptOut σ x0 x1 = some X) : zMi l D Ca B En yX10_keptOut cX10_keptOut 2 (Option.some Jvm.ClassFile.FieldType.int) 1 21 [.int x0, .int x1] σ N X.1 X.2 :=
  zMet_i (own := RX10) hE (by decide +kernel) rfl (Nat.le_of_ble_eq_true rfl) (fun p e s m args below meth c C hr hRm => wfX10_keptOut C hRm σ x0 x1 X.1 X.2 hf (fun pc lv hd => zfin_i C hr hd))
theorem dX10_doneIn_0 : decode cX10_doneIn 0 = .ok (.sipush 24246, 3) := by decide +kernel
theorem dX10_doneIn_3 : decode cX10_doneIn 3 = .ok (.sipush 202, 3) := by decide +kernel
theorem dX10_doneIn_6 : decode cX10_doneIn 6 = .ok (.iload_n 0, 1) := by decide +kernel
theorem dX10_doneIn_7 : decode cX10_doneIn 7 = .ok (.iload_n 1, 1) := by decide +kernel
theorem dX10_doneIn_8 : decode cX10_doneIn 8 = .ok (.invokestatic 122, 3) := by decide +kernel
theorem dX10_doneIn_11 : decode cX10_doneIn 11 = .ok (.imul, 1) := by decide +kernel
theorem dX10_doneIn_12 : decode cX10_doneIn 12 = .ok (.iadd, 1) := by decide +kernel
theorem dX10_doneIn_13 : decode cX10_doneIn 13 = .ok (.ireturn, 1) := by decide +kernel
theorem hyX10_doneIn : yX10_doneIn.cls ≠ "java/lang/invoke/MethodHandle" ∧ yX10_doneIn.cls ≠ "java/lang/invoke/VarHandle" ∧ (parseMethodDescriptor yX10_doneIn.desc).map (fun d => d.parameters.length) = some 2 := ⟨by decide +kernel, by decide +kernel, by decide +kernel⟩
set_option maxRecDepth 100000 in
set_option maxHeartbeats 4000000 in
theorem wfX10_doneIn (C : zC p s m args meth c cX10_doneIn RX10 2 D Ca B En) (hRm : zRm R 1 21 cells slots) (σ : zS) (x0 : Int32) (x1 : Int32) (τ : zS) (r : Int32) (hf : fX10_doneIn σ x0 x1 = some (τ, r)) (hq : ∀ (pc : Nat) (lv : List (Nat × Value)), decode cX10_doneIn pc = .ok (.ireturn, 1) → zW p l e R s m args below meth c cells slots Q D Ca B 2 τ N pc lv [.int r]) : zW p l e R s m args below meth c cells slots Q D Ca B 2 σ N 0 [(0, .int x0), (1, .int x1)] [] := by
  unfold fX10_doneIn at hf
  refine z_sipush C (zi 24246) dX10_doneIn_0 (by decide) ?_
  refine z_sipush C (zi 202) dX10_doneIn_3 (by decide) ?_
  refine z_iload_n C dX10_doneIn_6 rfl 0 rfl ?_
  refine z_iload_n C dX10_doneIn_7 rfl 1 rfl ?_
  obtain ⟨c1, hc1, hf⟩ := zbind hf
  refine z_callSi (As := [.int x0, .int x1]) (F0 := 1) (L0 := 21) C (mX10_channelIn l D Ca B En C.2.2.2.2.2.2.2.1 σ N x0 x1 _ hc1) hRm kw_1414 kw_14 kw_1412 kw_1413 hyX10_channelIn (Nat.le_of_ble_eq_true rfl) (Nat.le_of_ble_eq_true rfl) rfl rfl (Nat.le_of_ble_eq_true rfl) dX10_doneIn_8 ?_
  refine z_imul C dX10_doneIn_11 ?_
  refine z_iadd C dX10_doneIn_12 ?_
  cases hf
  exact hq _ _ dX10_doneIn_13

theorem mX10_doneIn (l : Launch) (D : va_G) (Ca : Nat → ClassId) (B : Nat) (En : State → Prop) (hE : zEk B En) (σ : zS) (N : Nat) (x0 : Int32) (x1 : Int32) (X : zS × Int32) (hf : fX10_doneIn σ x0 x1 = some X) : zMi l D Ca B En yX10_doneIn cX10_doneIn 2 (Option.some Jvm.ClassFile.FieldType.int) 1 21 [.int x0, .int x1] σ N X.1 X.2 :=
  zMet_i (own := RX10) hE (by decide +kernel) rfl (Nat.le_of_ble_eq_true rfl) (fun p e s m args below meth c C hr hRm => wfX10_doneIn C hRm σ x0 x1 X.1 X.2 hf (fun pc lv hd => zfin_i C hr hd))
theorem dX10_doneOut_0 : decode cX10_doneOut 0 = .ok (.sipush 27478, 3) := by decide +kernel
theorem dX10_doneOut_3 : decode cX10_doneOut 3 = .ok (.sipush 802, 3) := by decide +kernel
theorem dX10_doneOut_6 : decode cX10_doneOut 6 = .ok (.iload_n 0, 1) := by decide +kernel
theorem dX10_doneOut_7 : decode cX10_doneOut 7 = .ok (.iload_n 1, 1) := by decide +kernel
theorem dX10_doneOut_8 : decode cX10_doneOut 8 = .ok (.invokestatic 125, 3) := by decide +kernel
theorem dX10_doneOut_11 : decode cX10_doneOut 11 = .ok (.imul, 1) := by decide +kernel
theorem dX10_doneOut_12 : decode cX10_doneOut 12 = .ok (.iadd, 1) := by decide +kernel
theorem dX10_doneOut_13 : decode cX10_doneOut 13 = .ok (.ireturn, 1) := by decide +kernel
theorem hyX10_doneOut : yX10_doneOut.cls ≠ "java/lang/invoke/MethodHandle" ∧ yX10_doneOut.cls ≠ "java/lang/invoke/VarHandle" ∧ (parseMethodDescriptor yX10_doneOut.desc).map (fun d => d.parameters.length) = some 2 := ⟨by decide +kernel, by decide +kernel, by decide +kernel⟩
set_option maxRecDepth 100000 in
set_option maxHeartbeats 4000000 in
theorem wfX10_doneOut (C : zC p s m args meth c cX10_doneOut RX10 2 D Ca B En) (hRm : zRm R 1 21 cells slots) (σ : zS) (x0 : Int32) (x1 : Int32) (τ : zS) (r : Int32) (hf : fX10_doneOut σ x0 x1 = some (τ, r)) (hq : ∀ (pc : Nat) (lv : List (Nat × Value)), decode cX10_doneOut pc = .ok (.ireturn, 1) → zW p l e R s m args below meth c cells slots Q D Ca B 2 τ N pc lv [.int r]) : zW p l e R s m args below meth c cells slots Q D Ca B 2 σ N 0 [(0, .int x0), (1, .int x1)] [] := by
  unfold fX10_doneOut at hf
  refine z_sipush C (zi 27478) dX10_doneOut_0 (by decide) ?_
  refine z_sipush C (zi 802) dX10_doneOut_3 (by decide) ?_
  refine z_iload_n C dX10_doneOut_6 rfl 0 rfl ?_
  refine z_iload_n C dX10_doneOut_7 rfl 1 rfl ?_
  obtain ⟨c1, hc1, hf⟩ := zbind hf
  refine z_callSi (As := [.int x0, .int x1]) (F0 := 1) (L0 := 21) C (mX10_channelOut l D Ca B En C.2.2.2.2.2.2.2.1 σ N x0 x1 _ hc1) hRm kw_1424 kw_14 kw_1422 kw_1423 hyX10_channelOut (Nat.le_of_ble_eq_true rfl) (Nat.le_of_ble_eq_true rfl) rfl rfl (Nat.le_of_ble_eq_true rfl) dX10_doneOut_8 ?_
  refine z_imul C dX10_doneOut_11 ?_
  refine z_iadd C dX10_doneOut_12 ?_
  cases hf
  exact hq _ _ dX10_doneOut_13

theorem mX10_doneOut (l : Launch) (D : va_G) (Ca : Nat → ClassId) (B : Nat) (En : State → Prop) (hE : zEk B En) (σ : zS) (N : Nat) (x0 : Int32) (x1 : Int32) (X : zS × Int32) (hf : fX10_doneOut σ x0 x1 = some X) : zMi l D Ca B En yX10_doneOut cX10_doneOut 2 (Option.some Jvm.ClassFile.FieldType.int) 1 21 [.int x0, .int x1] σ N X.1 X.2 :=
  zMet_i (own := RX10) hE (by decide +kernel) rfl (Nat.le_of_ble_eq_true rfl) (fun p e s m args below meth c C hr hRm => wfX10_doneOut C hRm σ x0 x1 X.1 X.2 hf (fun pc lv hd => zfin_i C hr hd))
theorem dX10_results_0 : decode cX10_results 0 = .ok (.iload_n 0, 1) := by decide +kernel
theorem dX10_results_1 : decode cX10_results 1 = .ok (.sipush 801, 3) := by decide +kernel
theorem dX10_results_4 : decode cX10_results 4 = .ok (.iload_n 1, 1) := by decide +kernel
theorem dX10_results_5 : decode cX10_results 5 = .ok (.imul, 1) := by decide +kernel
theorem dX10_results_6 : decode cX10_results 6 = .ok (.iadd, 1) := by decide +kernel
theorem dX10_results_7 : decode cX10_results 7 = .ok (.ireturn, 1) := by decide +kernel
theorem hyX10_results : yX10_results.cls ≠ "java/lang/invoke/MethodHandle" ∧ yX10_results.cls ≠ "java/lang/invoke/VarHandle" ∧ (parseMethodDescriptor yX10_results.desc).map (fun d => d.parameters.length) = some 2 := ⟨by decide +kernel, by decide +kernel, by decide +kernel⟩
set_option maxRecDepth 100000 in
set_option maxHeartbeats 4000000 in
theorem wfX10_results (C : zC p s m args meth c cX10_results RX10 2 D Ca B En) (hRm : zRm R 0 0 cells slots) (σ : zS) (x0 : Int32) (x1 : Int32) (τ : zS) (r : Int32) (hf : fX10_results σ x0 x1 = some (τ, r)) (hq : ∀ (pc : Nat) (lv : List (Nat × Value)), decode cX10_results pc = .ok (.ireturn, 1) → zW p l e R s m args below meth c cells slots Q D Ca B 2 τ N pc lv [.int r]) : zW p l e R s m args below meth c cells slots Q D Ca B 2 σ N 0 [(0, .int x0), (1, .int x1)] [] := by
  unfold fX10_results at hf
  refine z_iload_n C dX10_results_0 rfl 0 rfl ?_
  refine z_sipush C (zi 801) dX10_results_1 (by decide) ?_
  refine z_iload_n C dX10_results_4 rfl 1 rfl ?_
  refine z_imul C dX10_results_5 ?_
  refine z_iadd C dX10_results_6 ?_
  cases hf
  exact hq _ _ dX10_results_7

theorem mX10_results (l : Launch) (D : va_G) (Ca : Nat → ClassId) (B : Nat) (En : State → Prop) (hE : zEk B En) (σ : zS) (N : Nat) (x0 : Int32) (x1 : Int32) (X : zS × Int32) (hf : fX10_results σ x0 x1 = some X) : zMi l D Ca B En yX10_results cX10_results 2 (Option.some Jvm.ClassFile.FieldType.int) 0 0 [.int x0, .int x1] σ N X.1 X.2 :=
  zMet_i (own := RX10) hE (by decide +kernel) rfl (Nat.le_of_ble_eq_true rfl) (fun p e s m args below meth c C hr hRm => wfX10_results C hRm σ x0 x1 X.1 X.2 hf (fun pc lv hd => zfin_i C hr hd))
theorem dX10_keyOf_0 : decode cX10_keyOf 0 = .ok (.iconst 4, 1) := by decide +kernel
theorem dX10_keyOf_1 : decode cX10_keyOf 1 = .ok (.aload_n 0, 1) := by decide +kernel
theorem dX10_keyOf_2 : decode cX10_keyOf 2 = .ok (.getfield 13, 3) := by decide +kernel
theorem dX10_keyOf_5 : decode cX10_keyOf 5 = .ok (.iload_n 1, 1) := by decide +kernel
theorem dX10_keyOf_6 : decode cX10_keyOf 6 = .ok (.iaload, 1) := by decide +kernel
theorem dX10_keyOf_7 : decode cX10_keyOf 7 = .ok (.iload_n 2, 1) := by decide +kernel
theorem dX10_keyOf_8 : decode cX10_keyOf 8 = .ok (.iload_n 2, 1) := by decide +kernel
theorem dX10_keyOf_9 : decode cX10_keyOf 9 = .ok (.imul, 1) := by decide +kernel
theorem dX10_keyOf_10 : decode cX10_keyOf 10 = .ok (.iadd, 1) := by decide +kernel
theorem dX10_keyOf_11 : decode cX10_keyOf 11 = .ok (.iload_n 2, 1) := by decide +kernel
theorem dX10_keyOf_12 : decode cX10_keyOf 12 = .ok (.iconst 2, 1) := by decide +kernel
theorem dX10_keyOf_13 : decode cX10_keyOf 13 = .ok (.idiv, 1) := by decide +kernel
theorem dX10_keyOf_14 : decode cX10_keyOf 14 = .ok (.iadd, 1) := by decide +kernel
theorem dX10_keyOf_15 : decode cX10_keyOf 15 = .ok (.iconst 4, 1) := by decide +kernel
theorem dX10_keyOf_16 : decode cX10_keyOf 16 = .ok (.irem, 1) := by decide +kernel
theorem dX10_keyOf_17 : decode cX10_keyOf 17 = .ok (.imul, 1) := by decide +kernel
theorem dX10_keyOf_18 : decode cX10_keyOf 18 = .ok (.iload_n 1, 1) := by decide +kernel
theorem dX10_keyOf_19 : decode cX10_keyOf 19 = .ok (.iadd, 1) := by decide +kernel
theorem dX10_keyOf_20 : decode cX10_keyOf 20 = .ok (.ireturn, 1) := by decide +kernel
theorem hyX10_keyOf : yX10_keyOf.cls ≠ "java/lang/invoke/MethodHandle" ∧ yX10_keyOf.cls ≠ "java/lang/invoke/VarHandle" ∧ (parseMethodDescriptor yX10_keyOf.desc).map (fun d => d.parameters.length) = some 2 := ⟨by decide +kernel, by decide +kernel, by decide +kernel⟩
set_option maxRecDepth 100000 in
set_option maxHeartbeats 4000000 in
theorem wfX10_keyOf (C : zC p s m args meth c cX10_keyOf RX10 3 D Ca B En) (hRm : zRm R 0 0 cells slots) (σ : zS) (x0 : Nat) (x1 : Int32) (x2 : Int32) (τ : zS) (r : Int32) (hf : fX10_keyOf σ x0 x1 x2 = some (τ, r)) (hq : ∀ (pc : Nat) (lv : List (Nat × Value)), decode cX10_keyOf pc = .ok (.ireturn, 1) → zW p l e R s m args below meth c cells slots Q D Ca B 3 τ N pc lv [.int r]) : zW p l e R s m args below meth c cells slots Q D Ca B 3 σ N 0 [(0, .ref x0), (1, .int x1), (2, .int x2)] [] := by
  unfold fX10_keyOf at hf
  refine z_iconst C (zi 4) dX10_keyOf_0 (by decide) ?_
  refine z_aload_n C dX10_keyOf_1 rfl 0 rfl ?_
  obtain ⟨v1, hv1, hf⟩ := zbind hf
  refine gf_RX10_13 C hv1 dX10_keyOf_2 ?_
  refine z_iload_n C dX10_keyOf_5 rfl 1 rfl ?_
  obtain ⟨v2, hv2, hf⟩ := zbind hf
  refine z_aI C hv2 dX10_keyOf_6 ?_
  refine z_iload_n C dX10_keyOf_7 rfl 2 rfl ?_
  refine z_iload_n C dX10_keyOf_8 rfl 2 rfl ?_
  refine z_imul C dX10_keyOf_9 ?_
  refine z_iadd C dX10_keyOf_10 ?_
  refine z_iload_n C dX10_keyOf_11 rfl 2 rfl ?_
  refine z_iconst C (zi 2) dX10_keyOf_12 (by decide) ?_
  refine z_idiv C dX10_keyOf_13 (by decide) ?_
  refine z_iadd C dX10_keyOf_14 ?_
  refine z_iconst C (zi 4) dX10_keyOf_15 (by decide) ?_
  refine z_irem C dX10_keyOf_16 (by decide) ?_
  refine z_imul C dX10_keyOf_17 ?_
  refine z_iload_n C dX10_keyOf_18 rfl 1 rfl ?_
  refine z_iadd C dX10_keyOf_19 ?_
  cases hf
  exact hq _ _ dX10_keyOf_20

theorem mX10_keyOf (l : Launch) (D : va_G) (Ca : Nat → ClassId) (B : Nat) (En : State → Prop) (hE : zEk B En) (σ : zS) (N : Nat) (x0 : Nat) (x1 : Int32) (x2 : Int32) (X : zS × Int32) (hf : fX10_keyOf σ x0 x1 x2 = some X) : zMi l D Ca B En yX10_keyOf cX10_keyOf 3 (Option.some Jvm.ClassFile.FieldType.int) 0 0 [.ref x0, .int x1, .int x2] σ N X.1 X.2 :=
  zMet_i (own := RX10) hE (by decide +kernel) rfl (Nat.le_of_ble_eq_true rfl) (fun p e s m args below meth c C hr hRm => wfX10_keyOf C hRm σ x0 x1 x2 X.1 X.2 hf (fun pc lv hd => zfin_i C hr hd))
theorem dX10_valueOf_0 : decode cX10_valueOf 0 = .ok (.aload_n 0, 1) := by decide +kernel
theorem dX10_valueOf_1 : decode cX10_valueOf 1 = .ok (.getfield 13, 3) := by decide +kernel
theorem dX10_valueOf_4 : decode cX10_valueOf 4 = .ok (.iload_n 1, 1) := by decide +kernel
theorem dX10_valueOf_5 : decode cX10_valueOf 5 = .ok (.iaload, 1) := by decide +kernel
theorem dX10_valueOf_6 : decode cX10_valueOf 6 = .ok (.bipush 7, 2) := by decide +kernel
theorem dX10_valueOf_8 : decode cX10_valueOf 8 = .ok (.iload_n 2, 1) := by decide +kernel
theorem dX10_valueOf_9 : decode cX10_valueOf 9 = .ok (.imul, 1) := by decide +kernel
theorem dX10_valueOf_10 : decode cX10_valueOf 10 = .ok (.iadd, 1) := by decide +kernel
theorem dX10_valueOf_11 : decode cX10_valueOf 11 = .ok (.bipush 50, 2) := by decide +kernel
theorem dX10_valueOf_13 : decode cX10_valueOf 13 = .ok (.irem, 1) := by decide +kernel
theorem dX10_valueOf_14 : decode cX10_valueOf 14 = .ok (.iconst 1, 1) := by decide +kernel
theorem dX10_valueOf_15 : decode cX10_valueOf 15 = .ok (.iadd, 1) := by decide +kernel
theorem dX10_valueOf_16 : decode cX10_valueOf 16 = .ok (.ireturn, 1) := by decide +kernel
theorem hyX10_valueOf : yX10_valueOf.cls ≠ "java/lang/invoke/MethodHandle" ∧ yX10_valueOf.cls ≠ "java/lang/invoke/VarHandle" ∧ (parseMethodDescriptor yX10_valueOf.desc).map (fun d => d.parameters.length) = some 2 := ⟨by decide +kernel, by decide +kernel, by decide +kernel⟩
set_option maxRecDepth 100000 in
set_option maxHeartbeats 4000000 in
theorem wfX10_valueOf (C : zC p s m args meth c cX10_valueOf RX10 3 D Ca B En) (hRm : zRm R 0 0 cells slots) (σ : zS) (x0 : Nat) (x1 : Int32) (x2 : Int32) (τ : zS) (r : Int32) (hf : fX10_valueOf σ x0 x1 x2 = some (τ, r)) (hq : ∀ (pc : Nat) (lv : List (Nat × Value)), decode cX10_valueOf pc = .ok (.ireturn, 1) → zW p l e R s m args below meth c cells slots Q D Ca B 3 τ N pc lv [.int r]) : zW p l e R s m args below meth c cells slots Q D Ca B 3 σ N 0 [(0, .ref x0), (1, .int x1), (2, .int x2)] [] := by
  unfold fX10_valueOf at hf
  refine z_aload_n C dX10_valueOf_0 rfl 0 rfl ?_
  obtain ⟨v1, hv1, hf⟩ := zbind hf
  refine gf_RX10_13 C hv1 dX10_valueOf_1 ?_
  refine z_iload_n C dX10_valueOf_4 rfl 1 rfl ?_
  obtain ⟨v2, hv2, hf⟩ := zbind hf
  refine z_aI C hv2 dX10_valueOf_5 ?_
  refine z_bipush C (zi 7) dX10_valueOf_6 (by decide) ?_
  refine z_iload_n C dX10_valueOf_8 rfl 2 rfl ?_
  refine z_imul C dX10_valueOf_9 ?_
  refine z_iadd C dX10_valueOf_10 ?_
  refine z_bipush C (zi 50) dX10_valueOf_11 (by decide) ?_
  refine z_irem C dX10_valueOf_13 (by decide) ?_
  refine z_iconst C (zi 1) dX10_valueOf_14 (by decide) ?_
  refine z_iadd C dX10_valueOf_15 ?_
  cases hf
  exact hq _ _ dX10_valueOf_16

theorem mX10_valueOf (l : Launch) (D : va_G) (Ca : Nat → ClassId) (B : Nat) (En : State → Prop) (hE : zEk B En) (σ : zS) (N : Nat) (x0 : Nat) (x1 : Int32) (x2 : Int32) (X : zS × Int32) (hf : fX10_valueOf σ x0 x1 x2 = some X) : zMi l D Ca B En yX10_valueOf cX10_valueOf 3 (Option.some Jvm.ClassFile.FieldType.int) 0 0 [.ref x0, .int x1, .int x2] σ N X.1 X.2 :=
  zMet_i (own := RX10) hE (by decide +kernel) rfl (Nat.le_of_ble_eq_true rfl) (fun p e s m args below meth c C hr hRm => wfX10_valueOf C hRm σ x0 x1 x2 X.1 X.2 hf (fun pc lv hd => zfin_i C hr hd))
theorem dX10_ownerAmong_0 : decode cX10_ownerAmong 0 = .ok (.iload_n 0, 1) := by decide +kernel
theorem dX10_ownerAmong_1 : decode cX10_ownerAmong 1 = .ok (.iload_n 1, 1) := by decide +kernel
theorem dX10_ownerAmong_2 : decode cX10_ownerAmong 2 = .ok (.imul, 1) := by decide +kernel
theorem dX10_ownerAmong_3 : decode cX10_ownerAmong 3 = .ok (.bipush 8, 2) := by decide +kernel
theorem dX10_ownerAmong_5 : decode cX10_ownerAmong 5 = .ok (.idiv, 1) := by decide +kernel
theorem dX10_ownerAmong_6 : decode cX10_ownerAmong 6 = .ok (.ireturn, 1) := by decide +kernel
theorem hyX10_ownerAmong : yX10_ownerAmong.cls ≠ "java/lang/invoke/MethodHandle" ∧ yX10_ownerAmong.cls ≠ "java/lang/invoke/VarHandle" ∧ (parseMethodDescriptor yX10_ownerAmong.desc).map (fun d => d.parameters.length) = some 2 := ⟨by decide +kernel, by decide +kernel, by decide +kernel⟩
set_option maxRecDepth 100000 in
set_option maxHeartbeats 4000000 in
theorem wfX10_ownerAmong (C : zC p s m args meth c cX10_ownerAmong RX10 2 D Ca B En) (hRm : zRm R 0 0 cells slots) (σ : zS) (x0 : Int32) (x1 : Int32) (τ : zS) (r : Int32) (hf : fX10_ownerAmong σ x0 x1 = some (τ, r)) (hq : ∀ (pc : Nat) (lv : List (Nat × Value)), decode cX10_ownerAmong pc = .ok (.ireturn, 1) → zW p l e R s m args below meth c cells slots Q D Ca B 2 τ N pc lv [.int r]) : zW p l e R s m args below meth c cells slots Q D Ca B 2 σ N 0 [(0, .int x0), (1, .int x1)] [] := by
  unfold fX10_ownerAmong at hf
  refine z_iload_n C dX10_ownerAmong_0 rfl 0 rfl ?_
  refine z_iload_n C dX10_ownerAmong_1 rfl 1 rfl ?_
  refine z_imul C dX10_ownerAmong_2 ?_
  refine z_bipush C (zi 8) dX10_ownerAmong_3 (by decide) ?_
  refine z_idiv C dX10_ownerAmong_5 (by decide) ?_
  cases hf
  exact hq _ _ dX10_ownerAmong_6

theorem mX10_ownerAmong (l : Launch) (D : va_G) (Ca : Nat → ClassId) (B : Nat) (En : State → Prop) (hE : zEk B En) (σ : zS) (N : Nat) (x0 : Int32) (x1 : Int32) (X : zS × Int32) (hf : fX10_ownerAmong σ x0 x1 = some X) : zMi l D Ca B En yX10_ownerAmong cX10_ownerAmong 2 (Option.some Jvm.ClassFile.FieldType.int) 0 0 [.int x0, .int x1] σ N X.1 X.2 :=
  zMet_i (own := RX10) hE (by decide +kernel) rfl (Nat.le_of_ble_eq_true rfl) (fun p e s m args below meth c C hr hRm => wfX10_ownerAmong C hRm σ x0 x1 X.1 X.2 hf (fun pc lv hd => zfin_i C hr hd))
theorem dX10_ownerOf_0 : decode cX10_ownerOf 0 = .ok (.iload_n 1, 1) := by decide +kernel
theorem dX10_ownerOf_1 : decode cX10_ownerOf 1 = .ok (.bipush 8, 2) := by decide +kernel
theorem dX10_ownerOf_3 : decode cX10_ownerOf 3 = .ok (.irem, 1) := by decide +kernel
theorem dX10_ownerOf_4 : decode cX10_ownerOf 4 = .ok (.aload_n 0, 1) := by decide +kernel
theorem dX10_ownerOf_5 : decode cX10_ownerOf 5 = .ok (.getfield 21, 3) := by decide +kernel
theorem dX10_ownerOf_8 : decode cX10_ownerOf 8 = .ok (.iconst 1, 1) := by decide +kernel
theorem dX10_ownerOf_9 : decode cX10_ownerOf 9 = .ok (.iaload, 1) := by decide +kernel
theorem dX10_ownerOf_10 : decode cX10_ownerOf 10 = .ok (.invokestatic 128, 3) := by decide +kernel
theorem dX10_ownerOf_13 : decode cX10_ownerOf 13 = .ok (.ireturn, 1) := by decide +kernel
theorem hyX10_ownerOf : yX10_ownerOf.cls ≠ "java/lang/invoke/MethodHandle" ∧ yX10_ownerOf.cls ≠ "java/lang/invoke/VarHandle" ∧ (parseMethodDescriptor yX10_ownerOf.desc).map (fun d => d.parameters.length) = some 1 := ⟨by decide +kernel, by decide +kernel, by decide +kernel⟩
set_option maxRecDepth 100000 in
set_option maxHeartbeats 4000000 in
theorem wfX10_ownerOf (C : zC p s m args meth c cX10_ownerOf RX10 2 D Ca B En) (hRm : zRm R 1 21 cells slots) (σ : zS) (x0 : Nat) (x1 : Int32) (τ : zS) (r : Int32) (hf : fX10_ownerOf σ x0 x1 = some (τ, r)) (hq : ∀ (pc : Nat) (lv : List (Nat × Value)), decode cX10_ownerOf pc = .ok (.ireturn, 1) → zW p l e R s m args below meth c cells slots Q D Ca B 2 τ N pc lv [.int r]) : zW p l e R s m args below meth c cells slots Q D Ca B 2 σ N 0 [(0, .ref x0), (1, .int x1)] [] := by
  unfold fX10_ownerOf at hf
  refine z_iload_n C dX10_ownerOf_0 rfl 1 rfl ?_
  refine z_bipush C (zi 8) dX10_ownerOf_1 (by decide) ?_
  refine z_irem C dX10_ownerOf_3 (by decide) ?_
  refine z_aload_n C dX10_ownerOf_4 rfl 0 rfl ?_
  obtain ⟨v1, hv1, hf⟩ := zbind hf
  refine gf_RX10_21 C hv1 dX10_ownerOf_5 ?_
  refine z_iconst C (zi 1) dX10_ownerOf_8 (by decide) ?_
  obtain ⟨v2, hv2, hf⟩ := zbind hf
  refine z_aI C hv2 dX10_ownerOf_9 ?_
  obtain ⟨c3, hc3, hf⟩ := zbind hf
  refine z_callSi (As := [.int (x1 - x1 / ((zi 8)) * ((zi 8))), .int v2]) (F0 := 1) (L0 := 21) C (mX10_ownerAmong l D Ca B En C.2.2.2.2.2.2.2.1 σ N (x1 - x1 / ((zi 8)) * ((zi 8))) v2 _ hc3) hRm kw_1461 kw_14 kw_1459 kw_1460 hyX10_ownerAmong (Nat.le_of_ble_eq_true rfl) (Nat.le_of_ble_eq_true rfl) rfl rfl (Nat.le_of_ble_eq_true rfl) dX10_ownerOf_10 ?_
  cases hf
  exact hq _ _ dX10_ownerOf_13

theorem mX10_ownerOf (l : Launch) (D : va_G) (Ca : Nat → ClassId) (B : Nat) (En : State → Prop) (hE : zEk B En) (σ : zS) (N : Nat) (x0 : Nat) (x1 : Int32) (X : zS × Int32) (hf : fX10_ownerOf σ x0 x1 = some X) : zMi l D Ca B En yX10_ownerOf cX10_ownerOf 2 (Option.some Jvm.ClassFile.FieldType.int) 1 21 [.ref x0, .int x1] σ N X.1 X.2 :=
  zMet_i (own := RX10) hE (by decide +kernel) rfl (Nat.le_of_ble_eq_true rfl) (fun p e s m args below meth c C hr hRm => wfX10_ownerOf C hRm σ x0 x1 X.1 X.2 hf (fun pc lv hd => zfin_i C hr hd))
theorem dX10_sinkOf_0 : decode cX10_sinkOf 0 = .ok (.iload_n 1, 1) := by decide +kernel
theorem dX10_sinkOf_1 : decode cX10_sinkOf 1 = .ok (.iconst 4, 1) := by decide +kernel
theorem dX10_sinkOf_2 : decode cX10_sinkOf 2 = .ok (.idiv, 1) := by decide +kernel
theorem dX10_sinkOf_3 : decode cX10_sinkOf 3 = .ok (.aload_n 0, 1) := by decide +kernel
theorem dX10_sinkOf_4 : decode cX10_sinkOf 4 = .ok (.getfield 78, 3) := by decide +kernel
theorem dX10_sinkOf_7 : decode cX10_sinkOf 7 = .ok (.irem, 1) := by decide +kernel
theorem dX10_sinkOf_8 : decode cX10_sinkOf 8 = .ok (.ireturn, 1) := by decide +kernel
theorem hyX10_sinkOf : yX10_sinkOf.cls ≠ "java/lang/invoke/MethodHandle" ∧ yX10_sinkOf.cls ≠ "java/lang/invoke/VarHandle" ∧ (parseMethodDescriptor yX10_sinkOf.desc).map (fun d => d.parameters.length) = some 1 := ⟨by decide +kernel, by decide +kernel, by decide +kernel⟩
set_option maxRecDepth 100000 in
set_option maxHeartbeats 4000000 in
theorem wfX10_sinkOf (C : zC p s m args meth c cX10_sinkOf RX10 2 D Ca B En) (hRm : zRm R 0 0 cells slots) (σ : zS) (x0 : Nat) (x1 : Int32) (τ : zS) (r : Int32) (hf : fX10_sinkOf σ x0 x1 = some (τ, r)) (hq : ∀ (pc : Nat) (lv : List (Nat × Value)), decode cX10_sinkOf pc = .ok (.ireturn, 1) → zW p l e R s m args below meth c cells slots Q D Ca B 2 τ N pc lv [.int r]) : zW p l e R s m args below meth c cells slots Q D Ca B 2 σ N 0 [(0, .ref x0), (1, .int x1)] [] := by
  unfold fX10_sinkOf at hf
  refine z_iload_n C dX10_sinkOf_0 rfl 1 rfl ?_
  refine z_iconst C (zi 4) dX10_sinkOf_1 (by decide) ?_
  refine z_idiv C dX10_sinkOf_2 (by decide) ?_
  refine z_aload_n C dX10_sinkOf_3 rfl 0 rfl ?_
  obtain ⟨v1, hv1, hf⟩ := zbind hf
  refine gf_RX10_78 C hv1 dX10_sinkOf_4 ?_
  obtain ⟨d2, hd2, hf⟩ := zbind hf
  refine z_irem C dX10_sinkOf_7 (znz_ok hd2) ?_
  cases hf
  exact hq _ _ dX10_sinkOf_8

theorem mX10_sinkOf (l : Launch) (D : va_G) (Ca : Nat → ClassId) (B : Nat) (En : State → Prop) (hE : zEk B En) (σ : zS) (N : Nat) (x0 : Nat) (x1 : Int32) (X : zS × Int32) (hf : fX10_sinkOf σ x0 x1 = some X) : zMi l D Ca B En yX10_sinkOf cX10_sinkOf 2 (Option.some Jvm.ClassFile.FieldType.int) 0 0 [.ref x0, .int x1] σ N X.1 X.2 :=
  zMet_i (own := RX10) hE (by decide +kernel) rfl (Nat.le_of_ble_eq_true rfl) (fun p e s m args below meth c C hr hRm => wfX10_sinkOf C hRm σ x0 x1 X.1 X.2 hf (fun pc lv hd => zfin_i C hr hd))
theorem dX10_emptiesKept_0 : decode cX10_emptiesKept 0 = .ok (.iconst 0, 1) := by decide +kernel
theorem dX10_emptiesKept_1 : decode cX10_emptiesKept 1 = .ok (.istore_n 1, 1) := by decide +kernel
theorem dX10_emptiesKept_2 : decode cX10_emptiesKept 2 = .ok (.iload_n 1, 1) := by decide +kernel
theorem dX10_emptiesKept_3 : decode cX10_emptiesKept 3 = .ok (.iconst 4, 1) := by decide +kernel
theorem dX10_emptiesKept_4 : decode cX10_emptiesKept 4 = .ok (.if_icmp .ge 53, 3) := by decide +kernel
theorem dX10_emptiesKept_7 : decode cX10_emptiesKept 7 = .ok (.iconst 0, 1) := by decide +kernel
theorem dX10_emptiesKept_8 : decode cX10_emptiesKept 8 = .ok (.istore_n 2, 1) := by decide +kernel
theorem dX10_emptiesKept_9 : decode cX10_emptiesKept 9 = .ok (.iload_n 2, 1) := by decide +kernel
theorem dX10_emptiesKept_10 : decode cX10_emptiesKept 10 = .ok (.iconst 4, 1) := by decide +kernel
theorem dX10_emptiesKept_11 : decode cX10_emptiesKept 11 = .ok (.if_icmp .ge 18, 3) := by decide +kernel
theorem dX10_emptiesKept_14 : decode cX10_emptiesKept 14 = .ok (.aload_n 0, 1) := by decide +kernel
theorem dX10_emptiesKept_15 : decode cX10_emptiesKept 15 = .ok (.iload_n 2, 1) := by decide +kernel
theorem dX10_emptiesKept_16 : decode cX10_emptiesKept 16 = .ok (.iload_n 1, 1) := by decide +kernel
theorem dX10_emptiesKept_17 : decode cX10_emptiesKept 17 = .ok (.invokestatic 134, 3) := by decide +kernel
theorem dX10_emptiesKept_20 : decode cX10_emptiesKept 20 = .ok (.invokevirtual 108, 3) := by decide +kernel
theorem dX10_emptiesKept_23 : decode cX10_emptiesKept 23 = .ok (.iinc 2 1, 3) := by decide +kernel
theorem dX10_emptiesKept_26 : decode cX10_emptiesKept 26 = .ok (.goto (-17), 3) := by decide +kernel
theorem dX10_emptiesKept_29 : decode cX10_emptiesKept 29 = .ok (.iconst 0, 1) := by decide +kernel
theorem dX10_emptiesKept_30 : decode cX10_emptiesKept 30 = .ok (.istore_n 2, 1) := by decide +kernel
theorem dX10_emptiesKept_31 : decode cX10_emptiesKept 31 = .ok (.iload_n 2, 1) := by decide +kernel
theorem dX10_emptiesKept_32 : decode cX10_emptiesKept 32 = .ok (.iconst 2, 1) := by decide +kernel
theorem dX10_emptiesKept_33 : decode cX10_emptiesKept 33 = .ok (.if_icmp .ge 18, 3) := by decide +kernel
theorem dX10_emptiesKept_36 : decode cX10_emptiesKept 36 = .ok (.aload_n 0, 1) := by decide +kernel
theorem dX10_emptiesKept_37 : decode cX10_emptiesKept 37 = .ok (.iload_n 1, 1) := by decide +kernel
theorem dX10_emptiesKept_38 : decode cX10_emptiesKept 38 = .ok (.iload_n 2, 1) := by decide +kernel
theorem dX10_emptiesKept_39 : decode cX10_emptiesKept 39 = .ok (.invokestatic 137, 3) := by decide +kernel
theorem dX10_emptiesKept_42 : decode cX10_emptiesKept 42 = .ok (.invokevirtual 108, 3) := by decide +kernel
theorem dX10_emptiesKept_45 : decode cX10_emptiesKept 45 = .ok (.iinc 2 1, 3) := by decide +kernel
theorem dX10_emptiesKept_48 : decode cX10_emptiesKept 48 = .ok (.goto (-17), 3) := by decide +kernel
theorem dX10_emptiesKept_51 : decode cX10_emptiesKept 51 = .ok (.iinc 1 1, 3) := by decide +kernel
theorem dX10_emptiesKept_54 : decode cX10_emptiesKept 54 = .ok (.goto (-52), 3) := by decide +kernel
theorem dX10_emptiesKept_57 : decode cX10_emptiesKept 57 = .ok (.return_, 1) := by decide +kernel
theorem hyX10_emptiesKept : yX10_emptiesKept.cls ≠ "java/lang/invoke/MethodHandle" ∧ yX10_emptiesKept.cls ≠ "java/lang/invoke/VarHandle" ∧ (parseMethodDescriptor yX10_emptiesKept.desc).map (fun d => d.parameters.length) = some 0 := ⟨by decide +kernel, by decide +kernel, by decide +kernel⟩
set_option maxRecDepth 100000 in
set_option maxHeartbeats 4000000 in
theorem wsX10_emptiesKept_9b (C : zC p s m args meth c cX10_emptiesKept RX10 3 D Ca B En) (hRm : zRm R 2 42 cells slots) (x0 : Nat) (x1 : Int32) (σ : zS) (u2 : Int32) (y : (zS × Int32) ⊕ zS) (hf : sX10_emptiesKept_9b x0 x1 σ u2 = some y) (hk : (∀ z : (zS × Int32), y = .inl z → zW p l e R s m args below meth c cells slots Q D Ca B 3 z.1 N 9 [(0, .ref x0), (1, .int x1), (2, .int z.2)] []) ∧ (∀ z : zS, y = .inr z → zW p l e R s m args below meth c cells slots Q D Ca B 3 z N 29 [(0, .ref x0), (1, .int x1)] [])) : zW p l e R s m args below meth c cells slots Q D Ca B 3 σ N 9 [(0, .ref x0), (1, .int x1), (2, .int u2)] [] := by
  unfold sX10_emptiesKept_9b at hf
  refine z_iload_n C dX10_emptiesKept_9 rfl 2 rfl ?_
  refine z_iconst C (zi 4) dX10_emptiesKept_10 (by decide) ?_
  refine z_icmp_ge C 29 dX10_emptiesKept_11 (by decide) (fun q3 => ?_) (fun q3 => ?_)
  · rw [if_pos q3] at hf
    cases hf
    refine z_sub [0, 1] rfl ?_
    exact hk.2 _ rfl
  · rw [if_neg q3] at hf
    refine z_aload_n C dX10_emptiesKept_14 rfl 0 rfl ?_
    refine z_iload_n C dX10_emptiesKept_15 rfl 2 rfl ?_
    refine z_iload_n C dX10_emptiesKept_16 rfl 1 rfl ?_
    obtain ⟨c1, hc1, hf⟩ := zbind hf
    refine z_callSi (As := [.int u2, .int x1]) (F0 := 2) (L0 := 42) C (mX10_keptIn l D Ca B En C.2.2.2.2.2.2.2.1 σ N u2 x1 _ hc1) hRm kw_1411 kw_14 kw_1409 kw_1410 hyX10_keptIn (Nat.le_of_ble_eq_true rfl) (Nat.le_of_ble_eq_true rfl) rfl rfl (Nat.le_of_ble_eq_true rfl) dX10_emptiesKept_17 ?_
    obtain ⟨c2, hc2, hf⟩ := zbind hf
    obtain ⟨kc2, hc2⟩ := zck_ok hc2
    refine z_callVv (As := [.int c1.2]) (F0 := 2) (L0 := 42) C (mX10_empties l D Ca B En C.2.2.2.2.2.2.2.1 c1.1 N x0 c1.2 _ hc2) hRm kc2 rfl kw_1418 kw_14 kw_1415 kw_1417 kp_42 hyX10_empties (Nat.le_of_ble_eq_true rfl) (Nat.le_of_ble_eq_true rfl) rfl rfl (Nat.le_of_ble_eq_true rfl) dX10_emptiesKept_20 ?_
    refine z_iinc (lv2 := [(2, .int (u2 + (zi 1))), (0, .ref x0), (1, .int x1)]) C (u2 + (zi 1)) dX10_emptiesKept_23 2 rfl rfl (by decide) rfl ?_
    refine z_goto C 9 dX10_emptiesKept_26 (by decide) ?_
    cases hf
    refine z_sub [1, 2, 0] rfl ?_
    exact hk.1 _ rfl

theorem wsX10_emptiesKept_9 (C : zC p s m args meth c cX10_emptiesKept RX10 3 D Ca B En) (hRm : zRm R 2 42 cells slots) (x0 : Nat) (x1 : Int32) (n : Nat) (z : (zS × Int32)) (x : zS) (hf : zloop (sX10_emptiesKept_9 x0 x1) n z = some x) (hk : (∀ o : zS, x = o → zW p l e R s m args below meth c cells slots Q D Ca B 3 o N 29 [(0, .ref x0), (1, .int x1)] [])) : zW p l e R s m args below meth c cells slots Q D Ca B 3 z.1 N 9 [(0, .ref x0), (1, .int x1), (2, .int z.2)] [] := by
  refine zloop_W (P := fun z : (zS × Int32) => zW p l e R s m args below meth c cells slots Q D Ca B 3 z.1 N 9 [(0, .ref x0), (1, .int x1), (2, .int z.2)] []) (K := fun x : zS => (∀ o : zS, x = o → zW p l e R s m args below meth c cells slots Q D Ca B 3 o N 29 [(0, .ref x0), (1, .int x1)] [])) ?_ n z x hf hk
  intro z y hy h1 h2
  refine wsX10_emptiesKept_9b C hRm x0 x1 z.1 z.2 y hy ⟨fun z2 e => h1 z2 e, fun o e => (h2 _ e) o rfl⟩
set_option maxRecDepth 100000 in
set_option maxHeartbeats 4000000 in
theorem wsX10_emptiesKept_31b (C : zC p s m args meth c cX10_emptiesKept RX10 3 D Ca B En) (hRm : zRm R 2 42 cells slots) (x0 : Nat) (x1 : Int32) (σ : zS) (u2 : Int32) (y : (zS × Int32) ⊕ zS) (hf : sX10_emptiesKept_31b x0 x1 σ u2 = some y) (hk : (∀ z : (zS × Int32), y = .inl z → zW p l e R s m args below meth c cells slots Q D Ca B 3 z.1 N 31 [(0, .ref x0), (1, .int x1), (2, .int z.2)] []) ∧ (∀ z : zS, y = .inr z → zW p l e R s m args below meth c cells slots Q D Ca B 3 z N 51 [(0, .ref x0), (1, .int x1)] [])) : zW p l e R s m args below meth c cells slots Q D Ca B 3 σ N 31 [(0, .ref x0), (1, .int x1), (2, .int u2)] [] := by
  unfold sX10_emptiesKept_31b at hf
  refine z_iload_n C dX10_emptiesKept_31 rfl 2 rfl ?_
  refine z_iconst C (zi 2) dX10_emptiesKept_32 (by decide) ?_
  refine z_icmp_ge C 51 dX10_emptiesKept_33 (by decide) (fun q7 => ?_) (fun q7 => ?_)
  · rw [if_pos q7] at hf
    cases hf
    refine z_sub [0, 1] rfl ?_
    exact hk.2 _ rfl
  · rw [if_neg q7] at hf
    refine z_aload_n C dX10_emptiesKept_36 rfl 0 rfl ?_
    refine z_iload_n C dX10_emptiesKept_37 rfl 1 rfl ?_
    refine z_iload_n C dX10_emptiesKept_38 rfl 2 rfl ?_
    obtain ⟨c5, hc5, hf⟩ := zbind hf
    refine z_callSi (As := [.int x1, .int u2]) (F0 := 2) (L0 := 42) C (mX10_keptOut l D Ca B En C.2.2.2.2.2.2.2.1 σ N x1 u2 _ hc5) hRm kw_1421 kw_14 kw_1419 kw_1420 hyX10_keptOut (Nat.le_of_ble_eq_true rfl) (Nat.le_of_ble_eq_true rfl) rfl rfl (Nat.le_of_ble_eq_true rfl) dX10_emptiesKept_39 ?_
    obtain ⟨c6, hc6, hf⟩ := zbind hf
    obtain ⟨kc6, hc6⟩ := zck_ok hc6
    refine z_callVv (As := [.int c5.2]) (F0 := 2) (L0 := 42) C (mX10_empties l D Ca B En C.2.2.2.2.2.2.2.1 c5.1 N x0 c5.2 _ hc6) hRm kc6 rfl kw_1418 kw_14 kw_1415 kw_1417 kp_42 hyX10_empties (Nat.le_of_ble_eq_true rfl) (Nat.le_of_ble_eq_true rfl) rfl rfl (Nat.le_of_ble_eq_true rfl) dX10_emptiesKept_42 ?_
    refine z_iinc (lv2 := [(2, .int (u2 + (zi 1))), (0, .ref x0), (1, .int x1)]) C (u2 + (zi 1)) dX10_emptiesKept_45 2 rfl rfl (by decide) rfl ?_
    refine z_goto C 31 dX10_emptiesKept_48 (by decide) ?_
    cases hf
    refine z_sub [1, 2, 0] rfl ?_
    exact hk.1 _ rfl

theorem wsX10_emptiesKept_31 (C : zC p s m args meth c cX10_emptiesKept RX10 3 D Ca B En) (hRm : zRm R 2 42 cells slots) (x0 : Nat) (x1 : Int32) (n : Nat) (z : (zS × Int32)) (x : zS) (hf : zloop (sX10_emptiesKept_31 x0 x1) n z = some x) (hk : (∀ o : zS, x = o → zW p l e R s m args below meth c cells slots Q D Ca B 3 o N 51 [(0, .ref x0), (1, .int x1)] [])) : zW p l e R s m args below meth c cells slots Q D Ca B 3 z.1 N 31 [(0, .ref x0), (1, .int x1), (2, .int z.2)] [] := by
  refine zloop_W (P := fun z : (zS × Int32) => zW p l e R s m args below meth c cells slots Q D Ca B 3 z.1 N 31 [(0, .ref x0), (1, .int x1), (2, .int z.2)] []) (K := fun x : zS => (∀ o : zS, x = o → zW p l e R s m args below meth c cells slots Q D Ca B 3 o N 51 [(0, .ref x0), (1, .int x1)] [])) ?_ n z x hf hk
  intro z y hy h1 h2
  refine wsX10_emptiesKept_31b C hRm x0 x1 z.1 z.2 y hy ⟨fun z2 e => h1 z2 e, fun o e => (h2 _ e) o rfl⟩
set_option maxRecDepth 100000 in
set_option maxHeartbeats 4000000 in
theorem wsX10_emptiesKept_2b (C : zC p s m args meth c cX10_emptiesKept RX10 3 D Ca B En) (hRm : zRm R 2 42 cells slots) (x0 : Nat) (σ : zS) (u1 : Int32) (y : (zS × Int32) ⊕ zS) (hf : sX10_emptiesKept_2b x0 σ u1 = some y) (hk : (∀ z : (zS × Int32), y = .inl z → zW p l e R s m args below meth c cells slots Q D Ca B 3 z.1 N 2 [(0, .ref x0), (1, .int z.2)] []) ∧ (∀ z : zS, y = .inr z → zW p l e R s m args below meth c cells slots Q D Ca B 3 z N 57 [] [])) : zW p l e R s m args below meth c cells slots Q D Ca B 3 σ N 2 [(0, .ref x0), (1, .int u1)] [] := by
  unfold sX10_emptiesKept_2b at hf
  refine z_iload_n C dX10_emptiesKept_2 rfl 1 rfl ?_
  refine z_iconst C (zi 4) dX10_emptiesKept_3 (by decide) ?_
  refine z_icmp_ge C 57 dX10_emptiesKept_4 (by decide) (fun q9 => ?_) (fun q9 => ?_)
  · rw [if_pos q9] at hf
    cases hf
    refine z_sub [] rfl ?_
    exact hk.2 _ rfl
  · rw [if_neg q9] at hf
    refine z_iconst C (zi 0) dX10_emptiesKept_7 (by decide) ?_
    refine z_istore_n (lv2 := [(2, .int ((zi 0))), (0, .ref x0), (1, .int u1)]) C dX10_emptiesKept_8 rfl (by decide) rfl ?_
    obtain ⟨o4, ho4, hf⟩ := zbind hf
    refine z_sub [1, 2, 0] rfl ?_
    refine wsX10_emptiesKept_9 C hRm _ _ zfuel (σ, (zi 0)) o4 ho4 ?_
    intro z9 e9
    subst e9
    refine z_iconst C (zi 0) dX10_emptiesKept_29 (by decide) ?_
    refine z_istore_n (lv2 := [(2, .int ((zi 0))), (0, .ref x0), (1, .int u1)]) C dX10_emptiesKept_30 rfl (by decide) rfl ?_
    obtain ⟨o8, ho8, hf⟩ := zbind hf
    refine z_sub [1, 2, 0] rfl ?_
    refine wsX10_emptiesKept_31 C hRm _ _ zfuel (o4, (zi 0)) o8 ho8 ?_
    intro z9 e9
    subst e9
    refine z_iinc (lv2 := [(1, .int (u1 + (zi 1))), (0, .ref x0)]) C (u1 + (zi 1)) dX10_emptiesKept_51 1 rfl rfl (by decide) rfl ?_
    refine z_goto C 2 dX10_emptiesKept_54 (by decide) ?_
    cases hf
    refine z_sub [1, 0] rfl ?_
    exact hk.1 _ rfl

theorem wsX10_emptiesKept_2 (C : zC p s m args meth c cX10_emptiesKept RX10 3 D Ca B En) (hRm : zRm R 2 42 cells slots) (x0 : Nat) (n : Nat) (z : (zS × Int32)) (x : zS) (hf : zloop (sX10_emptiesKept_2 x0) n z = some x) (hk : (∀ o : zS, x = o → zW p l e R s m args below meth c cells slots Q D Ca B 3 o N 57 [] [])) : zW p l e R s m args below meth c cells slots Q D Ca B 3 z.1 N 2 [(0, .ref x0), (1, .int z.2)] [] := by
  refine zloop_W (P := fun z : (zS × Int32) => zW p l e R s m args below meth c cells slots Q D Ca B 3 z.1 N 2 [(0, .ref x0), (1, .int z.2)] []) (K := fun x : zS => (∀ o : zS, x = o → zW p l e R s m args below meth c cells slots Q D Ca B 3 o N 57 [] [])) ?_ n z x hf hk
  intro z y hy h1 h2
  refine wsX10_emptiesKept_2b C hRm x0 z.1 z.2 y hy ⟨fun z2 e => h1 z2 e, fun o e => (h2 _ e) o rfl⟩
set_option maxRecDepth 100000 in
set_option maxHeartbeats 4000000 in
theorem wfX10_emptiesKept (C : zC p s m args meth c cX10_emptiesKept RX10 3 D Ca B En) (hRm : zRm R 2 42 cells slots) (σ : zS) (x0 : Nat) (τ : zS) (hf : fX10_emptiesKept σ x0 = some τ) (hq : ∀ (pc : Nat) (lv : List (Nat × Value)), decode cX10_emptiesKept pc = .ok (.return_, 1) → zW p l e R s m args below meth c cells slots Q D Ca B 3 τ N pc lv []) : zW p l e R s m args below meth c cells slots Q D Ca B 3 σ N 0 [(0, .ref x0)] [] := by
  unfold fX10_emptiesKept at hf
  refine z_iconst C (zi 0) dX10_emptiesKept_0 (by decide) ?_
  refine z_istore_n (lv2 := [(1, .int ((zi 0))), (0, .ref x0)]) C dX10_emptiesKept_1 rfl (by decide) rfl ?_
  obtain ⟨o10, ho10, hf⟩ := zbind hf
  refine z_sub [1, 0] rfl ?_
  refine wsX10_emptiesKept_2 C hRm _ zfuel (σ, (zi 0)) o10 ho10 ?_
  intro z9 e9
  subst e9
  cases hf
  exact hq _ _ dX10_emptiesKept_57

theorem mX10_emptiesKept (l : Launch) (D : va_G) (Ca : Nat → ClassId) (B : Nat) (En : State → Prop) (hE : zEk B En) (σ : zS) (N : Nat) (x0 : Nat) (X : zS) (hf : fX10_emptiesKept σ x0 = some X) : zMv l D Ca B En yX10_emptiesKept cX10_emptiesKept 3 (Option.none : Option Jvm.ClassFile.FieldType) 2 42 [.ref x0] σ N X () :=
  zMet_v (own := RX10) hE (by decide +kernel) rfl (Nat.le_of_ble_eq_true rfl) (fun p e s m args below meth c C hr hRm => wfX10_emptiesKept C hRm σ x0 X hf (fun pc lv hd => zfin_v (r := ()) C hr hd))
theorem dX10_begins_0 : decode cX10_begins 0 = .ok (.aload_n 0, 1) := by decide +kernel
theorem dX10_begins_1 : decode cX10_begins 1 = .ok (.getfield 21, 3) := by decide +kernel
theorem dX10_begins_4 : decode cX10_begins 4 = .ok (.iconst 5, 1) := by decide +kernel
theorem dX10_begins_5 : decode cX10_begins 5 = .ok (.aload_n 0, 1) := by decide +kernel
theorem dX10_begins_6 : decode cX10_begins 6 = .ok (.getfield 21, 3) := by decide +kernel
theorem dX10_begins_9 : decode cX10_begins 9 = .ok (.iconst 5, 1) := by decide +kernel
theorem dX10_begins_10 : decode cX10_begins 10 = .ok (.iaload, 1) := by decide +kernel
theorem dX10_begins_11 : decode cX10_begins 11 = .ok (.iconst 1, 1) := by decide +kernel
theorem dX10_begins_12 : decode cX10_begins 12 = .ok (.iadd, 1) := by decide +kernel
theorem dX10_begins_13 : decode cX10_begins 13 = .ok (.iastore, 1) := by decide +kernel
theorem dX10_begins_14 : decode cX10_begins 14 = .ok (.aload_n 0, 1) := by decide +kernel
theorem dX10_begins_15 : decode cX10_begins 15 = .ok (.getfield 21, 3) := by decide +kernel
theorem dX10_begins_18 : decode cX10_begins 18 = .ok (.bipush 67, 2) := by decide +kernel
theorem dX10_begins_20 : decode cX10_begins 20 = .ok (.iconst 1, 1) := by decide +kernel
theorem dX10_begins_21 : decode cX10_begins 21 = .ok (.iastore, 1) := by decide +kernel
theorem dX10_begins_22 : decode cX10_begins 22 = .ok (.aload_n 0, 1) := by decide +kernel
theorem dX10_begins_23 : decode cX10_begins 23 = .ok (.getfield 21, 3) := by decide +kernel
theorem dX10_begins_26 : decode cX10_begins 26 = .ok (.bipush 68, 2) := by decide +kernel
theorem dX10_begins_28 : decode cX10_begins 28 = .ok (.aload_n 0, 1) := by decide +kernel
theorem dX10_begins_29 : decode cX10_begins 29 = .ok (.getfield 21, 3) := by decide +kernel
theorem dX10_begins_32 : decode cX10_begins 32 = .ok (.iconst 0, 1) := by decide +kernel
theorem dX10_begins_33 : decode cX10_begins 33 = .ok (.iaload, 1) := by decide +kernel
theorem dX10_begins_34 : decode cX10_begins 34 = .ok (.iastore, 1) := by decide +kernel
theorem dX10_begins_35 : decode cX10_begins 35 = .ok (.aload_n 0, 1) := by decide +kernel
theorem dX10_begins_36 : decode cX10_begins 36 = .ok (.getfield 21, 3) := by decide +kernel
theorem dX10_begins_39 : decode cX10_begins 39 = .ok (.bipush 69, 2) := by decide +kernel
theorem dX10_begins_41 : decode cX10_begins 41 = .ok (.iload_n 1, 1) := by decide +kernel
theorem dX10_begins_42 : decode cX10_begins 42 = .ok (.iastore, 1) := by decide +kernel
theorem dX10_begins_43 : decode cX10_begins 43 = .ok (.bipush 70, 2) := by decide +kernel
theorem dX10_begins_45 : decode cX10_begins 45 = .ok (.istore_n 2, 1) := by decide +kernel
theorem dX10_begins_46 : decode cX10_begins 46 = .ok (.iload_n 2, 1) := by decide +kernel
theorem dX10_begins_47 : decode cX10_begins 47 = .ok (.bipush 118, 2) := by decide +kernel
theorem dX10_begins_49 : decode cX10_begins 49 = .ok (.if_icmp .ge 16, 3) := by decide +kernel
theorem dX10_begins_52 : decode cX10_begins 52 = .ok (.aload_n 0, 1) := by decide +kernel
theorem dX10_begins_53 : decode cX10_begins 53 = .ok (.getfield 21, 3) := by decide +kernel
theorem dX10_begins_56 : decode cX10_begins 56 = .ok (.iload_n 2, 1) := by decide +kernel
theorem dX10_begins_57 : decode cX10_begins 57 = .ok (.iconst 0, 1) := by decide +kernel
theorem dX10_begins_58 : decode cX10_begins 58 = .ok (.iastore, 1) := by decide +kernel
theorem dX10_begins_59 : decode cX10_begins 59 = .ok (.iinc 2 1, 3) := by decide +kernel
theorem dX10_begins_62 : decode cX10_begins 62 = .ok (.goto (-16), 3) := by decide +kernel
theorem dX10_begins_65 : decode cX10_begins 65 = .ok (.aload_n 0, 1) := by decide +kernel
theorem dX10_begins_66 : decode cX10_begins 66 = .ok (.invokevirtual 131, 3) := by decide +kernel
theorem dX10_begins_69 : decode cX10_begins 69 = .ok (.return_, 1) := by decide +kernel
theorem hyX10_begins : yX10_begins.cls ≠ "java/lang/invoke/MethodHandle" ∧ yX10_begins.cls ≠ "java/lang/invoke/VarHandle" ∧ (parseMethodDescriptor yX10_begins.desc).map (fun d => d.parameters.length) = some 1 := ⟨by decide +kernel, by decide +kernel, by decide +kernel⟩
set_option maxRecDepth 100000 in
set_option maxHeartbeats 4000000 in
theorem wsX10_begins_46b (C : zC p s m args meth c cX10_begins RX10 3 D Ca B En) (hRm : zRm R 3 64 cells slots) (x0 : Nat) (σ : zS) (u2 : Int32) (y : (zS × Int32) ⊕ zS) (hf : sX10_begins_46b x0 σ u2 = some y) (hk : (∀ z : (zS × Int32), y = .inl z → zW p l e R s m args below meth c cells slots Q D Ca B 3 z.1 N 46 [(0, .ref x0), (2, .int z.2)] []) ∧ (∀ z : zS, y = .inr z → zW p l e R s m args below meth c cells slots Q D Ca B 3 z N 65 [(0, .ref x0)] [])) : zW p l e R s m args below meth c cells slots Q D Ca B 3 σ N 46 [(0, .ref x0), (2, .int u2)] [] := by
  unfold sX10_begins_46b at hf
  refine z_iload_n C dX10_begins_46 rfl 1 rfl ?_
  refine z_bipush C (zi 118) dX10_begins_47 (by decide) ?_
  refine z_icmp_ge C 65 dX10_begins_49 (by decide) (fun q15 => ?_) (fun q15 => ?_)
  · rw [if_pos q15] at hf
    cases hf
    refine z_sub [0] rfl ?_
    exact hk.2 _ rfl
  · rw [if_neg q15] at hf
    refine z_aload_n C dX10_begins_52 rfl 0 rfl ?_
    obtain ⟨v13, hv13, hf⟩ := zbind hf
    refine gf_RX10_21 C hv13 dX10_begins_53 ?_
    refine z_iload_n C dX10_begins_56 rfl 1 rfl ?_
    refine z_iconst C (zi 0) dX10_begins_57 (by decide) ?_
    obtain ⟨σ14, hσ14, hf⟩ := zbind hf
    refine z_sI C hσ14 dX10_begins_58 ?_
    refine z_iinc (lv2 := [(2, .int (u2 + (zi 1))), (0, .ref x0)]) C (u2 + (zi 1)) dX10_begins_59 1 rfl rfl (by decide) rfl ?_
    refine z_goto C 46 dX10_begins_62 (by decide) ?_
    cases hf
    refine z_sub [1, 0] rfl ?_
    exact hk.1 _ rfl

theorem wsX10_begins_46 (C : zC p s m args meth c cX10_begins RX10 3 D Ca B En) (hRm : zRm R 3 64 cells slots) (x0 : Nat) (n : Nat) (z : (zS × Int32)) (x : zS) (hf : zloop (sX10_begins_46 x0) n z = some x) (hk : (∀ o : zS, x = o → zW p l e R s m args below meth c cells slots Q D Ca B 3 o N 65 [(0, .ref x0)] [])) : zW p l e R s m args below meth c cells slots Q D Ca B 3 z.1 N 46 [(0, .ref x0), (2, .int z.2)] [] := by
  refine zloop_W (P := fun z : (zS × Int32) => zW p l e R s m args below meth c cells slots Q D Ca B 3 z.1 N 46 [(0, .ref x0), (2, .int z.2)] []) (K := fun x : zS => (∀ o : zS, x = o → zW p l e R s m args below meth c cells slots Q D Ca B 3 o N 65 [(0, .ref x0)] [])) ?_ n z x hf hk
  intro z y hy h1 h2
  refine wsX10_begins_46b C hRm x0 z.1 z.2 y hy ⟨fun z2 e => h1 z2 e, fun o e => (h2 _ e) o rfl⟩
set_option maxRecDepth 100000 in
set_option maxHeartbeats 4000000 in
theorem wfX10_begins (C : zC p s m args meth c cX10_begins RX10 3 D Ca B En) (hRm : zRm R 3 64 cells slots) (σ : zS) (x0 : Nat) (x1 : Int32) (τ : zS) (hf : fX10_begins σ x0 x1 = some τ) (hq : ∀ (pc : Nat) (lv : List (Nat × Value)), decode cX10_begins pc = .ok (.return_, 1) → zW p l e R s m args below meth c cells slots Q D Ca B 3 τ N pc lv []) : zW p l e R s m args below meth c cells slots Q D Ca B 3 σ N 0 [(0, .ref x0), (1, .int x1)] [] := by
  unfold fX10_begins at hf
  refine z_aload_n C dX10_begins_0 rfl 0 rfl ?_
  obtain ⟨v1, hv1, hf⟩ := zbind hf
  refine gf_RX10_21 C hv1 dX10_begins_1 ?_
  refine z_iconst C (zi 5) dX10_begins_4 (by decide) ?_
  refine z_aload_n C dX10_begins_5 rfl 0 rfl ?_
  obtain ⟨v2, hv2, hf⟩ := zbind hf
  refine gf_RX10_21 C hv2 dX10_begins_6 ?_
  refine z_iconst C (zi 5) dX10_begins_9 (by decide) ?_
  obtain ⟨v3, hv3, hf⟩ := zbind hf
  refine z_aI C hv3 dX10_begins_10 ?_
  refine z_iconst C (zi 1) dX10_begins_11 (by decide) ?_
  refine z_iadd C dX10_begins_12 ?_
  obtain ⟨σ4, hσ4, hf⟩ := zbind hf
  refine z_sI C hσ4 dX10_begins_13 ?_
  refine z_aload_n C dX10_begins_14 rfl 0 rfl ?_
  obtain ⟨v5, hv5, hf⟩ := zbind hf
  refine gf_RX10_21 C hv5 dX10_begins_15 ?_
  refine z_bipush C (zi 67) dX10_begins_18 (by decide) ?_
  refine z_iconst C (zi 1) dX10_begins_20 (by decide) ?_
  obtain ⟨σ6, hσ6, hf⟩ := zbind hf
  refine z_sI C hσ6 dX10_begins_21 ?_
  refine z_aload_n C dX10_begins_22 rfl 0 rfl ?_
  obtain ⟨v7, hv7, hf⟩ := zbind hf
  refine gf_RX10_21 C hv7 dX10_begins_23 ?_
  refine z_bipush C (zi 68) dX10_begins_26 (by decide) ?_
  refine z_aload_n C dX10_begins_28 rfl 0 rfl ?_
  obtain ⟨v8, hv8, hf⟩ := zbind hf
  refine gf_RX10_21 C hv8 dX10_begins_29 ?_
  refine z_iconst C (zi 0) dX10_begins_32 (by decide) ?_
  obtain ⟨v9, hv9, hf⟩ := zbind hf
  refine z_aI C hv9 dX10_begins_33 ?_
  obtain ⟨σ10, hσ10, hf⟩ := zbind hf
  refine z_sI C hσ10 dX10_begins_34 ?_
  refine z_aload_n C dX10_begins_35 rfl 0 rfl ?_
  obtain ⟨v11, hv11, hf⟩ := zbind hf
  refine gf_RX10_21 C hv11 dX10_begins_36 ?_
  refine z_bipush C (zi 69) dX10_begins_39 (by decide) ?_
  refine z_iload_n C dX10_begins_41 rfl 1 rfl ?_
  obtain ⟨σ12, hσ12, hf⟩ := zbind hf
  refine z_sI C hσ12 dX10_begins_42 ?_
  refine z_bipush C (zi 70) dX10_begins_43 (by decide) ?_
  refine z_istore_n (lv2 := [(2, .int ((zi 70))), (0, .ref x0), (1, .int x1)]) C dX10_begins_45 rfl (by decide) rfl ?_
  obtain ⟨o16, ho16, hf⟩ := zbind hf
  refine z_sub [1, 0] rfl ?_
  refine wsX10_begins_46 C hRm _ zfuel (σ12, (zi 70)) o16 ho16 ?_
  intro z9 e9
  subst e9
  refine z_aload_n C dX10_begins_65 rfl 0 rfl ?_
  obtain ⟨c17, hc17, hf⟩ := zbind hf
  obtain ⟨kc17, hc17⟩ := zck_ok hc17
  refine z_callVv (As := []) (F0 := 3) (L0 := 64) C (mX10_emptiesKept l D Ca B En C.2.2.2.2.2.2.2.1 o16 N x0  _ hc17) hRm kc17 rfl kw_1408 kw_14 kw_1405 kw_1407 kp_41 hyX10_emptiesKept (Nat.le_of_ble_eq_true rfl) (Nat.le_of_ble_eq_true rfl) rfl rfl (Nat.le_of_ble_eq_true rfl) dX10_begins_66 ?_
  cases hf
  exact hq _ _ dX10_begins_69

theorem mX10_begins (l : Launch) (D : va_G) (Ca : Nat → ClassId) (B : Nat) (En : State → Prop) (hE : zEk B En) (σ : zS) (N : Nat) (x0 : Nat) (x1 : Int32) (X : zS) (hf : fX10_begins σ x0 x1 = some X) : zMv l D Ca B En yX10_begins cX10_begins 3 (Option.none : Option Jvm.ClassFile.FieldType) 3 64 [.ref x0, .int x1] σ N X () :=
  zMet_v (own := RX10) hE (by decide +kernel) rfl (Nat.le_of_ble_eq_true rfl) (fun p e s m args below meth c C hr hRm => wfX10_begins C hRm σ x0 x1 X hf (fun pc lv hd => zfin_v (r := ()) C hr hd))
theorem dX10_laysKept_0 : decode cX10_laysKept 0 = .ok (.iconst 0, 1) := by decide +kernel
theorem dX10_laysKept_1 : decode cX10_laysKept 1 = .ok (.istore_n 1, 1) := by decide +kernel
theorem dX10_laysKept_2 : decode cX10_laysKept 2 = .ok (.iload_n 1, 1) := by decide +kernel
theorem dX10_laysKept_3 : decode cX10_laysKept 3 = .ok (.iconst 4, 1) := by decide +kernel
theorem dX10_laysKept_4 : decode cX10_laysKept 4 = .ok (.if_icmp .ge 63, 3) := by decide +kernel
theorem dX10_laysKept_7 : decode cX10_laysKept 7 = .ok (.iconst 0, 1) := by decide +kernel
theorem dX10_laysKept_8 : decode cX10_laysKept 8 = .ok (.istore_n 2, 1) := by decide +kernel
theorem dX10_laysKept_9 : decode cX10_laysKept 9 = .ok (.iload_n 2, 1) := by decide +kernel
theorem dX10_laysKept_10 : decode cX10_laysKept 10 = .ok (.iconst 4, 1) := by decide +kernel
theorem dX10_laysKept_11 : decode cX10_laysKept 11 = .ok (.if_icmp .ge 23, 3) := by decide +kernel
theorem dX10_laysKept_14 : decode cX10_laysKept 14 = .ok (.aload_n 0, 1) := by decide +kernel
theorem dX10_laysKept_15 : decode cX10_laysKept 15 = .ok (.iload_n 2, 1) := by decide +kernel
theorem dX10_laysKept_16 : decode cX10_laysKept 16 = .ok (.iload_n 1, 1) := by decide +kernel
theorem dX10_laysKept_17 : decode cX10_laysKept 17 = .ok (.invokestatic 140, 3) := by decide +kernel
theorem dX10_laysKept_20 : decode cX10_laysKept 20 = .ok (.iload_n 2, 1) := by decide +kernel
theorem dX10_laysKept_21 : decode cX10_laysKept 21 = .ok (.iload_n 1, 1) := by decide +kernel
theorem dX10_laysKept_22 : decode cX10_laysKept 22 = .ok (.invokestatic 134, 3) := by decide +kernel
theorem dX10_laysKept_25 : decode cX10_laysKept 25 = .ok (.invokevirtual 143, 3) := by decide +kernel
theorem dX10_laysKept_28 : decode cX10_laysKept 28 = .ok (.iinc 2 1, 3) := by decide +kernel
theorem dX10_laysKept_31 : decode cX10_laysKept 31 = .ok (.goto (-22), 3) := by decide +kernel
theorem dX10_laysKept_34 : decode cX10_laysKept 34 = .ok (.iconst 0, 1) := by decide +kernel
theorem dX10_laysKept_35 : decode cX10_laysKept 35 = .ok (.istore_n 2, 1) := by decide +kernel
theorem dX10_laysKept_36 : decode cX10_laysKept 36 = .ok (.iload_n 2, 1) := by decide +kernel
theorem dX10_laysKept_37 : decode cX10_laysKept 37 = .ok (.iconst 2, 1) := by decide +kernel
theorem dX10_laysKept_38 : decode cX10_laysKept 38 = .ok (.if_icmp .ge 23, 3) := by decide +kernel
theorem dX10_laysKept_41 : decode cX10_laysKept 41 = .ok (.aload_n 0, 1) := by decide +kernel
theorem dX10_laysKept_42 : decode cX10_laysKept 42 = .ok (.iload_n 1, 1) := by decide +kernel
theorem dX10_laysKept_43 : decode cX10_laysKept 43 = .ok (.iload_n 2, 1) := by decide +kernel
theorem dX10_laysKept_44 : decode cX10_laysKept 44 = .ok (.invokestatic 146, 3) := by decide +kernel
theorem dX10_laysKept_47 : decode cX10_laysKept 47 = .ok (.iload_n 1, 1) := by decide +kernel
theorem dX10_laysKept_48 : decode cX10_laysKept 48 = .ok (.iload_n 2, 1) := by decide +kernel
theorem dX10_laysKept_49 : decode cX10_laysKept 49 = .ok (.invokestatic 137, 3) := by decide +kernel
theorem dX10_laysKept_52 : decode cX10_laysKept 52 = .ok (.invokevirtual 143, 3) := by decide +kernel
theorem dX10_laysKept_55 : decode cX10_laysKept 55 = .ok (.iinc 2 1, 3) := by decide +kernel
theorem dX10_laysKept_58 : decode cX10_laysKept 58 = .ok (.goto (-22), 3) := by decide +kernel
theorem dX10_laysKept_61 : decode cX10_laysKept 61 = .ok (.iinc 1 1, 3) := by decide +kernel
theorem dX10_laysKept_64 : decode cX10_laysKept 64 = .ok (.goto (-62), 3) := by decide +kernel
theorem dX10_laysKept_67 : decode cX10_laysKept 67 = .ok (.return_, 1) := by decide +kernel
theorem hyX10_laysKept : yX10_laysKept.cls ≠ "java/lang/invoke/MethodHandle" ∧ yX10_laysKept.cls ≠ "java/lang/invoke/VarHandle" ∧ (parseMethodDescriptor yX10_laysKept.desc).map (fun d => d.parameters.length) = some 0 := ⟨by decide +kernel, by decide +kernel, by decide +kernel⟩
set_option maxRecDepth 100000 in
set_option maxHeartbeats 4000000 in
theorem wsX10_laysKept_9b (C : zC p s m args meth c cX10_laysKept RX10 3 D Ca B En) (hRm : zRm R 3 67 cells slots) (x0 : Nat) (x1 : Int32) (σ : zS) (u2 : Int32) (y : (zS × Int32) ⊕ zS) (hf : sX10_laysKept_9b x0 x1 σ u2 = some y) (hk : (∀ z : (zS × Int32), y = .inl z → zW p l e R s m args below meth c cells slots Q D Ca B 3 z.1 N 9 [(0, .ref x0), (1, .int x1), (2, .int z.2)] []) ∧ (∀ z : zS, y = .inr z → zW p l e R s m args below meth c cells slots Q D Ca B 3 z N 34 [(0, .ref x0), (1, .int x1)] [])) : zW p l e R s m args below meth c cells slots Q D Ca B 3 σ N 9 [(0, .ref x0), (1, .int x1), (2, .int u2)] [] := by
  unfold sX10_laysKept_9b at hf
  refine z_iload_n C dX10_laysKept_9 rfl 2 rfl ?_
  refine z_iconst C (zi 4) dX10_laysKept_10 (by decide) ?_
  refine z_icmp_ge C 34 dX10_laysKept_11 (by decide) (fun q4 => ?_) (fun q4 => ?_)
  · rw [if_pos q4] at hf
    cases hf
    refine z_sub [0, 1] rfl ?_
    exact hk.2 _ rfl
  · rw [if_neg q4] at hf
    refine z_aload_n C dX10_laysKept_14 rfl 0 rfl ?_
    refine z_iload_n C dX10_laysKept_15 rfl 2 rfl ?_
    refine z_iload_n C dX10_laysKept_16 rfl 1 rfl ?_
    obtain ⟨c1, hc1, hf⟩ := zbind hf
    refine z_callSi (As := [.int u2, .int x1]) (F0 := 3) (L0 := 67) C (mX10_doneIn l D Ca B En C.2.2.2.2.2.2.2.1 σ N u2 x1 _ hc1) hRm kw_1571 kw_14 kw_1569 kw_1570 hyX10_doneIn (Nat.le_of_ble_eq_true rfl) (Nat.le_of_ble_eq_true rfl) rfl rfl (Nat.le_of_ble_eq_true rfl) dX10_laysKept_17 ?_
    refine z_iload_n C dX10_laysKept_20 rfl 2 rfl ?_
    refine z_iload_n C dX10_laysKept_21 rfl 1 rfl ?_
    obtain ⟨c2, hc2, hf⟩ := zbind hf
    refine z_callSi (As := [.int u2, .int x1]) (F0 := 3) (L0 := 67) C (mX10_keptIn l D Ca B En C.2.2.2.2.2.2.2.1 c1.1 N u2 x1 _ hc2) hRm kw_1411 kw_14 kw_1409 kw_1410 hyX10_keptIn (Nat.le_of_ble_eq_true rfl) (Nat.le_of_ble_eq_true rfl) rfl rfl (Nat.le_of_ble_eq_true rfl) dX10_laysKept_22 ?_
    obtain ⟨c3, hc3, hf⟩ := zbind hf
    obtain ⟨kc3, hc3⟩ := zck_ok hc3
    refine z_callVv (As := [.int c1.2, .int c2.2]) (F0 := 3) (L0 := 67) C (mX10_becomes l D Ca B En C.2.2.2.2.2.2.2.1 c2.1 N x0 c1.2 c2.2 _ hc3) hRm kc3 rfl kw_1544 kw_14 kw_1541 kw_1543 kp_69 hyX10_becomes (Nat.le_of_ble_eq_true rfl) (Nat.le_of_ble_eq_true rfl) rfl rfl (Nat.le_of_ble_eq_true rfl) dX10_laysKept_25 ?_
    refine z_iinc (lv2 := [(2, .int (u2 + (zi 1))), (0, .ref x0), (1, .int x1)]) C (u2 + (zi 1)) dX10_laysKept_28 2 rfl rfl (by decide) rfl ?_
    refine z_goto C 9 dX10_laysKept_31 (by decide) ?_
    cases hf
    refine z_sub [1, 2, 0] rfl ?_
    exact hk.1 _ rfl

theorem wsX10_laysKept_9 (C : zC p s m args meth c cX10_laysKept RX10 3 D Ca B En) (hRm : zRm R 3 67 cells slots) (x0 : Nat) (x1 : Int32) (n : Nat) (z : (zS × Int32)) (x : zS) (hf : zloop (sX10_laysKept_9 x0 x1) n z = some x) (hk : (∀ o : zS, x = o → zW p l e R s m args below meth c cells slots Q D Ca B 3 o N 34 [(0, .ref x0), (1, .int x1)] [])) : zW p l e R s m args below meth c cells slots Q D Ca B 3 z.1 N 9 [(0, .ref x0), (1, .int x1), (2, .int z.2)] [] := by
  refine zloop_W (P := fun z : (zS × Int32) => zW p l e R s m args below meth c cells slots Q D Ca B 3 z.1 N 9 [(0, .ref x0), (1, .int x1), (2, .int z.2)] []) (K := fun x : zS => (∀ o : zS, x = o → zW p l e R s m args below meth c cells slots Q D Ca B 3 o N 34 [(0, .ref x0), (1, .int x1)] [])) ?_ n z x hf hk
  intro z y hy h1 h2
  refine wsX10_laysKept_9b C hRm x0 x1 z.1 z.2 y hy ⟨fun z2 e => h1 z2 e, fun o e => (h2 _ e) o rfl⟩
set_option maxRecDepth 100000 in
set_option maxHeartbeats 4000000 in
theorem wsX10_laysKept_36b (C : zC p s m args meth c cX10_laysKept RX10 3 D Ca B En) (hRm : zRm R 3 67 cells slots) (x0 : Nat) (x1 : Int32) (σ : zS) (u2 : Int32) (y : (zS × Int32) ⊕ zS) (hf : sX10_laysKept_36b x0 x1 σ u2 = some y) (hk : (∀ z : (zS × Int32), y = .inl z → zW p l e R s m args below meth c cells slots Q D Ca B 3 z.1 N 36 [(0, .ref x0), (1, .int x1), (2, .int z.2)] []) ∧ (∀ z : zS, y = .inr z → zW p l e R s m args below meth c cells slots Q D Ca B 3 z N 61 [(0, .ref x0), (1, .int x1)] [])) : zW p l e R s m args below meth c cells slots Q D Ca B 3 σ N 36 [(0, .ref x0), (1, .int x1), (2, .int u2)] [] := by
  unfold sX10_laysKept_36b at hf
  refine z_iload_n C dX10_laysKept_36 rfl 2 rfl ?_
  refine z_iconst C (zi 2) dX10_laysKept_37 (by decide) ?_
  refine z_icmp_ge C 61 dX10_laysKept_38 (by decide) (fun q9 => ?_) (fun q9 => ?_)
  · rw [if_pos q9] at hf
    cases hf
    refine z_sub [0, 1] rfl ?_
    exact hk.2 _ rfl
  · rw [if_neg q9] at hf
    refine z_aload_n C dX10_laysKept_41 rfl 0 rfl ?_
    refine z_iload_n C dX10_laysKept_42 rfl 1 rfl ?_
    refine z_iload_n C dX10_laysKept_43 rfl 2 rfl ?_
    obtain ⟨c6, hc6, hf⟩ := zbind hf
    refine z_callSi (As := [.int x1, .int u2]) (F0 := 3) (L0 := 67) C (mX10_doneOut l D Ca B En C.2.2.2.2.2.2.2.1 σ N x1 u2 _ hc6) hRm kw_1574 kw_14 kw_1572 kw_1573 hyX10_doneOut (Nat.le_of_ble_eq_true rfl) (Nat.le_of_ble_eq_true rfl) rfl rfl (Nat.le_of_ble_eq_true rfl) dX10_laysKept_44 ?_
    refine z_iload_n C dX10_laysKept_47 rfl 1 rfl ?_
    refine z_iload_n C dX10_laysKept_48 rfl 2 rfl ?_
    obtain ⟨c7, hc7, hf⟩ := zbind hf
    refine z_callSi (As := [.int x1, .int u2]) (F0 := 3) (L0 := 67) C (mX10_keptOut l D Ca B En C.2.2.2.2.2.2.2.1 c6.1 N x1 u2 _ hc7) hRm kw_1421 kw_14 kw_1419 kw_1420 hyX10_keptOut (Nat.le_of_ble_eq_true rfl) (Nat.le_of_ble_eq_true rfl) rfl rfl (Nat.le_of_ble_eq_true rfl) dX10_laysKept_49 ?_
    obtain ⟨c8, hc8, hf⟩ := zbind hf
    obtain ⟨kc8, hc8⟩ := zck_ok hc8
    refine z_callVv (As := [.int c6.2, .int c7.2]) (F0 := 3) (L0 := 67) C (mX10_becomes l D Ca B En C.2.2.2.2.2.2.2.1 c7.1 N x0 c6.2 c7.2 _ hc8) hRm kc8 rfl kw_1544 kw_14 kw_1541 kw_1543 kp_69 hyX10_becomes (Nat.le_of_ble_eq_true rfl) (Nat.le_of_ble_eq_true rfl) rfl rfl (Nat.le_of_ble_eq_true rfl) dX10_laysKept_52 ?_
    refine z_iinc (lv2 := [(2, .int (u2 + (zi 1))), (0, .ref x0), (1, .int x1)]) C (u2 + (zi 1)) dX10_laysKept_55 2 rfl rfl (by decide) rfl ?_
    refine z_goto C 36 dX10_laysKept_58 (by decide) ?_
    cases hf
    refine z_sub [1, 2, 0] rfl ?_
    exact hk.1 _ rfl

theorem wsX10_laysKept_36 (C : zC p s m args meth c cX10_laysKept RX10 3 D Ca B En) (hRm : zRm R 3 67 cells slots) (x0 : Nat) (x1 : Int32) (n : Nat) (z : (zS × Int32)) (x : zS) (hf : zloop (sX10_laysKept_36 x0 x1) n z = some x) (hk : (∀ o : zS, x = o → zW p l e R s m args below meth c cells slots Q D Ca B 3 o N 61 [(0, .ref x0), (1, .int x1)] [])) : zW p l e R s m args below meth c cells slots Q D Ca B 3 z.1 N 36 [(0, .ref x0), (1, .int x1), (2, .int z.2)] [] := by
  refine zloop_W (P := fun z : (zS × Int32) => zW p l e R s m args below meth c cells slots Q D Ca B 3 z.1 N 36 [(0, .ref x0), (1, .int x1), (2, .int z.2)] []) (K := fun x : zS => (∀ o : zS, x = o → zW p l e R s m args below meth c cells slots Q D Ca B 3 o N 61 [(0, .ref x0), (1, .int x1)] [])) ?_ n z x hf hk
  intro z y hy h1 h2
  refine wsX10_laysKept_36b C hRm x0 x1 z.1 z.2 y hy ⟨fun z2 e => h1 z2 e, fun o e => (h2 _ e) o rfl⟩
set_option maxRecDepth 100000 in
set_option maxHeartbeats 4000000 in
theorem wsX10_laysKept_2b (C : zC p s m args meth c cX10_laysKept RX10 3 D Ca B En) (hRm : zRm R 3 67 cells slots) (x0 : Nat) (σ : zS) (u1 : Int32) (y : (zS × Int32) ⊕ zS) (hf : sX10_laysKept_2b x0 σ u1 = some y) (hk : (∀ z : (zS × Int32), y = .inl z → zW p l e R s m args below meth c cells slots Q D Ca B 3 z.1 N 2 [(0, .ref x0), (1, .int z.2)] []) ∧ (∀ z : zS, y = .inr z → zW p l e R s m args below meth c cells slots Q D Ca B 3 z N 67 [] [])) : zW p l e R s m args below meth c cells slots Q D Ca B 3 σ N 2 [(0, .ref x0), (1, .int u1)] [] := by
  unfold sX10_laysKept_2b at hf
  refine z_iload_n C dX10_laysKept_2 rfl 1 rfl ?_
  refine z_iconst C (zi 4) dX10_laysKept_3 (by decide) ?_
  refine z_icmp_ge C 67 dX10_laysKept_4 (by decide) (fun q11 => ?_) (fun q11 => ?_)
  · rw [if_pos q11] at hf
    cases hf
    refine z_sub [] rfl ?_
    exact hk.2 _ rfl
  · rw [if_neg q11] at hf
    refine z_iconst C (zi 0) dX10_laysKept_7 (by decide) ?_
    refine z_istore_n (lv2 := [(2, .int ((zi 0))), (0, .ref x0), (1, .int u1)]) C dX10_laysKept_8 rfl (by decide) rfl ?_
    obtain ⟨o5, ho5, hf⟩ := zbind hf
    refine z_sub [1, 2, 0] rfl ?_
    refine wsX10_laysKept_9 C hRm _ _ zfuel (σ, (zi 0)) o5 ho5 ?_
    intro z9 e9
    subst e9
    refine z_iconst C (zi 0) dX10_laysKept_34 (by decide) ?_
    refine z_istore_n (lv2 := [(2, .int ((zi 0))), (0, .ref x0), (1, .int u1)]) C dX10_laysKept_35 rfl (by decide) rfl ?_
    obtain ⟨o10, ho10, hf⟩ := zbind hf
    refine z_sub [1, 2, 0] rfl ?_
    refine wsX10_laysKept_36 C hRm _ _ zfuel (o5, (zi 0)) o10 ho10 ?_
    intro z9 e9
    subst e9
    refine z_iinc (lv2 := [(1, .int (u1 + (zi 1))), (0, .ref x0)]) C (u1 + (zi 1)) dX10_laysKept_61 1 rfl rfl (by decide) rfl ?_
    refine z_goto C 2 dX10_laysKept_64 (by decide) ?_
    cases hf
    refine z_sub [1, 0] rfl ?_
    exact hk.1 _ rfl

theorem wsX10_laysKept_2 (C : zC p s m args meth c cX10_laysKept RX10 3 D Ca B En) (hRm : zRm R 3 67 cells slots) (x0 : Nat) (n : Nat) (z : (zS × Int32)) (x : zS) (hf : zloop (sX10_laysKept_2 x0) n z = some x) (hk : (∀ o : zS, x = o → zW p l e R s m args below meth c cells slots Q D Ca B 3 o N 67 [] [])) : zW p l e R s m args below meth c cells slots Q D Ca B 3 z.1 N 2 [(0, .ref x0), (1, .int z.2)] [] := by
  refine zloop_W (P := fun z : (zS × Int32) => zW p l e R s m args below meth c cells slots Q D Ca B 3 z.1 N 2 [(0, .ref x0), (1, .int z.2)] []) (K := fun x : zS => (∀ o : zS, x = o → zW p l e R s m args below meth c cells slots Q D Ca B 3 o N 67 [] [])) ?_ n z x hf hk
  intro z y hy h1 h2
  refine wsX10_laysKept_2b C hRm x0 z.1 z.2 y hy ⟨fun z2 e => h1 z2 e, fun o e => (h2 _ e) o rfl⟩
set_option maxRecDepth 100000 in
set_option maxHeartbeats 4000000 in
theorem wfX10_laysKept (C : zC p s m args meth c cX10_laysKept RX10 3 D Ca B En) (hRm : zRm R 3 67 cells slots) (σ : zS) (x0 : Nat) (τ : zS) (hf : fX10_laysKept σ x0 = some τ) (hq : ∀ (pc : Nat) (lv : List (Nat × Value)), decode cX10_laysKept pc = .ok (.return_, 1) → zW p l e R s m args below meth c cells slots Q D Ca B 3 τ N pc lv []) : zW p l e R s m args below meth c cells slots Q D Ca B 3 σ N 0 [(0, .ref x0)] [] := by
  unfold fX10_laysKept at hf
  refine z_iconst C (zi 0) dX10_laysKept_0 (by decide) ?_
  refine z_istore_n (lv2 := [(1, .int ((zi 0))), (0, .ref x0)]) C dX10_laysKept_1 rfl (by decide) rfl ?_
  obtain ⟨o12, ho12, hf⟩ := zbind hf
  refine z_sub [1, 0] rfl ?_
  refine wsX10_laysKept_2 C hRm _ zfuel (σ, (zi 0)) o12 ho12 ?_
  intro z9 e9
  subst e9
  cases hf
  exact hq _ _ dX10_laysKept_67

theorem mX10_laysKept (l : Launch) (D : va_G) (Ca : Nat → ClassId) (B : Nat) (En : State → Prop) (hE : zEk B En) (σ : zS) (N : Nat) (x0 : Nat) (X : zS) (hf : fX10_laysKept σ x0 = some X) : zMv l D Ca B En yX10_laysKept cX10_laysKept 3 (Option.none : Option Jvm.ClassFile.FieldType) 3 67 [.ref x0] σ N X () :=
  zMet_v (own := RX10) hE (by decide +kernel) rfl (Nat.le_of_ble_eq_true rfl) (fun p e s m args below meth c C hr hRm => wfX10_laysKept C hRm σ x0 X hf (fun pc lv hd => zfin_v (r := ()) C hr hd))
theorem dX10_overtakes_0 : decode cX10_overtakes 0 = .ok (.aload_n 0, 1) := by decide +kernel
theorem dX10_overtakes_1 : decode cX10_overtakes 1 = .ok (.getfield 21, 3) := by decide +kernel
theorem dX10_overtakes_4 : decode cX10_overtakes 4 = .ok (.bipush 67, 2) := by decide +kernel
theorem dX10_overtakes_6 : decode cX10_overtakes 6 = .ok (.iaload, 1) := by decide +kernel
theorem dX10_overtakes_7 : decode cX10_overtakes 7 = .ok (.iconst 1, 1) := by decide +kernel
theorem dX10_overtakes_8 : decode cX10_overtakes 8 = .ok (.if_icmp .ne 18, 3) := by decide +kernel
theorem dX10_overtakes_11 : decode cX10_overtakes 11 = .ok (.aload_n 0, 1) := by decide +kernel
theorem dX10_overtakes_12 : decode cX10_overtakes 12 = .ok (.getfield 21, 3) := by decide +kernel
theorem dX10_overtakes_15 : decode cX10_overtakes 15 = .ok (.bipush 69, 2) := by decide +kernel
theorem dX10_overtakes_17 : decode cX10_overtakes 17 = .ok (.iaload, 1) := by decide +kernel
theorem dX10_overtakes_18 : decode cX10_overtakes 18 = .ok (.iconst 1, 1) := by decide +kernel
theorem dX10_overtakes_19 : decode cX10_overtakes 19 = .ok (.if_icmp .ne 7, 3) := by decide +kernel
theorem dX10_overtakes_22 : decode cX10_overtakes 22 = .ok (.iconst 1, 1) := by decide +kernel
theorem dX10_overtakes_23 : decode cX10_overtakes 23 = .ok (.goto 4, 3) := by decide +kernel
theorem dX10_overtakes_26 : decode cX10_overtakes 26 = .ok (.iconst 0, 1) := by decide +kernel
theorem dX10_overtakes_27 : decode cX10_overtakes 27 = .ok (.ireturn, 1) := by decide +kernel
theorem hyX10_overtakes : yX10_overtakes.cls ≠ "java/lang/invoke/MethodHandle" ∧ yX10_overtakes.cls ≠ "java/lang/invoke/VarHandle" ∧ (parseMethodDescriptor yX10_overtakes.desc).map (fun d => d.parameters.length) = some 0 := ⟨by decide +kernel, by decide +kernel, by decide +kernel⟩
set_option maxRecDepth 100000 in
set_option maxHeartbeats 4000000 in
theorem wfX10_overtakes (C : zC p s m args meth c cX10_overtakes RX10 1 D Ca B En) (hRm : zRm R 0 0 cells slots) (σ : zS) (x0 : Nat) (τ : zS) (r : Int32) (hf : fX10_overtakes σ x0 = some (τ, r)) (hq : ∀ (pc : Nat) (lv : List (Nat × Value)), (r = 0 ∨ r = 1) → decode cX10_overtakes pc = .ok (.ireturn, 1) → zW p l e R s m args below meth c cells slots Q D Ca B 1 τ N pc lv [.int r]) : zW p l e R s m args below meth c cells slots Q D Ca B 1 σ N 0 [(0, .ref x0)] [] := by
  unfold fX10_overtakes at hf
  refine z_aload_n C dX10_overtakes_0 rfl 0 rfl ?_
  obtain ⟨v1, hv1, hf⟩ := zbind hf
  refine gf_RX10_21 C hv1 dX10_overtakes_1 ?_
  refine z_bipush C (zi 67) dX10_overtakes_4 (by decide) ?_
  obtain ⟨v2, hv2, hf⟩ := zbind hf
  refine z_aI C hv2 dX10_overtakes_6 ?_
  refine z_iconst C (zi 1) dX10_overtakes_7 (by decide) ?_
  refine z_icmp_ne C 26 dX10_overtakes_8 (by decide) (fun q6 => ?_) (fun q6 => ?_)
  · rw [if_neg q6] at hf
    refine z_iconst C (zi 0) dX10_overtakes_26 (by decide) ?_
    obtain ⟨e9, b9⟩ := zrZ_ok hf
    cases e9
    exact hq _ _ b9 dX10_overtakes_27
  · rw [if_pos q6] at hf
    refine z_aload_n C dX10_overtakes_11 rfl 0 rfl ?_
    obtain ⟨v3, hv3, hf⟩ := zbind hf
    refine gf_RX10_21 C hv3 dX10_overtakes_12 ?_
    refine z_bipush C (zi 69) dX10_overtakes_15 (by decide) ?_
    obtain ⟨v4, hv4, hf⟩ := zbind hf
    refine z_aI C hv4 dX10_overtakes_17 ?_
    refine z_iconst C (zi 1) dX10_overtakes_18 (by decide) ?_
    refine z_icmp_ne C 26 dX10_overtakes_19 (by decide) (fun q5 => ?_) (fun q5 => ?_)
    · rw [if_neg q5] at hf
      refine z_iconst C (zi 0) dX10_overtakes_26 (by decide) ?_
      obtain ⟨e9, b9⟩ := zrZ_ok hf
      cases e9
      exact hq _ _ b9 dX10_overtakes_27
    · rw [if_pos q5] at hf
      refine z_iconst C (zi 1) dX10_overtakes_22 (by decide) ?_
      refine z_goto C 27 dX10_overtakes_23 (by decide) ?_
      obtain ⟨e9, b9⟩ := zrZ_ok hf
      cases e9
      exact hq _ _ b9 dX10_overtakes_27

theorem mX10_overtakes (l : Launch) (D : va_G) (Ca : Nat → ClassId) (B : Nat) (En : State → Prop) (hE : zEk B En) (σ : zS) (N : Nat) (x0 : Nat) (X : zS × Int32) (hf : fX10_overtakes σ x0 = some X) : zMi l D Ca B En yX10_overtakes cX10_overtakes 1 (Option.some Jvm.ClassFile.FieldType.boolean) 0 0 [.ref x0] σ N X.1 X.2 :=
  zMet_i (own := RX10) hE (by decide +kernel) rfl (Nat.le_of_ble_eq_true rfl) (fun p e s m args below meth c C hr hRm => wfX10_overtakes C hRm σ x0 X.1 X.2 hf (fun pc lv hb hd => zfin_z C hb hr hd))
theorem dX10_arrivedAt_0 : decode cX10_arrivedAt 0 = .ok (.iconst 0, 1) := by decide +kernel
theorem dX10_arrivedAt_1 : decode cX10_arrivedAt 1 = .ok (.istore_n 2, 1) := by decide +kernel
theorem dX10_arrivedAt_2 : decode cX10_arrivedAt 2 = .ok (.iconst 0, 1) := by decide +kernel
theorem dX10_arrivedAt_3 : decode cX10_arrivedAt 3 = .ok (.istore_n 3, 1) := by decide +kernel
theorem dX10_arrivedAt_4 : decode cX10_arrivedAt 4 = .ok (.iload_n 3, 1) := by decide +kernel
theorem dX10_arrivedAt_5 : decode cX10_arrivedAt 5 = .ok (.aload_n 0, 1) := by decide +kernel
theorem dX10_arrivedAt_6 : decode cX10_arrivedAt 6 = .ok (.getfield 75, 3) := by decide +kernel
theorem dX10_arrivedAt_9 : decode cX10_arrivedAt 9 = .ok (.if_icmp .ge 25, 3) := by decide +kernel
theorem dX10_arrivedAt_12 : decode cX10_arrivedAt 12 = .ok (.iload_n 2, 1) := by decide +kernel
theorem dX10_arrivedAt_13 : decode cX10_arrivedAt 13 = .ok (.aload_n 0, 1) := by decide +kernel
theorem dX10_arrivedAt_14 : decode cX10_arrivedAt 14 = .ok (.getfield 21, 3) := by decide +kernel
theorem dX10_arrivedAt_17 : decode cX10_arrivedAt 17 = .ok (.bipush 74, 2) := by decide +kernel
theorem dX10_arrivedAt_19 : decode cX10_arrivedAt 19 = .ok (.iload_n 3, 1) := by decide +kernel
theorem dX10_arrivedAt_20 : decode cX10_arrivedAt 20 = .ok (.iload_n 1, 1) := by decide +kernel
theorem dX10_arrivedAt_21 : decode cX10_arrivedAt 21 = .ok (.invokestatic 122, 3) := by decide +kernel
theorem dX10_arrivedAt_24 : decode cX10_arrivedAt 24 = .ok (.iadd, 1) := by decide +kernel
theorem dX10_arrivedAt_25 : decode cX10_arrivedAt 25 = .ok (.iaload, 1) := by decide +kernel
theorem dX10_arrivedAt_26 : decode cX10_arrivedAt 26 = .ok (.iadd, 1) := by decide +kernel
theorem dX10_arrivedAt_27 : decode cX10_arrivedAt 27 = .ok (.istore_n 2, 1) := by decide +kernel
theorem dX10_arrivedAt_28 : decode cX10_arrivedAt 28 = .ok (.iinc 3 1, 3) := by decide +kernel
theorem dX10_arrivedAt_31 : decode cX10_arrivedAt 31 = .ok (.goto (-27), 3) := by decide +kernel
theorem dX10_arrivedAt_34 : decode cX10_arrivedAt 34 = .ok (.iload_n 2, 1) := by decide +kernel
theorem dX10_arrivedAt_35 : decode cX10_arrivedAt 35 = .ok (.ireturn, 1) := by decide +kernel
theorem hyX10_arrivedAt : yX10_arrivedAt.cls ≠ "java/lang/invoke/MethodHandle" ∧ yX10_arrivedAt.cls ≠ "java/lang/invoke/VarHandle" ∧ (parseMethodDescriptor yX10_arrivedAt.desc).map (fun d => d.parameters.length) = some 1 := ⟨by decide +kernel, by decide +kernel, by decide +kernel⟩
set_option maxRecDepth 100000 in
set_option maxHeartbeats 4000000 in
theorem wsX10_arrivedAt_4b (C : zC p s m args meth c cX10_arrivedAt RX10 4 D Ca B En) (hRm : zRm R 1 21 cells slots) (x0 : Nat) (x1 : Int32) (σ : zS) (u2 : Int32) (u3 : Int32) (y : (zS × Int32 × Int32) ⊕ (zS × Int32)) (hf : sX10_arrivedAt_4b x0 x1 σ u2 u3 = some y) (hk : (∀ z : (zS × Int32 × Int32), y = .inl z → zW p l e R s m args below meth c cells slots Q D Ca B 4 z.1 N 4 [(0, .ref x0), (1, .int x1), (2, .int z.2.1), (3, .int z.2.2)] []) ∧ (∀ z : (zS × Int32), y = .inr z → zW p l e R s m args below meth c cells slots Q D Ca B 4 z.1 N 34 [(2, .int z.2)] [])) : zW p l e R s m args below meth c cells slots Q D Ca B 4 σ N 4 [(0, .ref x0), (1, .int x1), (2, .int u2), (3, .int u3)] [] := by
  unfold sX10_arrivedAt_4b at hf
  refine z_iload_n C dX10_arrivedAt_4 rfl 3 rfl ?_
  refine z_aload_n C dX10_arrivedAt_5 rfl 0 rfl ?_
  obtain ⟨v1, hv1, hf⟩ := zbind hf
  refine gf_RX10_75 C hv1 dX10_arrivedAt_6 ?_
  refine z_icmp_ge C 34 dX10_arrivedAt_9 (by decide) (fun q5 => ?_) (fun q5 => ?_)
  · rw [if_pos q5] at hf
    cases hf
    refine z_sub [2] rfl ?_
    exact hk.2 _ rfl
  · rw [if_neg q5] at hf
    refine z_iload_n C dX10_arrivedAt_12 rfl 2 rfl ?_
    refine z_aload_n C dX10_arrivedAt_13 rfl 0 rfl ?_
    obtain ⟨v2, hv2, hf⟩ := zbind hf
    refine gf_RX10_21 C hv2 dX10_arrivedAt_14 ?_
    refine z_bipush C (zi 74) dX10_arrivedAt_17 (by decide) ?_
    refine z_iload_n C dX10_arrivedAt_19 rfl 3 rfl ?_
    refine z_iload_n C dX10_arrivedAt_20 rfl 1 rfl ?_
    obtain ⟨c3, hc3, hf⟩ := zbind hf
    refine z_callSi (As := [.int u3, .int x1]) (F0 := 1) (L0 := 21) C (mX10_channelIn l D Ca B En C.2.2.2.2.2.2.2.1 σ N u3 x1 _ hc3) hRm kw_1414 kw_14 kw_1412 kw_1413 hyX10_channelIn (Nat.le_of_ble_eq_true rfl) (Nat.le_of_ble_eq_true rfl) rfl rfl (Nat.le_of_ble_eq_true rfl) dX10_arrivedAt_21 ?_
    refine z_iadd C dX10_arrivedAt_24 ?_
    obtain ⟨v4, hv4, hf⟩ := zbind hf
    refine z_aI C hv4 dX10_arrivedAt_25 ?_
    refine z_iadd C dX10_arrivedAt_26 ?_
    refine z_istore_n (lv2 := [(2, .int (u2 + v4)), (0, .ref x0), (1, .int x1), (3, .int u3)]) C dX10_arrivedAt_27 rfl (by decide) rfl ?_
    refine z_iinc (lv2 := [(3, .int (u3 + (zi 1))), (2, .int (u2 + v4)), (0, .ref x0), (1, .int x1)]) C (u3 + (zi 1)) dX10_arrivedAt_28 3 rfl rfl (by decide) rfl ?_
    refine z_goto C 4 dX10_arrivedAt_31 (by decide) ?_
    cases hf
    refine z_sub [2, 3, 1, 0] rfl ?_
    exact hk.1 _ rfl

theorem wsX10_arrivedAt_4 (C : zC p s m args meth c cX10_arrivedAt RX10 4 D Ca B En) (hRm : zRm R 1 21 cells slots) (x0 : Nat) (x1 : Int32) (n : Nat) (z : (zS × Int32 × Int32)) (x : (zS × Int32)) (hf : zloop (sX10_arrivedAt_4 x0 x1) n z = some x) (hk : (∀ o : (zS × Int32), x = o → zW p l e R s m args below meth c cells slots Q D Ca B 4 o.1 N 34 [(2, .int o.2)] [])) : zW p l e R s m args below meth c cells slots Q D Ca B 4 z.1 N 4 [(0, .ref x0), (1, .int x1), (2, .int z.2.1), (3, .int z.2.2)] [] := by
  refine zloop_W (P := fun z : (zS × Int32 × Int32) => zW p l e R s m args below meth c cells slots Q D Ca B 4 z.1 N 4 [(0, .ref x0), (1, .int x1), (2, .int z.2.1), (3, .int z.2.2)] []) (K := fun x : (zS × Int32) => (∀ o : (zS × Int32), x = o → zW p l e R s m args below meth c cells slots Q D Ca B 4 o.1 N 34 [(2, .int o.2)] [])) ?_ n z x hf hk
  intro z y hy h1 h2
  refine wsX10_arrivedAt_4b C hRm x0 x1 z.1 z.2.1 z.2.2 y hy ⟨fun z2 e => h1 z2 e, fun o e => (h2 _ e) o rfl⟩
set_option maxRecDepth 100000 in
set_option maxHeartbeats 4000000 in
theorem wfX10_arrivedAt (C : zC p s m args meth c cX10_arrivedAt RX10 4 D Ca B En) (hRm : zRm R 1 21 cells slots) (σ : zS) (x0 : Nat) (x1 : Int32) (τ : zS) (r : Int32) (hf : fX10_arrivedAt σ x0 x1 = some (τ, r)) (hq : ∀ (pc : Nat) (lv : List (Nat × Value)), decode cX10_arrivedAt pc = .ok (.ireturn, 1) → zW p l e R s m args below meth c cells slots Q D Ca B 4 τ N pc lv [.int r]) : zW p l e R s m args below meth c cells slots Q D Ca B 4 σ N 0 [(0, .ref x0), (1, .int x1)] [] := by
  unfold fX10_arrivedAt at hf
  refine z_iconst C (zi 0) dX10_arrivedAt_0 (by decide) ?_
  refine z_istore_n (lv2 := [(2, .int ((zi 0))), (0, .ref x0), (1, .int x1)]) C dX10_arrivedAt_1 rfl (by decide) rfl ?_
  refine z_iconst C (zi 0) dX10_arrivedAt_2 (by decide) ?_
  refine z_istore_n (lv2 := [(3, .int ((zi 0))), (2, .int ((zi 0))), (0, .ref x0), (1, .int x1)]) C dX10_arrivedAt_3 rfl (by decide) rfl ?_
  obtain ⟨o6, ho6, hf⟩ := zbind hf
  refine z_sub [2, 3, 1, 0] rfl ?_
  refine wsX10_arrivedAt_4 C hRm _ _ zfuel (σ, (zi 0), (zi 0)) o6 ho6 ?_
  intro z9 e9
  subst e9
  refine z_iload_n C dX10_arrivedAt_34 rfl 0 rfl ?_
  cases hf
  exact hq _ _ dX10_arrivedAt_35

theorem mX10_arrivedAt (l : Launch) (D : va_G) (Ca : Nat → ClassId) (B : Nat) (En : State → Prop) (hE : zEk B En) (σ : zS) (N : Nat) (x0 : Nat) (x1 : Int32) (X : zS × Int32) (hf : fX10_arrivedAt σ x0 x1 = some X) : zMi l D Ca B En yX10_arrivedAt cX10_arrivedAt 4 (Option.some Jvm.ClassFile.FieldType.int) 1 21 [.ref x0, .int x1] σ N X.1 X.2 :=
  zMet_i (own := RX10) hE (by decide +kernel) rfl (Nat.le_of_ble_eq_true rfl) (fun p e s m args below meth c C hr hRm => wfX10_arrivedAt C hRm σ x0 x1 X.1 X.2 hf (fun pc lv hd => zfin_i C hr hd))
theorem dX10_arrivedAtSink_0 : decode cX10_arrivedAtSink 0 = .ok (.iconst 0, 1) := by decide +kernel
theorem dX10_arrivedAtSink_1 : decode cX10_arrivedAtSink 1 = .ok (.istore_n 2, 1) := by decide +kernel
theorem dX10_arrivedAtSink_2 : decode cX10_arrivedAtSink 2 = .ok (.iconst 0, 1) := by decide +kernel
theorem dX10_arrivedAtSink_3 : decode cX10_arrivedAtSink 3 = .ok (.istore_n 3, 1) := by decide +kernel
theorem dX10_arrivedAtSink_4 : decode cX10_arrivedAtSink 4 = .ok (.iload_n 3, 1) := by decide +kernel
theorem dX10_arrivedAtSink_5 : decode cX10_arrivedAtSink 5 = .ok (.aload_n 0, 1) := by decide +kernel
theorem dX10_arrivedAtSink_6 : decode cX10_arrivedAtSink 6 = .ok (.getfield 21, 3) := by decide +kernel
theorem dX10_arrivedAtSink_9 : decode cX10_arrivedAtSink 9 = .ok (.iconst 1, 1) := by decide +kernel
theorem dX10_arrivedAtSink_10 : decode cX10_arrivedAtSink 10 = .ok (.iaload, 1) := by decide +kernel
theorem dX10_arrivedAtSink_11 : decode cX10_arrivedAtSink 11 = .ok (.if_icmp .ge 25, 3) := by decide +kernel
theorem dX10_arrivedAtSink_14 : decode cX10_arrivedAtSink 14 = .ok (.iload_n 2, 1) := by decide +kernel
theorem dX10_arrivedAtSink_15 : decode cX10_arrivedAtSink 15 = .ok (.aload_n 0, 1) := by decide +kernel
theorem dX10_arrivedAtSink_16 : decode cX10_arrivedAtSink 16 = .ok (.getfield 21, 3) := by decide +kernel
theorem dX10_arrivedAtSink_19 : decode cX10_arrivedAtSink 19 = .ok (.bipush 90, 2) := by decide +kernel
theorem dX10_arrivedAtSink_21 : decode cX10_arrivedAtSink 21 = .ok (.iload_n 3, 1) := by decide +kernel
theorem dX10_arrivedAtSink_22 : decode cX10_arrivedAtSink 22 = .ok (.iload_n 1, 1) := by decide +kernel
theorem dX10_arrivedAtSink_23 : decode cX10_arrivedAtSink 23 = .ok (.invokestatic 125, 3) := by decide +kernel
theorem dX10_arrivedAtSink_26 : decode cX10_arrivedAtSink 26 = .ok (.iadd, 1) := by decide +kernel
theorem dX10_arrivedAtSink_27 : decode cX10_arrivedAtSink 27 = .ok (.iaload, 1) := by decide +kernel
theorem dX10_arrivedAtSink_28 : decode cX10_arrivedAtSink 28 = .ok (.iadd, 1) := by decide +kernel
theorem dX10_arrivedAtSink_29 : decode cX10_arrivedAtSink 29 = .ok (.istore_n 2, 1) := by decide +kernel
theorem dX10_arrivedAtSink_30 : decode cX10_arrivedAtSink 30 = .ok (.iinc 3 1, 3) := by decide +kernel
theorem dX10_arrivedAtSink_33 : decode cX10_arrivedAtSink 33 = .ok (.goto (-29), 3) := by decide +kernel
theorem dX10_arrivedAtSink_36 : decode cX10_arrivedAtSink 36 = .ok (.iload_n 2, 1) := by decide +kernel
theorem dX10_arrivedAtSink_37 : decode cX10_arrivedAtSink 37 = .ok (.ireturn, 1) := by decide +kernel
theorem hyX10_arrivedAtSink : yX10_arrivedAtSink.cls ≠ "java/lang/invoke/MethodHandle" ∧ yX10_arrivedAtSink.cls ≠ "java/lang/invoke/VarHandle" ∧ (parseMethodDescriptor yX10_arrivedAtSink.desc).map (fun d => d.parameters.length) = some 1 := ⟨by decide +kernel, by decide +kernel, by decide +kernel⟩
set_option maxRecDepth 100000 in
set_option maxHeartbeats 4000000 in
theorem wsX10_arrivedAtSink_4b (C : zC p s m args meth c cX10_arrivedAtSink RX10 4 D Ca B En) (hRm : zRm R 1 21 cells slots) (x0 : Nat) (x1 : Int32) (σ : zS) (u2 : Int32) (u3 : Int32) (y : (zS × Int32 × Int32) ⊕ (zS × Int32)) (hf : sX10_arrivedAtSink_4b x0 x1 σ u2 u3 = some y) (hk : (∀ z : (zS × Int32 × Int32), y = .inl z → zW p l e R s m args below meth c cells slots Q D Ca B 4 z.1 N 4 [(0, .ref x0), (1, .int x1), (2, .int z.2.1), (3, .int z.2.2)] []) ∧ (∀ z : (zS × Int32), y = .inr z → zW p l e R s m args below meth c cells slots Q D Ca B 4 z.1 N 36 [(2, .int z.2)] [])) : zW p l e R s m args below meth c cells slots Q D Ca B 4 σ N 4 [(0, .ref x0), (1, .int x1), (2, .int u2), (3, .int u3)] [] := by
  unfold sX10_arrivedAtSink_4b at hf
  refine z_iload_n C dX10_arrivedAtSink_4 rfl 3 rfl ?_
  refine z_aload_n C dX10_arrivedAtSink_5 rfl 0 rfl ?_
  obtain ⟨v1, hv1, hf⟩ := zbind hf
  refine gf_RX10_21 C hv1 dX10_arrivedAtSink_6 ?_
  refine z_iconst C (zi 1) dX10_arrivedAtSink_9 (by decide) ?_
  obtain ⟨v2, hv2, hf⟩ := zbind hf
  refine z_aI C hv2 dX10_arrivedAtSink_10 ?_
  refine z_icmp_ge C 36 dX10_arrivedAtSink_11 (by decide) (fun q6 => ?_) (fun q6 => ?_)
  · rw [if_pos q6] at hf
    cases hf
    refine z_sub [2] rfl ?_
    exact hk.2 _ rfl
  · rw [if_neg q6] at hf
    refine z_iload_n C dX10_arrivedAtSink_14 rfl 2 rfl ?_
    refine z_aload_n C dX10_arrivedAtSink_15 rfl 0 rfl ?_
    obtain ⟨v3, hv3, hf⟩ := zbind hf
    refine gf_RX10_21 C hv3 dX10_arrivedAtSink_16 ?_
    refine z_bipush C (zi 90) dX10_arrivedAtSink_19 (by decide) ?_
    refine z_iload_n C dX10_arrivedAtSink_21 rfl 3 rfl ?_
    refine z_iload_n C dX10_arrivedAtSink_22 rfl 1 rfl ?_
    obtain ⟨c4, hc4, hf⟩ := zbind hf
    refine z_callSi (As := [.int u3, .int x1]) (F0 := 1) (L0 := 21) C (mX10_channelOut l D Ca B En C.2.2.2.2.2.2.2.1 σ N u3 x1 _ hc4) hRm kw_1424 kw_14 kw_1422 kw_1423 hyX10_channelOut (Nat.le_of_ble_eq_true rfl) (Nat.le_of_ble_eq_true rfl) rfl rfl (Nat.le_of_ble_eq_true rfl) dX10_arrivedAtSink_23 ?_
    refine z_iadd C dX10_arrivedAtSink_26 ?_
    obtain ⟨v5, hv5, hf⟩ := zbind hf
    refine z_aI C hv5 dX10_arrivedAtSink_27 ?_
    refine z_iadd C dX10_arrivedAtSink_28 ?_
    refine z_istore_n (lv2 := [(2, .int (u2 + v5)), (0, .ref x0), (1, .int x1), (3, .int u3)]) C dX10_arrivedAtSink_29 rfl (by decide) rfl ?_
    refine z_iinc (lv2 := [(3, .int (u3 + (zi 1))), (2, .int (u2 + v5)), (0, .ref x0), (1, .int x1)]) C (u3 + (zi 1)) dX10_arrivedAtSink_30 3 rfl rfl (by decide) rfl ?_
    refine z_goto C 4 dX10_arrivedAtSink_33 (by decide) ?_
    cases hf
    refine z_sub [2, 3, 1, 0] rfl ?_
    exact hk.1 _ rfl

theorem wsX10_arrivedAtSink_4 (C : zC p s m args meth c cX10_arrivedAtSink RX10 4 D Ca B En) (hRm : zRm R 1 21 cells slots) (x0 : Nat) (x1 : Int32) (n : Nat) (z : (zS × Int32 × Int32)) (x : (zS × Int32)) (hf : zloop (sX10_arrivedAtSink_4 x0 x1) n z = some x) (hk : (∀ o : (zS × Int32), x = o → zW p l e R s m args below meth c cells slots Q D Ca B 4 o.1 N 36 [(2, .int o.2)] [])) : zW p l e R s m args below meth c cells slots Q D Ca B 4 z.1 N 4 [(0, .ref x0), (1, .int x1), (2, .int z.2.1), (3, .int z.2.2)] [] := by
  refine zloop_W (P := fun z : (zS × Int32 × Int32) => zW p l e R s m args below meth c cells slots Q D Ca B 4 z.1 N 4 [(0, .ref x0), (1, .int x1), (2, .int z.2.1), (3, .int z.2.2)] []) (K := fun x : (zS × Int32) => (∀ o : (zS × Int32), x = o → zW p l e R s m args below meth c cells slots Q D Ca B 4 o.1 N 36 [(2, .int o.2)] [])) ?_ n z x hf hk
  intro z y hy h1 h2
  refine wsX10_arrivedAtSink_4b C hRm x0 x1 z.1 z.2.1 z.2.2 y hy ⟨fun z2 e => h1 z2 e, fun o e => (h2 _ e) o rfl⟩
set_option maxRecDepth 100000 in
set_option maxHeartbeats 4000000 in
theorem wfX10_arrivedAtSink (C : zC p s m args meth c cX10_arrivedAtSink RX10 4 D Ca B En) (hRm : zRm R 1 21 cells slots) (σ : zS) (x0 : Nat) (x1 : Int32) (τ : zS) (r : Int32) (hf : fX10_arrivedAtSink σ x0 x1 = some (τ, r)) (hq : ∀ (pc : Nat) (lv : List (Nat × Value)), decode cX10_arrivedAtSink pc = .ok (.ireturn, 1) → zW p l e R s m args below meth c cells slots Q D Ca B 4 τ N pc lv [.int r]) : zW p l e R s m args below meth c cells slots Q D Ca B 4 σ N 0 [(0, .ref x0), (1, .int x1)] [] := by
  unfold fX10_arrivedAtSink at hf
  refine z_iconst C (zi 0) dX10_arrivedAtSink_0 (by decide) ?_
  refine z_istore_n (lv2 := [(2, .int ((zi 0))), (0, .ref x0), (1, .int x1)]) C dX10_arrivedAtSink_1 rfl (by decide) rfl ?_
  refine z_iconst C (zi 0) dX10_arrivedAtSink_2 (by decide) ?_
  refine z_istore_n (lv2 := [(3, .int ((zi 0))), (2, .int ((zi 0))), (0, .ref x0), (1, .int x1)]) C dX10_arrivedAtSink_3 rfl (by decide) rfl ?_
  obtain ⟨o7, ho7, hf⟩ := zbind hf
  refine z_sub [2, 3, 1, 0] rfl ?_
  refine wsX10_arrivedAtSink_4 C hRm _ _ zfuel (σ, (zi 0), (zi 0)) o7 ho7 ?_
  intro z9 e9
  subst e9
  refine z_iload_n C dX10_arrivedAtSink_36 rfl 0 rfl ?_
  cases hf
  exact hq _ _ dX10_arrivedAtSink_37

theorem mX10_arrivedAtSink (l : Launch) (D : va_G) (Ca : Nat → ClassId) (B : Nat) (En : State → Prop) (hE : zEk B En) (σ : zS) (N : Nat) (x0 : Nat) (x1 : Int32) (X : zS × Int32) (hf : fX10_arrivedAtSink σ x0 x1 = some X) : zMi l D Ca B En yX10_arrivedAtSink cX10_arrivedAtSink 4 (Option.some Jvm.ClassFile.FieldType.int) 1 21 [.ref x0, .int x1] σ N X.1 X.2 :=
  zMet_i (own := RX10) hE (by decide +kernel) rfl (Nat.le_of_ble_eq_true rfl) (fun p e s m args below meth c C hr hRm => wfX10_arrivedAtSink C hRm σ x0 x1 X.1 X.2 hf (fun pc lv hd => zfin_i C hr hd))
theorem dX10_notes_0 : decode cX10_notes 0 = .ok (.iconst 0, 1) := by decide +kernel
theorem dX10_notes_1 : decode cX10_notes 1 = .ok (.istore_n 2, 1) := by decide +kernel
theorem dX10_notes_2 : decode cX10_notes 2 = .ok (.iload_n 2, 1) := by decide +kernel
theorem dX10_notes_3 : decode cX10_notes 3 = .ok (.bipush 16, 2) := by decide +kernel
theorem dX10_notes_5 : decode cX10_notes 5 = .ok (.if_icmp .ge 36, 3) := by decide +kernel
theorem dX10_notes_8 : decode cX10_notes 8 = .ok (.aload_n 0, 1) := by decide +kernel
theorem dX10_notes_9 : decode cX10_notes 9 = .ok (.iload_n 2, 1) := by decide +kernel
theorem dX10_notes_10 : decode cX10_notes 10 = .ok (.invokevirtual 149, 3) := by decide +kernel
theorem dX10_notes_13 : decode cX10_notes 13 = .ok (.iload_n 1, 1) := by decide +kernel
theorem dX10_notes_14 : decode cX10_notes 14 = .ok (.if_icmp .ne 21, 3) := by decide +kernel
theorem dX10_notes_17 : decode cX10_notes 17 = .ok (.aload_n 0, 1) := by decide +kernel
theorem dX10_notes_18 : decode cX10_notes 18 = .ok (.getfield 21, 3) := by decide +kernel
theorem dX10_notes_21 : decode cX10_notes 21 = .ok (.bipush 102, 2) := by decide +kernel
theorem dX10_notes_23 : decode cX10_notes 23 = .ok (.iload_n 2, 1) := by decide +kernel
theorem dX10_notes_24 : decode cX10_notes 24 = .ok (.iadd, 1) := by decide +kernel
theorem dX10_notes_25 : decode cX10_notes 25 = .ok (.aload_n 0, 1) := by decide +kernel
theorem dX10_notes_26 : decode cX10_notes 26 = .ok (.getfield 21, 3) := by decide +kernel
theorem dX10_notes_29 : decode cX10_notes 29 = .ok (.bipush 17, 2) := by decide +kernel
theorem dX10_notes_31 : decode cX10_notes 31 = .ok (.iload_n 2, 1) := by decide +kernel
theorem dX10_notes_32 : decode cX10_notes 32 = .ok (.iadd, 1) := by decide +kernel
theorem dX10_notes_33 : decode cX10_notes 33 = .ok (.iaload, 1) := by decide +kernel
theorem dX10_notes_34 : decode cX10_notes 34 = .ok (.iastore, 1) := by decide +kernel
theorem dX10_notes_35 : decode cX10_notes 35 = .ok (.iinc 2 1, 3) := by decide +kernel
theorem dX10_notes_38 : decode cX10_notes 38 = .ok (.goto (-36), 3) := by decide +kernel
theorem dX10_notes_41 : decode cX10_notes 41 = .ok (.iconst 0, 1) := by decide +kernel
theorem dX10_notes_42 : decode cX10_notes 42 = .ok (.istore_n 2, 1) := by decide +kernel
theorem dX10_notes_43 : decode cX10_notes 43 = .ok (.iload_n 2, 1) := by decide +kernel
theorem dX10_notes_44 : decode cX10_notes 44 = .ok (.aload_n 0, 1) := by decide +kernel
theorem dX10_notes_45 : decode cX10_notes 45 = .ok (.getfield 78, 3) := by decide +kernel
theorem dX10_notes_48 : decode cX10_notes 48 = .ok (.if_icmp .ge 19, 3) := by decide +kernel
theorem dX10_notes_51 : decode cX10_notes 51 = .ok (.aload_n 0, 1) := by decide +kernel
theorem dX10_notes_52 : decode cX10_notes 52 = .ok (.iload_n 1, 1) := by decide +kernel
theorem dX10_notes_53 : decode cX10_notes 53 = .ok (.iload_n 2, 1) := by decide +kernel
theorem dX10_notes_54 : decode cX10_notes 54 = .ok (.invokestatic 152, 3) := by decide +kernel
theorem dX10_notes_57 : decode cX10_notes 57 = .ok (.iconst (-1), 1) := by decide +kernel
theorem dX10_notes_58 : decode cX10_notes 58 = .ok (.invokevirtual 104, 3) := by decide +kernel
theorem dX10_notes_61 : decode cX10_notes 61 = .ok (.iinc 2 1, 3) := by decide +kernel
theorem dX10_notes_64 : decode cX10_notes 64 = .ok (.goto (-21), 3) := by decide +kernel
theorem dX10_notes_67 : decode cX10_notes 67 = .ok (.return_, 1) := by decide +kernel
theorem hyX10_notes : yX10_notes.cls ≠ "java/lang/invoke/MethodHandle" ∧ yX10_notes.cls ≠ "java/lang/invoke/VarHandle" ∧ (parseMethodDescriptor yX10_notes.desc).map (fun d => d.parameters.length) = some 1 := ⟨by decide +kernel, by decide +kernel, by decide +kernel⟩
set_option maxRecDepth 100000 in
set_option maxHeartbeats 4000000 in
theorem wjX10_notes_35_L2 (C : zC p s m args meth c cX10_notes RX10 3 D Ca B En) (hRm : zRm R 2 42 cells slots) (σ : zS) (x0 : Nat) (x1 : Int32) (x2 : Int32)  (y : (zS × Int32) ⊕ zS) (hf : jX10_notes_35_L2 σ x0 x1 x2  = some y) (hk : (∀ z : (zS × Int32), y = .inl z → zW p l e R s m args below meth c cells slots Q D Ca B 3 z.1 N 2 [(0, .ref x0), (1, .int x1), (2, .int z.2)] []) ∧ (∀ z : zS, y = .inr z → zW p l e R s m args below meth c cells slots Q D Ca B 3 z N 41 [(0, .ref x0), (1, .int x1)] [])) : zW p l e R s m args below meth c cells slots Q D Ca B 3 σ N 35 [(0, .ref x0), (1, .int x1), (2, .int x2)] [] := by
  unfold jX10_notes_35_L2 at hf
  refine z_iinc (lv2 := [(2, .int (x2 + (zi 1))), (0, .ref x0), (1, .int x1)]) C (x2 + (zi 1)) dX10_notes_35 2 rfl rfl (by decide) rfl ?_
  refine z_goto C 2 dX10_notes_38 (by decide) ?_
  cases hf
  refine z_sub [1, 2, 0] rfl ?_
  exact hk.1 _ rfl

set_option maxRecDepth 100000 in
set_option maxHeartbeats 4000000 in
theorem wsX10_notes_2b (C : zC p s m args meth c cX10_notes RX10 3 D Ca B En) (hRm : zRm R 2 42 cells slots) (x0 : Nat) (x1 : Int32) (σ : zS) (u2 : Int32) (y : (zS × Int32) ⊕ zS) (hf : sX10_notes_2b x0 x1 σ u2 = some y) (hk : (∀ z : (zS × Int32), y = .inl z → zW p l e R s m args below meth c cells slots Q D Ca B 3 z.1 N 2 [(0, .ref x0), (1, .int x1), (2, .int z.2)] []) ∧ (∀ z : zS, y = .inr z → zW p l e R s m args below meth c cells slots Q D Ca B 3 z N 41 [(0, .ref x0), (1, .int x1)] [])) : zW p l e R s m args below meth c cells slots Q D Ca B 3 σ N 2 [(0, .ref x0), (1, .int x1), (2, .int u2)] [] := by
  unfold sX10_notes_2b at hf
  refine z_iload_n C dX10_notes_2 rfl 2 rfl ?_
  refine z_bipush C (zi 16) dX10_notes_3 (by decide) ?_
  refine z_icmp_ge C 41 dX10_notes_5 (by decide) (fun q7 => ?_) (fun q7 => ?_)
  · rw [if_pos q7] at hf
    cases hf
    refine z_sub [0, 1] rfl ?_
    exact hk.2 _ rfl
  · rw [if_neg q7] at hf
    refine z_aload_n C dX10_notes_8 rfl 0 rfl ?_
    refine z_iload_n C dX10_notes_9 rfl 2 rfl ?_
    obtain ⟨c1, hc1, hf⟩ := zbind hf
    obtain ⟨kc1, hc1⟩ := zck_ok hc1
    refine z_callVi (As := [.int u2]) (F0 := 2) (L0 := 42) C (mX10_ownerOf l D Ca B En C.2.2.2.2.2.2.2.1 σ N x0 u2 _ hc1) hRm kc1 rfl kw_1458 kw_14 kw_1455 kw_1457 kp_49 hyX10_ownerOf (Nat.le_of_ble_eq_true rfl) (Nat.le_of_ble_eq_true rfl) rfl rfl (Nat.le_of_ble_eq_true rfl) dX10_notes_10 ?_
    refine z_iload_n C dX10_notes_13 rfl 1 rfl ?_
    refine z_icmp_ne C 35 dX10_notes_14 (by decide) (fun q6 => ?_) (fun q6 => ?_)
    · rw [if_neg q6] at hf
      refine z_sub [0, 1, 2] rfl ?_
      exact wjX10_notes_35_L2 C hRm _ _ _ _  _ hf hk
    · rw [if_pos q6] at hf
      refine z_aload_n C dX10_notes_17 rfl 0 rfl ?_
      obtain ⟨v2, hv2, hf⟩ := zbind hf
      refine gf_RX10_21 C hv2 dX10_notes_18 ?_
      refine z_bipush C (zi 102) dX10_notes_21 (by decide) ?_
      refine z_iload_n C dX10_notes_23 rfl 2 rfl ?_
      refine z_iadd C dX10_notes_24 ?_
      refine z_aload_n C dX10_notes_25 rfl 0 rfl ?_
      obtain ⟨v3, hv3, hf⟩ := zbind hf
      refine gf_RX10_21 C hv3 dX10_notes_26 ?_
      refine z_bipush C (zi 17) dX10_notes_29 (by decide) ?_
      refine z_iload_n C dX10_notes_31 rfl 2 rfl ?_
      refine z_iadd C dX10_notes_32 ?_
      obtain ⟨v4, hv4, hf⟩ := zbind hf
      refine z_aI C hv4 dX10_notes_33 ?_
      obtain ⟨σ5, hσ5, hf⟩ := zbind hf
      refine z_sI C hσ5 dX10_notes_34 ?_
      refine z_sub [0, 1, 2] rfl ?_
      exact wjX10_notes_35_L2 C hRm _ _ _ _  _ hf hk

theorem wsX10_notes_2 (C : zC p s m args meth c cX10_notes RX10 3 D Ca B En) (hRm : zRm R 2 42 cells slots) (x0 : Nat) (x1 : Int32) (n : Nat) (z : (zS × Int32)) (x : zS) (hf : zloop (sX10_notes_2 x0 x1) n z = some x) (hk : (∀ o : zS, x = o → zW p l e R s m args below meth c cells slots Q D Ca B 3 o N 41 [(0, .ref x0), (1, .int x1)] [])) : zW p l e R s m args below meth c cells slots Q D Ca B 3 z.1 N 2 [(0, .ref x0), (1, .int x1), (2, .int z.2)] [] := by
  refine zloop_W (P := fun z : (zS × Int32) => zW p l e R s m args below meth c cells slots Q D Ca B 3 z.1 N 2 [(0, .ref x0), (1, .int x1), (2, .int z.2)] []) (K := fun x : zS => (∀ o : zS, x = o → zW p l e R s m args below meth c cells slots Q D Ca B 3 o N 41 [(0, .ref x0), (1, .int x1)] [])) ?_ n z x hf hk
  intro z y hy h1 h2
  refine wsX10_notes_2b C hRm x0 x1 z.1 z.2 y hy ⟨fun z2 e => h1 z2 e, fun o e => (h2 _ e) o rfl⟩
set_option maxRecDepth 100000 in
set_option maxHeartbeats 4000000 in
theorem wsX10_notes_43b (C : zC p s m args meth c cX10_notes RX10 3 D Ca B En) (hRm : zRm R 2 42 cells slots) (x0 : Nat) (x1 : Int32) (σ : zS) (u2 : Int32) (y : (zS × Int32) ⊕ zS) (hf : sX10_notes_43b x0 x1 σ u2 = some y) (hk : (∀ z : (zS × Int32), y = .inl z → zW p l e R s m args below meth c cells slots Q D Ca B 3 z.1 N 43 [(0, .ref x0), (1, .int x1), (2, .int z.2)] []) ∧ (∀ z : zS, y = .inr z → zW p l e R s m args below meth c cells slots Q D Ca B 3 z N 67 [] [])) : zW p l e R s m args below meth c cells slots Q D Ca B 3 σ N 43 [(0, .ref x0), (1, .int x1), (2, .int u2)] [] := by
  unfold sX10_notes_43b at hf
  refine z_iload_n C dX10_notes_43 rfl 2 rfl ?_
  refine z_aload_n C dX10_notes_44 rfl 0 rfl ?_
  obtain ⟨v9, hv9, hf⟩ := zbind hf
  refine gf_RX10_78 C hv9 dX10_notes_45 ?_
  refine z_icmp_ge C 67 dX10_notes_48 (by decide) (fun q12 => ?_) (fun q12 => ?_)
  · rw [if_pos q12] at hf
    cases hf
    refine z_sub [] rfl ?_
    exact hk.2 _ rfl
  · rw [if_neg q12] at hf
    refine z_aload_n C dX10_notes_51 rfl 0 rfl ?_
    refine z_iload_n C dX10_notes_52 rfl 1 rfl ?_
    refine z_iload_n C dX10_notes_53 rfl 2 rfl ?_
    obtain ⟨c10, hc10, hf⟩ := zbind hf
    refine z_callSi (As := [.int x1, .int u2]) (F0 := 2) (L0 := 42) C (mX10_toSink l D Ca B En C.2.2.2.2.2.2.2.1 σ N x1 u2 _ hc10) hRm kw_1496 kw_14 kw_1494 kw_1495 hyX10_toSink (Nat.le_of_ble_eq_true rfl) (Nat.le_of_ble_eq_true rfl) rfl rfl (Nat.le_of_ble_eq_true rfl) dX10_notes_54 ?_
    refine z_iconst C (zi (-1)) dX10_notes_57 (by decide) ?_
    obtain ⟨c11, hc11, hf⟩ := zbind hf
    obtain ⟨kc11, hc11⟩ := zck_ok hc11
    refine z_callVv (As := [.int c10.2, .int ((zi (-1)))]) (F0 := 2) (L0 := 42) C (mX10_adds l D Ca B En C.2.2.2.2.2.2.2.1 c10.1 N x0 c10.2 ((zi (-1))) _ hc11) hRm kc11 rfl kw_1443 kw_14 kw_1440 kw_1442 kp_46 hyX10_adds (Nat.le_of_ble_eq_true rfl) (Nat.le_of_ble_eq_true rfl) rfl rfl (Nat.le_of_ble_eq_true rfl) dX10_notes_58 ?_
    refine z_iinc (lv2 := [(2, .int (u2 + (zi 1))), (0, .ref x0), (1, .int x1)]) C (u2 + (zi 1)) dX10_notes_61 2 rfl rfl (by decide) rfl ?_
    refine z_goto C 43 dX10_notes_64 (by decide) ?_
    cases hf
    refine z_sub [1, 2, 0] rfl ?_
    exact hk.1 _ rfl

theorem wsX10_notes_43 (C : zC p s m args meth c cX10_notes RX10 3 D Ca B En) (hRm : zRm R 2 42 cells slots) (x0 : Nat) (x1 : Int32) (n : Nat) (z : (zS × Int32)) (x : zS) (hf : zloop (sX10_notes_43 x0 x1) n z = some x) (hk : (∀ o : zS, x = o → zW p l e R s m args below meth c cells slots Q D Ca B 3 o N 67 [] [])) : zW p l e R s m args below meth c cells slots Q D Ca B 3 z.1 N 43 [(0, .ref x0), (1, .int x1), (2, .int z.2)] [] := by
  refine zloop_W (P := fun z : (zS × Int32) => zW p l e R s m args below meth c cells slots Q D Ca B 3 z.1 N 43 [(0, .ref x0), (1, .int x1), (2, .int z.2)] []) (K := fun x : zS => (∀ o : zS, x = o → zW p l e R s m args below meth c cells slots Q D Ca B 3 o N 67 [] [])) ?_ n z x hf hk
  intro z y hy h1 h2
  refine wsX10_notes_43b C hRm x0 x1 z.1 z.2 y hy ⟨fun z2 e => h1 z2 e, fun o e => (h2 _ e) o rfl⟩
set_option maxRecDepth 100000 in
set_option maxHeartbeats 4000000 in
theorem wfX10_notes (C : zC p s m args meth c cX10_notes RX10 3 D Ca B En) (hRm : zRm R 2 42 cells slots) (σ : zS) (x0 : Nat) (x1 : Int32) (τ : zS) (hf : fX10_notes σ x0 x1 = some τ) (hq : ∀ (pc : Nat) (lv : List (Nat × Value)), decode cX10_notes pc = .ok (.return_, 1) → zW p l e R s m args below meth c cells slots Q D Ca B 3 τ N pc lv []) : zW p l e R s m args below meth c cells slots Q D Ca B 3 σ N 0 [(0, .ref x0), (1, .int x1)] [] := by
  unfold fX10_notes at hf
  refine z_iconst C (zi 0) dX10_notes_0 (by decide) ?_
  refine z_istore_n (lv2 := [(2, .int ((zi 0))), (0, .ref x0), (1, .int x1)]) C dX10_notes_1 rfl (by decide) rfl ?_
  obtain ⟨o8, ho8, hf⟩ := zbind hf
  refine z_sub [1, 2, 0] rfl ?_
  refine wsX10_notes_2 C hRm _ _ zfuel (σ, (zi 0)) o8 ho8 ?_
  intro z9 e9
  subst e9
  refine z_iconst C (zi 0) dX10_notes_41 (by decide) ?_
  refine z_istore_n (lv2 := [(2, .int ((zi 0))), (0, .ref x0), (1, .int x1)]) C dX10_notes_42 rfl (by decide) rfl ?_
  obtain ⟨o13, ho13, hf⟩ := zbind hf
  refine z_sub [1, 2, 0] rfl ?_
  refine wsX10_notes_43 C hRm _ _ zfuel (o8, (zi 0)) o13 ho13 ?_
  intro z9 e9
  subst e9
  cases hf
  exact hq _ _ dX10_notes_67

theorem mX10_notes (l : Launch) (D : va_G) (Ca : Nat → ClassId) (B : Nat) (En : State → Prop) (hE : zEk B En) (σ : zS) (N : Nat) (x0 : Nat) (x1 : Int32) (X : zS) (hf : fX10_notes σ x0 x1 = some X) : zMv l D Ca B En yX10_notes cX10_notes 3 (Option.none : Option Jvm.ClassFile.FieldType) 2 42 [.ref x0, .int x1] σ N X () :=
  zMet_v (own := RX10) hE (by decide +kernel) rfl (Nat.le_of_ble_eq_true rfl) (fun p e s m args below meth c C hr hRm => wfX10_notes C hRm σ x0 x1 X hf (fun pc lv hd => zfin_v (r := ()) C hr hd))
theorem dX10_closes_0 : decode cX10_closes 0 = .ok (.aload_n 0, 1) := by decide +kernel
theorem dX10_closes_1 : decode cX10_closes 1 = .ok (.sipush 11394, 3) := by decide +kernel
theorem dX10_closes_4 : decode cX10_closes 4 = .ok (.iload_n 1, 1) := by decide +kernel
theorem dX10_closes_5 : decode cX10_closes 5 = .ok (.invokestatic 155, 3) := by decide +kernel
theorem dX10_closes_8 : decode cX10_closes 8 = .ok (.sipush 9792, 3) := by decide +kernel
theorem dX10_closes_11 : decode cX10_closes 11 = .ok (.iload_n 1, 1) := by decide +kernel
theorem dX10_closes_12 : decode cX10_closes 12 = .ok (.invokestatic 155, 3) := by decide +kernel
theorem dX10_closes_15 : decode cX10_closes 15 = .ok (.invokevirtual 143, 3) := by decide +kernel
theorem dX10_closes_18 : decode cX10_closes 18 = .ok (.aload_n 0, 1) := by decide +kernel
theorem dX10_closes_19 : decode cX10_closes 19 = .ok (.sipush 9792, 3) := by decide +kernel
theorem dX10_closes_22 : decode cX10_closes 22 = .ok (.iload_n 1, 1) := by decide +kernel
theorem dX10_closes_23 : decode cX10_closes 23 = .ok (.invokestatic 155, 3) := by decide +kernel
theorem dX10_closes_26 : decode cX10_closes 26 = .ok (.invokevirtual 108, 3) := by decide +kernel
theorem dX10_closes_29 : decode cX10_closes 29 = .ok (.return_, 1) := by decide +kernel
theorem hyX10_closes : yX10_closes.cls ≠ "java/lang/invoke/MethodHandle" ∧ yX10_closes.cls ≠ "java/lang/invoke/VarHandle" ∧ (parseMethodDescriptor yX10_closes.desc).map (fun d => d.parameters.length) = some 1 := ⟨by decide +kernel, by decide +kernel, by decide +kernel⟩
set_option maxRecDepth 100000 in
set_option maxHeartbeats 4000000 in
theorem wfX10_closes (C : zC p s m args meth c cX10_closes RX10 2 D Ca B En) (hRm : zRm R 3 67 cells slots) (σ : zS) (x0 : Nat) (x1 : Int32) (τ : zS) (hf : fX10_closes σ x0 x1 = some τ) (hq : ∀ (pc : Nat) (lv : List (Nat × Value)), decode cX10_closes pc = .ok (.return_, 1) → zW p l e R s m args below meth c cells slots Q D Ca B 2 τ N pc lv []) : zW p l e R s m args below meth c cells slots Q D Ca B 2 σ N 0 [(0, .ref x0), (1, .int x1)] [] := by
  unfold fX10_closes at hf
  refine z_aload_n C dX10_closes_0 rfl 0 rfl ?_
  refine z_sipush C (zi 11394) dX10_closes_1 (by decide) ?_
  refine z_iload_n C dX10_closes_4 rfl 1 rfl ?_
  obtain ⟨c1, hc1, hf⟩ := zbind hf
  refine z_callSi (As := [.int ((zi 11394)), .int x1]) (F0 := 3) (L0 := 67) C (mX10_results l D Ca B En C.2.2.2.2.2.2.2.1 σ N ((zi 11394)) x1 _ hc1) hRm kw_1431 kw_14 kw_1429 kw_1430 hyX10_results (Nat.le_of_ble_eq_true rfl) (Nat.le_of_ble_eq_true rfl) rfl rfl (Nat.le_of_ble_eq_true rfl) dX10_closes_5 ?_
  refine z_sipush C (zi 9792) dX10_closes_8 (by decide) ?_
  refine z_iload_n C dX10_closes_11 rfl 1 rfl ?_
  obtain ⟨c2, hc2, hf⟩ := zbind hf
  refine z_callSi (As := [.int ((zi 9792)), .int x1]) (F0 := 3) (L0 := 67) C (mX10_results l D Ca B En C.2.2.2.2.2.2.2.1 c1.1 N ((zi 9792)) x1 _ hc2) hRm kw_1431 kw_14 kw_1429 kw_1430 hyX10_results (Nat.le_of_ble_eq_true rfl) (Nat.le_of_ble_eq_true rfl) rfl rfl (Nat.le_of_ble_eq_true rfl) dX10_closes_12 ?_
  obtain ⟨c3, hc3, hf⟩ := zbind hf
  obtain ⟨kc3, hc3⟩ := zck_ok hc3
  refine z_callVv (As := [.int c1.2, .int c2.2]) (F0 := 3) (L0 := 67) C (mX10_becomes l D Ca B En C.2.2.2.2.2.2.2.1 c2.1 N x0 c1.2 c2.2 _ hc3) hRm kc3 rfl kw_1544 kw_14 kw_1541 kw_1543 kp_69 hyX10_becomes (Nat.le_of_ble_eq_true rfl) (Nat.le_of_ble_eq_true rfl) rfl rfl (Nat.le_of_ble_eq_true rfl) dX10_closes_15 ?_
  refine z_aload_n C dX10_closes_18 rfl 0 rfl ?_
  refine z_sipush C (zi 9792) dX10_closes_19 (by decide) ?_
  refine z_iload_n C dX10_closes_22 rfl 1 rfl ?_
  obtain ⟨c4, hc4, hf⟩ := zbind hf
  refine z_callSi (As := [.int ((zi 9792)), .int x1]) (F0 := 3) (L0 := 67) C (mX10_results l D Ca B En C.2.2.2.2.2.2.2.1 c3 N ((zi 9792)) x1 _ hc4) hRm kw_1431 kw_14 kw_1429 kw_1430 hyX10_results (Nat.le_of_ble_eq_true rfl) (Nat.le_of_ble_eq_true rfl) rfl rfl (Nat.le_of_ble_eq_true rfl) dX10_closes_23 ?_
  obtain ⟨c5, hc5, hf⟩ := zbind hf
  obtain ⟨kc5, hc5⟩ := zck_ok hc5
  refine z_callVv (As := [.int c4.2]) (F0 := 3) (L0 := 67) C (mX10_empties l D Ca B En C.2.2.2.2.2.2.2.1 c4.1 N x0 c4.2 _ hc5) hRm kc5 rfl kw_1418 kw_14 kw_1415 kw_1417 kp_42 hyX10_empties (Nat.le_of_ble_eq_true rfl) (Nat.le_of_ble_eq_true rfl) rfl rfl (Nat.le_of_ble_eq_true rfl) dX10_closes_26 ?_
  cases hf
  exact hq _ _ dX10_closes_29

theorem mX10_closes (l : Launch) (D : va_G) (Ca : Nat → ClassId) (B : Nat) (En : State → Prop) (hE : zEk B En) (σ : zS) (N : Nat) (x0 : Nat) (x1 : Int32) (X : zS) (hf : fX10_closes σ x0 x1 = some X) : zMv l D Ca B En yX10_closes cX10_closes 2 (Option.none : Option Jvm.ClassFile.FieldType) 3 67 [.ref x0, .int x1] σ N X () :=
  zMet_v (own := RX10) hE (by decide +kernel) rfl (Nat.le_of_ble_eq_true rfl) (fun p e s m args below meth c C hr hRm => wfX10_closes C hRm σ x0 x1 X hf (fun pc lv hd => zfin_v (r := ()) C hr hd))
theorem dX10_aligns_0 : decode cX10_aligns 0 = .ok (.aload_n 0, 1) := by decide +kernel
theorem dX10_aligns_1 : decode cX10_aligns 1 = .ok (.getfield 21, 3) := by decide +kernel
theorem dX10_aligns_4 : decode cX10_aligns 4 = .ok (.bipush 74, 2) := by decide +kernel
theorem dX10_aligns_6 : decode cX10_aligns 6 = .ok (.iload_n 1, 1) := by decide +kernel
theorem dX10_aligns_7 : decode cX10_aligns 7 = .ok (.iload_n 2, 1) := by decide +kernel
theorem dX10_aligns_8 : decode cX10_aligns 8 = .ok (.invokestatic 122, 3) := by decide +kernel
theorem dX10_aligns_11 : decode cX10_aligns 11 = .ok (.iadd, 1) := by decide +kernel
theorem dX10_aligns_12 : decode cX10_aligns 12 = .ok (.iconst 1, 1) := by decide +kernel
theorem dX10_aligns_13 : decode cX10_aligns 13 = .ok (.iastore, 1) := by decide +kernel
theorem dX10_aligns_14 : decode cX10_aligns 14 = .ok (.aload_n 0, 1) := by decide +kernel
theorem dX10_aligns_15 : decode cX10_aligns 15 = .ok (.getfield 21, 3) := by decide +kernel
theorem dX10_aligns_18 : decode cX10_aligns 18 = .ok (.bipush 43, 2) := by decide +kernel
theorem dX10_aligns_20 : decode cX10_aligns 20 = .ok (.iload_n 1, 1) := by decide +kernel
theorem dX10_aligns_21 : decode cX10_aligns 21 = .ok (.iload_n 2, 1) := by decide +kernel
theorem dX10_aligns_22 : decode cX10_aligns 22 = .ok (.invokestatic 122, 3) := by decide +kernel
theorem dX10_aligns_25 : decode cX10_aligns 25 = .ok (.iadd, 1) := by decide +kernel
theorem dX10_aligns_26 : decode cX10_aligns 26 = .ok (.iconst 1, 1) := by decide +kernel
theorem dX10_aligns_27 : decode cX10_aligns 27 = .ok (.iastore, 1) := by decide +kernel
theorem dX10_aligns_28 : decode cX10_aligns 28 = .ok (.aload_n 0, 1) := by decide +kernel
theorem dX10_aligns_29 : decode cX10_aligns 29 = .ok (.iload_n 2, 1) := by decide +kernel
theorem dX10_aligns_30 : decode cX10_aligns 30 = .ok (.invokevirtual 158, 3) := by decide +kernel
theorem dX10_aligns_33 : decode cX10_aligns 33 = .ok (.aload_n 0, 1) := by decide +kernel
theorem dX10_aligns_34 : decode cX10_aligns 34 = .ok (.getfield 75, 3) := by decide +kernel
theorem dX10_aligns_37 : decode cX10_aligns 37 = .ok (.if_icmp .ge 4, 3) := by decide +kernel
theorem dX10_aligns_40 : decode cX10_aligns 40 = .ok (.return_, 1) := by decide +kernel
theorem dX10_aligns_41 : decode cX10_aligns 41 = .ok (.aload_n 0, 1) := by decide +kernel
theorem dX10_aligns_42 : decode cX10_aligns 42 = .ok (.iload_n 2, 1) := by decide +kernel
theorem dX10_aligns_43 : decode cX10_aligns 43 = .ok (.invokevirtual 161, 3) := by decide +kernel
theorem dX10_aligns_46 : decode cX10_aligns 46 = .ok (.iconst 0, 1) := by decide +kernel
theorem dX10_aligns_47 : decode cX10_aligns 47 = .ok (.istore_n 3, 1) := by decide +kernel
theorem dX10_aligns_48 : decode cX10_aligns 48 = .ok (.iload_n 3, 1) := by decide +kernel
theorem dX10_aligns_49 : decode cX10_aligns 49 = .ok (.aload_n 0, 1) := by decide +kernel
theorem dX10_aligns_50 : decode cX10_aligns 50 = .ok (.getfield 75, 3) := by decide +kernel
theorem dX10_aligns_53 : decode cX10_aligns 53 = .ok (.if_icmp .ge 23, 3) := by decide +kernel
theorem dX10_aligns_56 : decode cX10_aligns 56 = .ok (.aload_n 0, 1) := by decide +kernel
theorem dX10_aligns_57 : decode cX10_aligns 57 = .ok (.getfield 21, 3) := by decide +kernel
theorem dX10_aligns_60 : decode cX10_aligns 60 = .ok (.bipush 43, 2) := by decide +kernel
theorem dX10_aligns_62 : decode cX10_aligns 62 = .ok (.iload_n 3, 1) := by decide +kernel
theorem dX10_aligns_63 : decode cX10_aligns 63 = .ok (.iload_n 2, 1) := by decide +kernel
theorem dX10_aligns_64 : decode cX10_aligns 64 = .ok (.invokestatic 122, 3) := by decide +kernel
theorem dX10_aligns_67 : decode cX10_aligns 67 = .ok (.iadd, 1) := by decide +kernel
theorem dX10_aligns_68 : decode cX10_aligns 68 = .ok (.iconst 0, 1) := by decide +kernel
theorem dX10_aligns_69 : decode cX10_aligns 69 = .ok (.iastore, 1) := by decide +kernel
theorem dX10_aligns_70 : decode cX10_aligns 70 = .ok (.iinc 3 1, 3) := by decide +kernel
theorem dX10_aligns_73 : decode cX10_aligns 73 = .ok (.goto (-25), 3) := by decide +kernel
theorem dX10_aligns_76 : decode cX10_aligns 76 = .ok (.return_, 1) := by decide +kernel
theorem hyX10_aligns : yX10_aligns.cls ≠ "java/lang/invoke/MethodHandle" ∧ yX10_aligns.cls ≠ "java/lang/invoke/VarHandle" ∧ (parseMethodDescriptor yX10_aligns.desc).map (fun d => d.parameters.length) = some 2 := ⟨by decide +kernel, by decide +kernel, by decide +kernel⟩
set_option maxRecDepth 100000 in
set_option maxHeartbeats 4000000 in
theorem wsX10_aligns_48b (C : zC p s m args meth c cX10_aligns RX10 4 D Ca B En) (hRm : zRm R 3 64 cells slots) (x0 : Nat) (x2 : Int32) (σ : zS) (u3 : Int32) (y : (zS × Int32) ⊕ zS) (hf : sX10_aligns_48b x0 x2 σ u3 = some y) (hk : (∀ z : (zS × Int32), y = .inl z → zW p l e R s m args below meth c cells slots Q D Ca B 4 z.1 N 48 [(0, .ref x0), (2, .int x2), (3, .int z.2)] []) ∧ (∀ z : zS, y = .inr z → zW p l e R s m args below meth c cells slots Q D Ca B 4 z N 76 [] [])) : zW p l e R s m args below meth c cells slots Q D Ca B 4 σ N 48 [(0, .ref x0), (2, .int x2), (3, .int u3)] [] := by
  unfold sX10_aligns_48b at hf
  refine z_iload_n C dX10_aligns_48 rfl 2 rfl ?_
  refine z_aload_n C dX10_aligns_49 rfl 0 rfl ?_
  obtain ⟨v10, hv10, hf⟩ := zbind hf
  refine gf_RX10_75 C hv10 dX10_aligns_50 ?_
  refine z_icmp_ge C 76 dX10_aligns_53 (by decide) (fun q14 => ?_) (fun q14 => ?_)
  · rw [if_pos q14] at hf
    cases hf
    refine z_sub [] rfl ?_
    exact hk.2 _ rfl
  · rw [if_neg q14] at hf
    refine z_aload_n C dX10_aligns_56 rfl 0 rfl ?_
    obtain ⟨v11, hv11, hf⟩ := zbind hf
    refine gf_RX10_21 C hv11 dX10_aligns_57 ?_
    refine z_bipush C (zi 43) dX10_aligns_60 (by decide) ?_
    refine z_iload_n C dX10_aligns_62 rfl 2 rfl ?_
    refine z_iload_n C dX10_aligns_63 rfl 1 rfl ?_
    obtain ⟨c12, hc12, hf⟩ := zbind hf
    refine z_callSi (As := [.int u3, .int x2]) (F0 := 3) (L0 := 64) C (mX10_channelIn l D Ca B En C.2.2.2.2.2.2.2.1 σ N u3 x2 _ hc12) hRm kw_1414 kw_14 kw_1412 kw_1413 hyX10_channelIn (Nat.le_of_ble_eq_true rfl) (Nat.le_of_ble_eq_true rfl) rfl rfl (Nat.le_of_ble_eq_true rfl) dX10_aligns_64 ?_
    refine z_iadd C dX10_aligns_67 ?_
    refine z_iconst C (zi 0) dX10_aligns_68 (by decide) ?_
    obtain ⟨σ13, hσ13, hf⟩ := zbind hf
    refine z_sI C hσ13 dX10_aligns_69 ?_
    refine z_iinc (lv2 := [(3, .int (u3 + (zi 1))), (0, .ref x0), (2, .int x2)]) C (u3 + (zi 1)) dX10_aligns_70 2 rfl rfl (by decide) rfl ?_
    refine z_goto C 48 dX10_aligns_73 (by decide) ?_
    cases hf
    refine z_sub [1, 2, 0] rfl ?_
    exact hk.1 _ rfl

theorem wsX10_aligns_48 (C : zC p s m args meth c cX10_aligns RX10 4 D Ca B En) (hRm : zRm R 3 64 cells slots) (x0 : Nat) (x2 : Int32) (n : Nat) (z : (zS × Int32)) (x : zS) (hf : zloop (sX10_aligns_48 x0 x2) n z = some x) (hk : (∀ o : zS, x = o → zW p l e R s m args below meth c cells slots Q D Ca B 4 o N 76 [] [])) : zW p l e R s m args below meth c cells slots Q D Ca B 4 z.1 N 48 [(0, .ref x0), (2, .int x2), (3, .int z.2)] [] := by
  refine zloop_W (P := fun z : (zS × Int32) => zW p l e R s m args below meth c cells slots Q D Ca B 4 z.1 N 48 [(0, .ref x0), (2, .int x2), (3, .int z.2)] []) (K := fun x : zS => (∀ o : zS, x = o → zW p l e R s m args below meth c cells slots Q D Ca B 4 o N 76 [] [])) ?_ n z x hf hk
  intro z y hy h1 h2
  refine wsX10_aligns_48b C hRm x0 x2 z.1 z.2 y hy ⟨fun z2 e => h1 z2 e, fun o e => (h2 _ e) o rfl⟩
set_option maxRecDepth 100000 in
set_option maxHeartbeats 4000000 in
theorem wfX10_aligns (C : zC p s m args meth c cX10_aligns RX10 4 D Ca B En) (hRm : zRm R 3 64 cells slots) (σ : zS) (x0 : Nat) (x1 : Int32) (x2 : Int32) (τ : zS) (hf : fX10_aligns σ x0 x1 x2 = some τ) (hq : ∀ (pc : Nat) (lv : List (Nat × Value)), decode cX10_aligns pc = .ok (.return_, 1) → zW p l e R s m args below meth c cells slots Q D Ca B 4 τ N pc lv []) : zW p l e R s m args below meth c cells slots Q D Ca B 4 σ N 0 [(0, .ref x0), (1, .int x1), (2, .int x2)] [] := by
  unfold fX10_aligns at hf
  refine z_aload_n C dX10_aligns_0 rfl 0 rfl ?_
  obtain ⟨v1, hv1, hf⟩ := zbind hf
  refine gf_RX10_21 C hv1 dX10_aligns_1 ?_
  refine z_bipush C (zi 74) dX10_aligns_4 (by decide) ?_
  refine z_iload_n C dX10_aligns_6 rfl 1 rfl ?_
  refine z_iload_n C dX10_aligns_7 rfl 2 rfl ?_
  obtain ⟨c2, hc2, hf⟩ := zbind hf
  refine z_callSi (As := [.int x1, .int x2]) (F0 := 3) (L0 := 64) C (mX10_channelIn l D Ca B En C.2.2.2.2.2.2.2.1 σ N x1 x2 _ hc2) hRm kw_1414 kw_14 kw_1412 kw_1413 hyX10_channelIn (Nat.le_of_ble_eq_true rfl) (Nat.le_of_ble_eq_true rfl) rfl rfl (Nat.le_of_ble_eq_true rfl) dX10_aligns_8 ?_
  refine z_iadd C dX10_aligns_11 ?_
  refine z_iconst C (zi 1) dX10_aligns_12 (by decide) ?_
  obtain ⟨σ3, hσ3, hf⟩ := zbind hf
  refine z_sI C hσ3 dX10_aligns_13 ?_
  refine z_aload_n C dX10_aligns_14 rfl 0 rfl ?_
  obtain ⟨v4, hv4, hf⟩ := zbind hf
  refine gf_RX10_21 C hv4 dX10_aligns_15 ?_
  refine z_bipush C (zi 43) dX10_aligns_18 (by decide) ?_
  refine z_iload_n C dX10_aligns_20 rfl 1 rfl ?_
  refine z_iload_n C dX10_aligns_21 rfl 2 rfl ?_
  obtain ⟨c5, hc5, hf⟩ := zbind hf
  refine z_callSi (As := [.int x1, .int x2]) (F0 := 3) (L0 := 64) C (mX10_channelIn l D Ca B En C.2.2.2.2.2.2.2.1 σ3 N x1 x2 _ hc5) hRm kw_1414 kw_14 kw_1412 kw_1413 hyX10_channelIn (Nat.le_of_ble_eq_true rfl) (Nat.le_of_ble_eq_true rfl) rfl rfl (Nat.le_of_ble_eq_true rfl) dX10_aligns_22 ?_
  refine z_iadd C dX10_aligns_25 ?_
  refine z_iconst C (zi 1) dX10_aligns_26 (by decide) ?_
  obtain ⟨σ6, hσ6, hf⟩ := zbind hf
  refine z_sI C hσ6 dX10_aligns_27 ?_
  refine z_aload_n C dX10_aligns_28 rfl 0 rfl ?_
  refine z_iload_n C dX10_aligns_29 rfl 2 rfl ?_
  obtain ⟨c7, hc7, hf⟩ := zbind hf
  obtain ⟨kc7, hc7⟩ := zck_ok hc7
  refine z_callVi (As := [.int x2]) (F0 := 3) (L0 := 64) C (mX10_arrivedAt l D Ca B En C.2.2.2.2.2.2.2.1 σ6 N x0 x2 _ hc7) hRm kc7 rfl kw_1489 kw_14 kw_1486 kw_1488 kp_56 hyX10_arrivedAt (Nat.le_of_ble_eq_true rfl) (Nat.le_of_ble_eq_true rfl) rfl rfl (Nat.le_of_ble_eq_true rfl) dX10_aligns_30 ?_
  refine z_aload_n C dX10_aligns_33 rfl 0 rfl ?_
  obtain ⟨v8, hv8, hf⟩ := zbind hf
  refine gf_RX10_75 C hv8 dX10_aligns_34 ?_
  refine z_icmp_ge C 41 dX10_aligns_37 (by decide) (fun q16 => ?_) (fun q16 => ?_)
  · rw [if_pos q16] at hf
    refine z_aload_n C dX10_aligns_41 rfl 0 rfl ?_
    refine z_iload_n C dX10_aligns_42 rfl 2 rfl ?_
    obtain ⟨c9, hc9, hf⟩ := zbind hf
    obtain ⟨kc9, hc9⟩ := zck_ok hc9
    refine z_callVv (As := [.int x2]) (F0 := 3) (L0 := 64) C (mX10_notes l D Ca B En C.2.2.2.2.2.2.2.1 c7.1 N x0 x2 _ hc9) hRm kc9 rfl kw_1493 kw_14 kw_1490 kw_1492 kp_57 hyX10_notes (Nat.le_of_ble_eq_true rfl) (Nat.le_of_ble_eq_true rfl) rfl rfl (Nat.le_of_ble_eq_true rfl) dX10_aligns_43 ?_
    refine z_iconst C (zi 0) dX10_aligns_46 (by decide) ?_
    refine z_istore_n (lv2 := [(3, .int ((zi 0))), (0, .ref x0), (1, .int x1), (2, .int x2)]) C dX10_aligns_47 rfl (by decide) rfl ?_
    obtain ⟨o15, ho15, hf⟩ := zbind hf
    refine z_sub [1, 3, 0] rfl ?_
    refine wsX10_aligns_48 C hRm _ _ zfuel (c9, (zi 0)) o15 ho15 ?_
    intro z9 e9
    subst e9
    cases hf
    exact hq _ _ dX10_aligns_76
  · rw [if_neg q16] at hf
    cases hf
    exact hq _ _ dX10_aligns_40

theorem mX10_aligns (l : Launch) (D : va_G) (Ca : Nat → ClassId) (B : Nat) (En : State → Prop) (hE : zEk B En) (σ : zS) (N : Nat) (x0 : Nat) (x1 : Int32) (x2 : Int32) (X : zS) (hf : fX10_aligns σ x0 x1 x2 = some X) : zMv l D Ca B En yX10_aligns cX10_aligns 4 (Option.none : Option Jvm.ClassFile.FieldType) 3 64 [.ref x0, .int x1, .int x2] σ N X () :=
  zMet_v (own := RX10) hE (by decide +kernel) rfl (Nat.le_of_ble_eq_true rfl) (fun p e s m args below meth c C hr hRm => wfX10_aligns C hRm σ x0 x1 x2 X hf (fun pc lv hd => zfin_v (r := ()) C hr hd))
end ZM
