/-! Methods: X10_alignsAtSink, X10_keepsAhead, X10_overtakesAt, X10_overtakesAtSink, X10_isComplete, X10_completes, X10_shows, X10_sends, X10_canTake, X10_takes, X10_handles, X10_takesAtSink -/
section ZM
variable {p : Program} {l : Launch} {e : Env} {R : Room} {s : State} {m : MethodId} {args : Array Value} {below : List Frame} {meth : Method} {c : Code} {cells slots : Nat} {Q : State → Prop} {D : va_G} {Ca : Nat → ClassId} {B : Nat} {En : State → Prop} {N : Nat}
theorem dX10_alignsAtSink_0 : decode cX10_alignsAtSink 0 = .ok (.aload_n 0, 1) := by decide +kernel
theorem dX10_alignsAtSink_1 : decode cX10_alignsAtSink 1 = .ok (.getfield 21, 3) := by decide +kernel
theorem dX10_alignsAtSink_4 : decode cX10_alignsAtSink 4 = .ok (.bipush 90, 2) := by decide +kernel
theorem dX10_alignsAtSink_6 : decode cX10_alignsAtSink 6 = .ok (.iload_n 1, 1) := by decide +kernel
theorem dX10_alignsAtSink_7 : decode cX10_alignsAtSink 7 = .ok (.iload_n 2, 1) := by decide +kernel
theorem dX10_alignsAtSink_8 : decode cX10_alignsAtSink 8 = .ok (.invokestatic 125, 3) := by decide +kernel
theorem dX10_alignsAtSink_11 : decode cX10_alignsAtSink 11 = .ok (.iadd, 1) := by decide +kernel
theorem dX10_alignsAtSink_12 : decode cX10_alignsAtSink 12 = .ok (.iconst 1, 1) := by decide +kernel
theorem dX10_alignsAtSink_13 : decode cX10_alignsAtSink 13 = .ok (.iastore, 1) := by decide +kernel
theorem dX10_alignsAtSink_14 : decode cX10_alignsAtSink 14 = .ok (.aload_n 0, 1) := by decide +kernel
theorem dX10_alignsAtSink_15 : decode cX10_alignsAtSink 15 = .ok (.getfield 21, 3) := by decide +kernel
theorem dX10_alignsAtSink_18 : decode cX10_alignsAtSink 18 = .ok (.bipush 59, 2) := by decide +kernel
theorem dX10_alignsAtSink_20 : decode cX10_alignsAtSink 20 = .ok (.iload_n 1, 1) := by decide +kernel
theorem dX10_alignsAtSink_21 : decode cX10_alignsAtSink 21 = .ok (.iload_n 2, 1) := by decide +kernel
theorem dX10_alignsAtSink_22 : decode cX10_alignsAtSink 22 = .ok (.invokestatic 125, 3) := by decide +kernel
theorem dX10_alignsAtSink_25 : decode cX10_alignsAtSink 25 = .ok (.iadd, 1) := by decide +kernel
theorem dX10_alignsAtSink_26 : decode cX10_alignsAtSink 26 = .ok (.iconst 1, 1) := by decide +kernel
theorem dX10_alignsAtSink_27 : decode cX10_alignsAtSink 27 = .ok (.iastore, 1) := by decide +kernel
theorem dX10_alignsAtSink_28 : decode cX10_alignsAtSink 28 = .ok (.aload_n 0, 1) := by decide +kernel
theorem dX10_alignsAtSink_29 : decode cX10_alignsAtSink 29 = .ok (.iload_n 2, 1) := by decide +kernel
theorem dX10_alignsAtSink_30 : decode cX10_alignsAtSink 30 = .ok (.invokevirtual 164, 3) := by decide +kernel
theorem dX10_alignsAtSink_33 : decode cX10_alignsAtSink 33 = .ok (.aload_n 0, 1) := by decide +kernel
theorem dX10_alignsAtSink_34 : decode cX10_alignsAtSink 34 = .ok (.getfield 21, 3) := by decide +kernel
theorem dX10_alignsAtSink_37 : decode cX10_alignsAtSink 37 = .ok (.iconst 1, 1) := by decide +kernel
theorem dX10_alignsAtSink_38 : decode cX10_alignsAtSink 38 = .ok (.iaload, 1) := by decide +kernel
theorem dX10_alignsAtSink_39 : decode cX10_alignsAtSink 39 = .ok (.if_icmp .ge 4, 3) := by decide +kernel
theorem dX10_alignsAtSink_42 : decode cX10_alignsAtSink 42 = .ok (.return_, 1) := by decide +kernel
theorem dX10_alignsAtSink_43 : decode cX10_alignsAtSink 43 = .ok (.aload_n 0, 1) := by decide +kernel
theorem dX10_alignsAtSink_44 : decode cX10_alignsAtSink 44 = .ok (.iload_n 2, 1) := by decide +kernel
theorem dX10_alignsAtSink_45 : decode cX10_alignsAtSink 45 = .ok (.invokevirtual 167, 3) := by decide +kernel
theorem dX10_alignsAtSink_48 : decode cX10_alignsAtSink 48 = .ok (.iconst 0, 1) := by decide +kernel
theorem dX10_alignsAtSink_49 : decode cX10_alignsAtSink 49 = .ok (.istore_n 3, 1) := by decide +kernel
theorem dX10_alignsAtSink_50 : decode cX10_alignsAtSink 50 = .ok (.iload_n 3, 1) := by decide +kernel
theorem dX10_alignsAtSink_51 : decode cX10_alignsAtSink 51 = .ok (.aload_n 0, 1) := by decide +kernel
theorem dX10_alignsAtSink_52 : decode cX10_alignsAtSink 52 = .ok (.getfield 21, 3) := by decide +kernel
theorem dX10_alignsAtSink_55 : decode cX10_alignsAtSink 55 = .ok (.iconst 1, 1) := by decide +kernel
theorem dX10_alignsAtSink_56 : decode cX10_alignsAtSink 56 = .ok (.iaload, 1) := by decide +kernel
theorem dX10_alignsAtSink_57 : decode cX10_alignsAtSink 57 = .ok (.if_icmp .ge 23, 3) := by decide +kernel
theorem dX10_alignsAtSink_60 : decode cX10_alignsAtSink 60 = .ok (.aload_n 0, 1) := by decide +kernel
theorem dX10_alignsAtSink_61 : decode cX10_alignsAtSink 61 = .ok (.getfield 21, 3) := by decide +kernel
theorem dX10_alignsAtSink_64 : decode cX10_alignsAtSink 64 = .ok (.bipush 59, 2) := by decide +kernel
theorem dX10_alignsAtSink_66 : decode cX10_alignsAtSink 66 = .ok (.iload_n 3, 1) := by decide +kernel
theorem dX10_alignsAtSink_67 : decode cX10_alignsAtSink 67 = .ok (.iload_n 2, 1) := by decide +kernel
theorem dX10_alignsAtSink_68 : decode cX10_alignsAtSink 68 = .ok (.invokestatic 125, 3) := by decide +kernel
theorem dX10_alignsAtSink_71 : decode cX10_alignsAtSink 71 = .ok (.iadd, 1) := by decide +kernel
theorem dX10_alignsAtSink_72 : decode cX10_alignsAtSink 72 = .ok (.iconst 0, 1) := by decide +kernel
theorem dX10_alignsAtSink_73 : decode cX10_alignsAtSink 73 = .ok (.iastore, 1) := by decide +kernel
theorem dX10_alignsAtSink_74 : decode cX10_alignsAtSink 74 = .ok (.iinc 3 1, 3) := by decide +kernel
theorem dX10_alignsAtSink_77 : decode cX10_alignsAtSink 77 = .ok (.goto (-27), 3) := by decide +kernel
theorem dX10_alignsAtSink_80 : decode cX10_alignsAtSink 80 = .ok (.return_, 1) := by decide +kernel
theorem hyX10_alignsAtSink : yX10_alignsAtSink.cls ≠ "java/lang/invoke/MethodHandle" ∧ yX10_alignsAtSink.cls ≠ "java/lang/invoke/VarHandle" ∧ (parseMethodDescriptor yX10_alignsAtSink.desc).map (fun d => d.parameters.length) = some 2 := ⟨by decide +kernel, by decide +kernel, by decide +kernel⟩
set_option maxRecDepth 100000 in
set_option maxHeartbeats 4000000 in
theorem wsX10_alignsAtSink_50b (C : zC p s m args meth c cX10_alignsAtSink RX10 4 D Ca B En) (hRm : zRm R 4 88 cells slots) (x0 : Nat) (x2 : Int32) (σ : zS) (u3 : Int32) (y : (zS × Int32) ⊕ zS) (hf : sX10_alignsAtSink_50b x0 x2 σ u3 = some y) (hk : (∀ z : (zS × Int32), y = .inl z → zW p l e R s m args below meth c cells slots Q D Ca B 4 z.1 N 50 [(0, .ref x0), (2, .int x2), (3, .int z.2)] []) ∧ (∀ z : zS, y = .inr z → zW p l e R s m args below meth c cells slots Q D Ca B 4 z N 80 [] [])) : zW p l e R s m args below meth c cells slots Q D Ca B 4 σ N 50 [(0, .ref x0), (2, .int x2), (3, .int u3)] [] := by
  unfold sX10_alignsAtSink_50b at hf
  refine z_iload_n C dX10_alignsAtSink_50 rfl 2 rfl ?_
  refine z_aload_n C dX10_alignsAtSink_51 rfl 0 rfl ?_
  obtain ⟨v11, hv11, hf⟩ := zbind hf
  refine gf_RX10_21 C hv11 dX10_alignsAtSink_52 ?_
  refine z_iconst C (zi 1) dX10_alignsAtSink_55 (by decide) ?_
  obtain ⟨v12, hv12, hf⟩ := zbind hf
  refine z_aI C hv12 dX10_alignsAtSink_56 ?_
  refine z_icmp_ge C 80 dX10_alignsAtSink_57 (by decide) (fun q16 => ?_) (fun q16 => ?_)
  · rw [if_pos q16] at hf
    cases hf
    refine z_sub [] rfl ?_
    exact hk.2 _ rfl
  · rw [if_neg q16] at hf
    refine z_aload_n C dX10_alignsAtSink_60 rfl 0 rfl ?_
    obtain ⟨v13, hv13, hf⟩ := zbind hf
    refine gf_RX10_21 C hv13 dX10_alignsAtSink_61 ?_
    refine z_bipush C (zi 59) dX10_alignsAtSink_64 (by decide) ?_
    refine z_iload_n C dX10_alignsAtSink_66 rfl 2 rfl ?_
    refine z_iload_n C dX10_alignsAtSink_67 rfl 1 rfl ?_
    obtain ⟨c14, hc14, hf⟩ := zbind hf
    refine z_callSi (As := [.int u3, .int x2]) (F0 := 4) (L0 := 88) C (mX10_channelOut l D Ca B En C.2.2.2.2.2.2.2.1 σ N u3 x2 _ hc14) hRm kw_1424 kw_14 kw_1422 kw_1423 hyX10_channelOut (Nat.le_of_ble_eq_true rfl) (Nat.le_of_ble_eq_true rfl) rfl rfl (Nat.le_of_ble_eq_true rfl) dX10_alignsAtSink_68 ?_
    refine z_iadd C dX10_alignsAtSink_71 ?_
    refine z_iconst C (zi 0) dX10_alignsAtSink_72 (by decide) ?_
    obtain ⟨σ15, hσ15, hf⟩ := zbind hf
    refine z_sI C hσ15 dX10_alignsAtSink_73 ?_
    refine z_iinc (lv2 := [(3, .int (u3 + (zi 1))), (0, .ref x0), (2, .int x2)]) C (u3 + (zi 1)) dX10_alignsAtSink_74 2 rfl rfl (by decide) rfl ?_
    refine z_goto C 50 dX10_alignsAtSink_77 (by decide) ?_
    cases hf
    refine z_sub [1, 2, 0] rfl ?_
    exact hk.1 _ rfl

theorem wsX10_alignsAtSink_50 (C : zC p s m args meth c cX10_alignsAtSink RX10 4 D Ca B En) (hRm : zRm R 4 88 cells slots) (x0 : Nat) (x2 : Int32) (n : Nat) (z : (zS × Int32)) (x : zS) (hf : zloop (sX10_alignsAtSink_50 x0 x2) n z = some x) (hk : (∀ o : zS, x = o → zW p l e R s m args below meth c cells slots Q D Ca B 4 o N 80 [] [])) : zW p l e R s m args below meth c cells slots Q D Ca B 4 z.1 N 50 [(0, .ref x0), (2, .int x2), (3, .int z.2)] [] := by
  refine zloop_W (P := fun z : (zS × Int32) => zW p l e R s m args below meth c cells slots Q D Ca B 4 z.1 N 50 [(0, .ref x0), (2, .int x2), (3, .int z.2)] []) (K := fun x : zS => (∀ o : zS, x = o → zW p l e R s m args below meth c cells slots Q D Ca B 4 o N 80 [] [])) ?_ n z x hf hk
  intro z y hy h1 h2
  refine wsX10_alignsAtSink_50b C hRm x0 x2 z.1 z.2 y hy ⟨fun z2 e => h1 z2 e, fun o e => (h2 _ e) o rfl⟩
set_option maxRecDepth 100000 in
set_option maxHeartbeats 4000000 in
theorem wfX10_alignsAtSink (C : zC p s m args meth c cX10_alignsAtSink RX10 4 D Ca B En) (hRm : zRm R 4 88 cells slots) (σ : zS) (x0 : Nat) (x1 : Int32) (x2 : Int32) (τ : zS) (hf : fX10_alignsAtSink σ x0 x1 x2 = some τ) (hq : ∀ (pc : Nat) (lv : List (Nat × Value)), decode cX10_alignsAtSink pc = .ok (.return_, 1) → zW p l e R s m args below meth c cells slots Q D Ca B 4 τ N pc lv []) : zW p l e R s m args below meth c cells slots Q D Ca B 4 σ N 0 [(0, .ref x0), (1, .int x1), (2, .int x2)] [] := by
  unfold fX10_alignsAtSink at hf
  refine z_aload_n C dX10_alignsAtSink_0 rfl 0 rfl ?_
  obtain ⟨v1, hv1, hf⟩ := zbind hf
  refine gf_RX10_21 C hv1 dX10_alignsAtSink_1 ?_
  refine z_bipush C (zi 90) dX10_alignsAtSink_4 (by decide) ?_
  refine z_iload_n C dX10_alignsAtSink_6 rfl 1 rfl ?_
  refine z_iload_n C dX10_alignsAtSink_7 rfl 2 rfl ?_
  obtain ⟨c2, hc2, hf⟩ := zbind hf
  refine z_callSi (As := [.int x1, .int x2]) (F0 := 4) (L0 := 88) C (mX10_channelOut l D Ca B En C.2.2.2.2.2.2.2.1 σ N x1 x2 _ hc2) hRm kw_1424 kw_14 kw_1422 kw_1423 hyX10_channelOut (Nat.le_of_ble_eq_true rfl) (Nat.le_of_ble_eq_true rfl) rfl rfl (Nat.le_of_ble_eq_true rfl) dX10_alignsAtSink_8 ?_
  refine z_iadd C dX10_alignsAtSink_11 ?_
  refine z_iconst C (zi 1) dX10_alignsAtSink_12 (by decide) ?_
  obtain ⟨σ3, hσ3, hf⟩ := zbind hf
  refine z_sI C hσ3 dX10_alignsAtSink_13 ?_
  refine z_aload_n C dX10_alignsAtSink_14 rfl 0 rfl ?_
  obtain ⟨v4, hv4, hf⟩ := zbind hf
  refine gf_RX10_21 C hv4 dX10_alignsAtSink_15 ?_
  refine z_bipush C (zi 59) dX10_alignsAtSink_18 (by decide) ?_
  refine z_iload_n C dX10_alignsAtSink_20 rfl 1 rfl ?_
  refine z_iload_n C dX10_alignsAtSink_21 rfl 2 rfl ?_
  obtain ⟨c5, hc5, hf⟩ := zbind hf
  refine z_callSi (As := [.int x1, .int x2]) (F0 := 4) (L0 := 88) C (mX10_channelOut l D Ca B En C.2.2.2.2.2.2.2.1 σ3 N x1 x2 _ hc5) hRm kw_1424 kw_14 kw_1422 kw_1423 hyX10_channelOut (Nat.le_of_ble_eq_true rfl) (Nat.le_of_ble_eq_true rfl) rfl rfl (Nat.le_of_ble_eq_true rfl) dX10_alignsAtSink_22 ?_
  refine z_iadd C dX10_alignsAtSink_25 ?_
  refine z_iconst C (zi 1) dX10_alignsAtSink_26 (by decide) ?_
  obtain ⟨σ6, hσ6, hf⟩ := zbind hf
  refine z_sI C hσ6 dX10_alignsAtSink_27 ?_
  refine z_aload_n C dX10_alignsAtSink_28 rfl 0 rfl ?_
  refine z_iload_n C dX10_alignsAtSink_29 rfl 2 rfl ?_
  obtain ⟨c7, hc7, hf⟩ := zbind hf
  obtain ⟨kc7, hc7⟩ := zck_ok hc7
  refine z_callVi (As := [.int x2]) (F0 := 4) (L0 := 88) C (mX10_arrivedAtSink l D Ca B En C.2.2.2.2.2.2.2.1 σ6 N x0 x2 _ hc7) hRm kc7 rfl kw_1536 kw_14 kw_1533 kw_1535 kp_67 hyX10_arrivedAtSink (Nat.le_of_ble_eq_true rfl) (Nat.le_of_ble_eq_true rfl) rfl rfl (Nat.le_of_ble_eq_true rfl) dX10_alignsAtSink_30 ?_
  refine z_aload_n C dX10_alignsAtSink_33 rfl 0 rfl ?_
  obtain ⟨v8, hv8, hf⟩ := zbind hf
  refine gf_RX10_21 C hv8 dX10_alignsAtSink_34 ?_
  refine z_iconst C (zi 1) dX10_alignsAtSink_37 (by decide) ?_
  obtain ⟨v9, hv9, hf⟩ := zbind hf
  refine z_aI C hv9 dX10_alignsAtSink_38 ?_
  refine z_icmp_ge C 43 dX10_alignsAtSink_39 (by decide) (fun q18 => ?_) (fun q18 => ?_)
  · rw [if_pos q18] at hf
    refine z_aload_n C dX10_alignsAtSink_43 rfl 0 rfl ?_
    refine z_iload_n C dX10_alignsAtSink_44 rfl 2 rfl ?_
    obtain ⟨c10, hc10, hf⟩ := zbind hf
    obtain ⟨kc10, hc10⟩ := zck_ok hc10
    refine z_callVv (As := [.int x2]) (F0 := 4) (L0 := 88) C (mX10_closes l D Ca B En C.2.2.2.2.2.2.2.1 c7.1 N x0 x2 _ hc10) hRm kc10 rfl kw_1540 kw_14 kw_1537 kw_1539 kp_68 hyX10_closes (Nat.le_of_ble_eq_true rfl) (Nat.le_of_ble_eq_true rfl) rfl rfl (Nat.le_of_ble_eq_true rfl) dX10_alignsAtSink_45 ?_
    refine z_iconst C (zi 0) dX10_alignsAtSink_48 (by decide) ?_
    refine z_istore_n (lv2 := [(3, .int ((zi 0))), (0, .ref x0), (1, .int x1), (2, .int x2)]) C dX10_alignsAtSink_49 rfl (by decide) rfl ?_
    obtain ⟨o17, ho17, hf⟩ := zbind hf
    refine z_sub [1, 3, 0] rfl ?_
    refine wsX10_alignsAtSink_50 C hRm _ _ zfuel (c10, (zi 0)) o17 ho17 ?_
    intro z9 e9
    subst e9
    cases hf
    exact hq _ _ dX10_alignsAtSink_80
  · rw [if_neg q18] at hf
    cases hf
    exact hq _ _ dX10_alignsAtSink_42

theorem mX10_alignsAtSink (l : Launch) (D : va_G) (Ca : Nat → ClassId) (B : Nat) (En : State → Prop) (hE : zEk B En) (σ : zS) (N : Nat) (x0 : Nat) (x1 : Int32) (x2 : Int32) (X : zS) (hf : fX10_alignsAtSink σ x0 x1 x2 = some X) : zMv l D Ca B En yX10_alignsAtSink cX10_alignsAtSink 4 (Option.none : Option Jvm.ClassFile.FieldType) 4 88 [.ref x0, .int x1, .int x2] σ N X () :=
  zMet_v (own := RX10) hE (by decide +kernel) rfl (Nat.le_of_ble_eq_true rfl) (fun p e s m args below meth c C hr hRm => wfX10_alignsAtSink C hRm σ x0 x1 x2 X hf (fun pc lv hd => zfin_v (r := ()) C hr hd))
theorem dX10_keepsAhead_0 : decode cX10_keepsAhead 0 = .ok (.aload_n 0, 1) := by decide +kernel
theorem dX10_keepsAhead_1 : decode cX10_keepsAhead 1 = .ok (.iload_n 1, 1) := by decide +kernel
theorem dX10_keepsAhead_2 : decode cX10_keepsAhead 2 = .ok (.invokevirtual 170, 3) := by decide +kernel
theorem dX10_keepsAhead_5 : decode cX10_keepsAhead 5 = .ok (.istore_n 3, 1) := by decide +kernel
theorem dX10_keepsAhead_6 : decode cX10_keepsAhead 6 = .ok (.iconst 0, 1) := by decide +kernel
theorem dX10_keepsAhead_7 : decode cX10_keepsAhead 7 = .ok (.istore 4, 2) := by decide +kernel
theorem dX10_keepsAhead_9 : decode cX10_keepsAhead 9 = .ok (.iload 4, 2) := by decide +kernel
theorem dX10_keepsAhead_11 : decode cX10_keepsAhead 11 = .ok (.iload_n 3, 1) := by decide +kernel
theorem dX10_keepsAhead_12 : decode cX10_keepsAhead 12 = .ok (.if_icmp .ge 21, 3) := by decide +kernel
theorem dX10_keepsAhead_15 : decode cX10_keepsAhead 15 = .ok (.aload_n 0, 1) := by decide +kernel
theorem dX10_keepsAhead_16 : decode cX10_keepsAhead 16 = .ok (.iload_n 2, 1) := by decide +kernel
theorem dX10_keepsAhead_17 : decode cX10_keepsAhead 17 = .ok (.aload_n 0, 1) := by decide +kernel
theorem dX10_keepsAhead_18 : decode cX10_keepsAhead 18 = .ok (.iload_n 1, 1) := by decide +kernel
theorem dX10_keepsAhead_19 : decode cX10_keepsAhead 19 = .ok (.iload 4, 2) := by decide +kernel
theorem dX10_keepsAhead_21 : decode cX10_keepsAhead 21 = .ok (.invokevirtual 100, 3) := by decide +kernel
theorem dX10_keepsAhead_24 : decode cX10_keepsAhead 24 = .ok (.invokevirtual 104, 3) := by decide +kernel
theorem dX10_keepsAhead_27 : decode cX10_keepsAhead 27 = .ok (.iinc 4 1, 3) := by decide +kernel
theorem dX10_keepsAhead_30 : decode cX10_keepsAhead 30 = .ok (.goto (-21), 3) := by decide +kernel
theorem dX10_keepsAhead_33 : decode cX10_keepsAhead 33 = .ok (.aload_n 0, 1) := by decide +kernel
theorem dX10_keepsAhead_34 : decode cX10_keepsAhead 34 = .ok (.iload_n 1, 1) := by decide +kernel
theorem dX10_keepsAhead_35 : decode cX10_keepsAhead 35 = .ok (.iload_n 3, 1) := by decide +kernel
theorem dX10_keepsAhead_36 : decode cX10_keepsAhead 36 = .ok (.invokevirtual 173, 3) := by decide +kernel
theorem dX10_keepsAhead_39 : decode cX10_keepsAhead 39 = .ok (.return_, 1) := by decide +kernel
theorem hyX10_keepsAhead : yX10_keepsAhead.cls ≠ "java/lang/invoke/MethodHandle" ∧ yX10_keepsAhead.cls ≠ "java/lang/invoke/VarHandle" ∧ (parseMethodDescriptor yX10_keepsAhead.desc).map (fun d => d.parameters.length) = some 2 := ⟨by decide +kernel, by decide +kernel, by decide +kernel⟩
set_option maxRecDepth 100000 in
set_option maxHeartbeats 4000000 in
theorem wsX10_keepsAhead_9b (C : zC p s m args meth c cX10_keepsAhead RX10 5 D Ca B En) (hRm : zRm R 2 44 cells slots) (x0 : Nat) (x1 : Int32) (x2 : Int32) (x3 : Int32) (σ : zS) (u4 : Int32) (y : (zS × Int32) ⊕ zS) (hf : sX10_keepsAhead_9b x0 x1 x2 x3 σ u4 = some y) (hk : (∀ z : (zS × Int32), y = .inl z → zW p l e R s m args below meth c cells slots Q D Ca B 5 z.1 N 9 [(0, .ref x0), (1, .int x1), (2, .int x2), (3, .int x3), (4, .int z.2)] []) ∧ (∀ z : zS, y = .inr z → zW p l e R s m args below meth c cells slots Q D Ca B 5 z N 33 [(0, .ref x0), (1, .int x1), (3, .int x3)] [])) : zW p l e R s m args below meth c cells slots Q D Ca B 5 σ N 9 [(0, .ref x0), (1, .int x1), (2, .int x2), (3, .int x3), (4, .int u4)] [] := by
  unfold sX10_keepsAhead_9b at hf
  refine z_iload C dX10_keepsAhead_9 4 rfl ?_
  refine z_iload_n C dX10_keepsAhead_11 rfl 3 rfl ?_
  refine z_icmp_ge C 33 dX10_keepsAhead_12 (by decide) (fun q4 => ?_) (fun q4 => ?_)
  · rw [if_pos q4] at hf
    cases hf
    refine z_sub [0, 1, 3] rfl ?_
    exact hk.2 _ rfl
  · rw [if_neg q4] at hf
    refine z_aload_n C dX10_keepsAhead_15 rfl 0 rfl ?_
    refine z_iload_n C dX10_keepsAhead_16 rfl 2 rfl ?_
    refine z_aload_n C dX10_keepsAhead_17 rfl 0 rfl ?_
    refine z_iload_n C dX10_keepsAhead_18 rfl 1 rfl ?_
    refine z_iload C dX10_keepsAhead_19 4 rfl ?_
    obtain ⟨c2, hc2, hf⟩ := zbind hf
    obtain ⟨kc2, hc2⟩ := zck_ok hc2
    refine z_callVi (As := [.int x1, .int u4]) (F0 := 2) (L0 := 44) C (mX10_at l D Ca B En C.2.2.2.2.2.2.2.1 σ N x0 x1 u4 _ hc2) hRm kc2 rfl kw_1439 kw_14 kw_1436 kw_1438 kp_45 hyX10_at (Nat.le_of_ble_eq_true rfl) (Nat.le_of_ble_eq_true rfl) rfl rfl (Nat.le_of_ble_eq_true rfl) dX10_keepsAhead_21 ?_
    obtain ⟨c3, hc3, hf⟩ := zbind hf
    obtain ⟨kc3, hc3⟩ := zck_ok hc3
    refine z_callVv (As := [.int x2, .int c2.2]) (F0 := 2) (L0 := 44) C (mX10_adds l D Ca B En C.2.2.2.2.2.2.2.1 c2.1 N x0 x2 c2.2 _ hc3) hRm kc3 rfl kw_1443 kw_14 kw_1440 kw_1442 kp_46 hyX10_adds (Nat.le_of_ble_eq_true rfl) (Nat.le_of_ble_eq_true rfl) rfl rfl (Nat.le_of_ble_eq_true rfl) dX10_keepsAhead_24 ?_
    refine z_iinc (lv2 := [(4, .int (u4 + (zi 1))), (0, .ref x0), (1, .int x1), (2, .int x2), (3, .int x3)]) C (u4 + (zi 1)) dX10_keepsAhead_27 4 rfl rfl (by decide) rfl ?_
    refine z_goto C 9 dX10_keepsAhead_30 (by decide) ?_
    cases hf
    refine z_sub [1, 2, 3, 4, 0] rfl ?_
    exact hk.1 _ rfl

theorem wsX10_keepsAhead_9 (C : zC p s m args meth c cX10_keepsAhead RX10 5 D Ca B En) (hRm : zRm R 2 44 cells slots) (x0 : Nat) (x1 : Int32) (x2 : Int32) (x3 : Int32) (n : Nat) (z : (zS × Int32)) (x : zS) (hf : zloop (sX10_keepsAhead_9 x0 x1 x2 x3) n z = some x) (hk : (∀ o : zS, x = o → zW p l e R s m args below meth c cells slots Q D Ca B 5 o N 33 [(0, .ref x0), (1, .int x1), (3, .int x3)] [])) : zW p l e R s m args below meth c cells slots Q D Ca B 5 z.1 N 9 [(0, .ref x0), (1, .int x1), (2, .int x2), (3, .int x3), (4, .int z.2)] [] := by
  refine zloop_W (P := fun z : (zS × Int32) => zW p l e R s m args below meth c cells slots Q D Ca B 5 z.1 N 9 [(0, .ref x0), (1, .int x1), (2, .int x2), (3, .int x3), (4, .int z.2)] []) (K := fun x : zS => (∀ o : zS, x = o → zW p l e R s m args below meth c cells slots Q D Ca B 5 o N 33 [(0, .ref x0), (1, .int x1), (3, .int x3)] [])) ?_ n z x hf hk
  intro z y hy h1 h2
  refine wsX10_keepsAhead_9b C hRm x0 x1 x2 x3 z.1 z.2 y hy ⟨fun z2 e => h1 z2 e, fun o e => (h2 _ e) o rfl⟩
set_option maxRecDepth 100000 in
set_option maxHeartbeats 4000000 in
theorem wfX10_keepsAhead (C : zC p s m args meth c cX10_keepsAhead RX10 5 D Ca B En) (hRm : zRm R 2 44 cells slots) (σ : zS) (x0 : Nat) (x1 : Int32) (x2 : Int32) (τ : zS) (hf : fX10_keepsAhead σ x0 x1 x2 = some τ) (hq : ∀ (pc : Nat) (lv : List (Nat × Value)), decode cX10_keepsAhead pc = .ok (.return_, 1) → zW p l e R s m args below meth c cells slots Q D Ca B 5 τ N pc lv []) : zW p l e R s m args below meth c cells slots Q D Ca B 5 σ N 0 [(0, .ref x0), (1, .int x1), (2, .int x2)] [] := by
  unfold fX10_keepsAhead at hf
  refine z_aload_n C dX10_keepsAhead_0 rfl 0 rfl ?_
  refine z_iload_n C dX10_keepsAhead_1 rfl 1 rfl ?_
  obtain ⟨c1, hc1, hf⟩ := zbind hf
  obtain ⟨kc1, hc1⟩ := zck_ok hc1
  refine z_callVi (As := [.int x1]) (F0 := 2) (L0 := 44) C (mX10_barrierIn l D Ca B En C.2.2.2.2.2.2.2.1 σ N x0 x1 _ hc1) hRm kc1 rfl kw_1485 kw_14 kw_1482 kw_1484 kp_55 hyX10_barrierIn (Nat.le_of_ble_eq_true rfl) (Nat.le_of_ble_eq_true rfl) rfl rfl (Nat.le_of_ble_eq_true rfl) dX10_keepsAhead_2 ?_
  refine z_istore_n (lv2 := [(3, .int c1.2), (0, .ref x0), (1, .int x1), (2, .int x2)]) C dX10_keepsAhead_5 rfl (by decide) rfl ?_
  refine z_iconst C (zi 0) dX10_keepsAhead_6 (by decide) ?_
  refine z_istore (lv2 := [(4, .int ((zi 0))), (3, .int c1.2), (0, .ref x0), (1, .int x1), (2, .int x2)]) C dX10_keepsAhead_7 (by decide) rfl ?_
  obtain ⟨o5, ho5, hf⟩ := zbind hf
  refine z_sub [2, 3, 4, 1, 0] rfl ?_
  refine wsX10_keepsAhead_9 C hRm _ _ _ _ zfuel (c1.1, (zi 0)) o5 ho5 ?_
  intro z9 e9
  subst e9
  refine z_aload_n C dX10_keepsAhead_33 rfl 0 rfl ?_
  refine z_iload_n C dX10_keepsAhead_34 rfl 1 rfl ?_
  refine z_iload_n C dX10_keepsAhead_35 rfl 2 rfl ?_
  obtain ⟨c6, hc6, hf⟩ := zbind hf
  obtain ⟨kc6, hc6⟩ := zck_ok hc6
  refine z_callVv (As := [.int x1, .int c1.2]) (F0 := 2) (L0 := 44) C (mX10_removes l D Ca B En C.2.2.2.2.2.2.2.1 o5 N x0 x1 c1.2 _ hc6) hRm kc6 rfl kw_1504 kw_14 kw_1501 kw_1503 kp_59 hyX10_removes (Nat.le_of_ble_eq_true rfl) (Nat.le_of_ble_eq_true rfl) rfl rfl (Nat.le_of_ble_eq_true rfl) dX10_keepsAhead_36 ?_
  cases hf
  exact hq _ _ dX10_keepsAhead_39

theorem mX10_keepsAhead (l : Launch) (D : va_G) (Ca : Nat → ClassId) (B : Nat) (En : State → Prop) (hE : zEk B En) (σ : zS) (N : Nat) (x0 : Nat) (x1 : Int32) (x2 : Int32) (X : zS) (hf : fX10_keepsAhead σ x0 x1 x2 = some X) : zMv l D Ca B En yX10_keepsAhead cX10_keepsAhead 5 (Option.none : Option Jvm.ClassFile.FieldType) 2 44 [.ref x0, .int x1, .int x2] σ N X () :=
  zMet_v (own := RX10) hE (by decide +kernel) rfl (Nat.le_of_ble_eq_true rfl) (fun p e s m args below meth c C hr hRm => wfX10_keepsAhead C hRm σ x0 x1 x2 X hf (fun pc lv hd => zfin_v (r := ()) C hr hd))
theorem dX10_overtakesAt_0 : decode cX10_overtakesAt 0 = .ok (.aload_n 0, 1) := by decide +kernel
theorem dX10_overtakesAt_1 : decode cX10_overtakesAt 1 = .ok (.iload_n 1, 1) := by decide +kernel
theorem dX10_overtakesAt_2 : decode cX10_overtakesAt 2 = .ok (.iload_n 2, 1) := by decide +kernel
theorem dX10_overtakesAt_3 : decode cX10_overtakesAt 3 = .ok (.invokestatic 176, 3) := by decide +kernel
theorem dX10_overtakesAt_6 : decode cX10_overtakesAt 6 = .ok (.invokevirtual 170, 3) := by decide +kernel
theorem dX10_overtakesAt_9 : decode cX10_overtakesAt 9 = .ok (.iconst (-1), 1) := by decide +kernel
theorem dX10_overtakesAt_10 : decode cX10_overtakesAt 10 = .ok (.if_icmp .ne 4, 3) := by decide +kernel
theorem dX10_overtakesAt_13 : decode cX10_overtakesAt 13 = .ok (.return_, 1) := by decide +kernel
theorem dX10_overtakesAt_14 : decode cX10_overtakesAt 14 = .ok (.aload_n 0, 1) := by decide +kernel
theorem dX10_overtakesAt_15 : decode cX10_overtakesAt 15 = .ok (.iload_n 2, 1) := by decide +kernel
theorem dX10_overtakesAt_16 : decode cX10_overtakesAt 16 = .ok (.invokevirtual 158, 3) := by decide +kernel
theorem dX10_overtakesAt_19 : decode cX10_overtakesAt 19 = .ok (.ifCond .ne 8, 3) := by decide +kernel
theorem dX10_overtakesAt_22 : decode cX10_overtakesAt 22 = .ok (.aload_n 0, 1) := by decide +kernel
theorem dX10_overtakesAt_23 : decode cX10_overtakesAt 23 = .ok (.iload_n 2, 1) := by decide +kernel
theorem dX10_overtakesAt_24 : decode cX10_overtakesAt 24 = .ok (.invokevirtual 161, 3) := by decide +kernel
theorem dX10_overtakesAt_27 : decode cX10_overtakesAt 27 = .ok (.aload_n 0, 1) := by decide +kernel
theorem dX10_overtakesAt_28 : decode cX10_overtakesAt 28 = .ok (.iload_n 1, 1) := by decide +kernel
theorem dX10_overtakesAt_29 : decode cX10_overtakesAt 29 = .ok (.iload_n 2, 1) := by decide +kernel
theorem dX10_overtakesAt_30 : decode cX10_overtakesAt 30 = .ok (.invokestatic 176, 3) := by decide +kernel
theorem dX10_overtakesAt_33 : decode cX10_overtakesAt 33 = .ok (.iload_n 1, 1) := by decide +kernel
theorem dX10_overtakesAt_34 : decode cX10_overtakesAt 34 = .ok (.iload_n 2, 1) := by decide +kernel
theorem dX10_overtakesAt_35 : decode cX10_overtakesAt 35 = .ok (.invokestatic 134, 3) := by decide +kernel
theorem dX10_overtakesAt_38 : decode cX10_overtakesAt 38 = .ok (.invokevirtual 179, 3) := by decide +kernel
theorem dX10_overtakesAt_41 : decode cX10_overtakesAt 41 = .ok (.aload_n 0, 1) := by decide +kernel
theorem dX10_overtakesAt_42 : decode cX10_overtakesAt 42 = .ok (.getfield 21, 3) := by decide +kernel
theorem dX10_overtakesAt_45 : decode cX10_overtakesAt 45 = .ok (.bipush 74, 2) := by decide +kernel
theorem dX10_overtakesAt_47 : decode cX10_overtakesAt 47 = .ok (.iload_n 1, 1) := by decide +kernel
theorem dX10_overtakesAt_48 : decode cX10_overtakesAt 48 = .ok (.iload_n 2, 1) := by decide +kernel
theorem dX10_overtakesAt_49 : decode cX10_overtakesAt 49 = .ok (.invokestatic 122, 3) := by decide +kernel
theorem dX10_overtakesAt_52 : decode cX10_overtakesAt 52 = .ok (.iadd, 1) := by decide +kernel
theorem dX10_overtakesAt_53 : decode cX10_overtakesAt 53 = .ok (.iconst 1, 1) := by decide +kernel
theorem dX10_overtakesAt_54 : decode cX10_overtakesAt 54 = .ok (.iastore, 1) := by decide +kernel
theorem dX10_overtakesAt_55 : decode cX10_overtakesAt 55 = .ok (.return_, 1) := by decide +kernel
theorem hyX10_overtakesAt : yX10_overtakesAt.cls ≠ "java/lang/invoke/MethodHandle" ∧ yX10_overtakesAt.cls ≠ "java/lang/invoke/VarHandle" ∧ (parseMethodDescriptor yX10_overtakesAt.desc).map (fun d => d.parameters.length) = some 2 := ⟨by decide +kernel, by decide +kernel, by decide +kernel⟩
set_option maxRecDepth 100000 in
set_option maxHeartbeats 4000000 in
theorem wjX10_overtakesAt_27 (C : zC p s m args meth c cX10_overtakesAt RX10 3 D Ca B En) (hRm : zRm R 3 68 cells slots) (σ : zS) (x0 : Nat) (x1 : Int32) (x2 : Int32)  (τ : zS) (hf : jX10_overtakesAt_27 σ x0 x1 x2  = some τ) (hq : ∀ (pc : Nat) (lv : List (Nat × Value)), decode cX10_overtakesAt pc = .ok (.return_, 1) → zW p l e R s m args below meth c cells slots Q D Ca B 3 τ N pc lv []) : zW p l e R s m args below meth c cells slots Q D Ca B 3 σ N 27 [(0, .ref x0), (1, .int x1), (2, .int x2)] [] := by
  unfold jX10_overtakesAt_27 at hf
  refine z_aload_n C dX10_overtakesAt_27 rfl 0 rfl ?_
  refine z_iload_n C dX10_overtakesAt_28 rfl 1 rfl ?_
  refine z_iload_n C dX10_overtakesAt_29 rfl 2 rfl ?_
  obtain ⟨c4, hc4, hf⟩ := zbind hf
  refine z_callSi (As := [.int x1, .int x2]) (F0 := 3) (L0 := 68) C (mX10_toInstance l D Ca B En C.2.2.2.2.2.2.2.1 σ N x1 x2 _ hc4) hRm kw_1450 kw_14 kw_1448 kw_1449 hyX10_toInstance (Nat.le_of_ble_eq_true rfl) (Nat.le_of_ble_eq_true rfl) rfl rfl (Nat.le_of_ble_eq_true rfl) dX10_overtakesAt_30 ?_
  refine z_iload_n C dX10_overtakesAt_33 rfl 1 rfl ?_
  refine z_iload_n C dX10_overtakesAt_34 rfl 2 rfl ?_
  obtain ⟨c5, hc5, hf⟩ := zbind hf
  refine z_callSi (As := [.int x1, .int x2]) (F0 := 3) (L0 := 68) C (mX10_keptIn l D Ca B En C.2.2.2.2.2.2.2.1 c4.1 N x1 x2 _ hc5) hRm kw_1411 kw_14 kw_1409 kw_1410 hyX10_keptIn (Nat.le_of_ble_eq_true rfl) (Nat.le_of_ble_eq_true rfl) rfl rfl (Nat.le_of_ble_eq_true rfl) dX10_overtakesAt_35 ?_
  obtain ⟨c6, hc6, hf⟩ := zbind hf
  obtain ⟨kc6, hc6⟩ := zck_ok hc6
  refine z_callVv (As := [.int c4.2, .int c5.2]) (F0 := 3) (L0 := 68) C (mX10_keepsAhead l D Ca B En C.2.2.2.2.2.2.2.1 c5.1 N x0 c4.2 c5.2 _ hc6) hRm kc6 rfl kw_1500 kw_14 kw_1497 kw_1499 kp_58 hyX10_keepsAhead (Nat.le_of_ble_eq_true rfl) (Nat.le_of_ble_eq_true rfl) rfl rfl (Nat.le_of_ble_eq_true rfl) dX10_overtakesAt_38 ?_
  refine z_aload_n C dX10_overtakesAt_41 rfl 0 rfl ?_
  obtain ⟨v7, hv7, hf⟩ := zbind hf
  refine gf_RX10_21 C hv7 dX10_overtakesAt_42 ?_
  refine z_bipush C (zi 74) dX10_overtakesAt_45 (by decide) ?_
  refine z_iload_n C dX10_overtakesAt_47 rfl 1 rfl ?_
  refine z_iload_n C dX10_overtakesAt_48 rfl 2 rfl ?_
  obtain ⟨c8, hc8, hf⟩ := zbind hf
  refine z_callSi (As := [.int x1, .int x2]) (F0 := 3) (L0 := 68) C (mX10_channelIn l D Ca B En C.2.2.2.2.2.2.2.1 c6 N x1 x2 _ hc8) hRm kw_1414 kw_14 kw_1412 kw_1413 hyX10_channelIn (Nat.le_of_ble_eq_true rfl) (Nat.le_of_ble_eq_true rfl) rfl rfl (Nat.le_of_ble_eq_true rfl) dX10_overtakesAt_49 ?_
  refine z_iadd C dX10_overtakesAt_52 ?_
  refine z_iconst C (zi 1) dX10_overtakesAt_53 (by decide) ?_
  obtain ⟨σ9, hσ9, hf⟩ := zbind hf
  refine z_sI C hσ9 dX10_overtakesAt_54 ?_
  cases hf
  exact hq _ _ dX10_overtakesAt_55

set_option maxRecDepth 100000 in
set_option maxHeartbeats 4000000 in
theorem wfX10_overtakesAt (C : zC p s m args meth c cX10_overtakesAt RX10 3 D Ca B En) (hRm : zRm R 3 68 cells slots) (σ : zS) (x0 : Nat) (x1 : Int32) (x2 : Int32) (τ : zS) (hf : fX10_overtakesAt σ x0 x1 x2 = some τ) (hq : ∀ (pc : Nat) (lv : List (Nat × Value)), decode cX10_overtakesAt pc = .ok (.return_, 1) → zW p l e R s m args below meth c cells slots Q D Ca B 3 τ N pc lv []) : zW p l e R s m args below meth c cells slots Q D Ca B 3 σ N 0 [(0, .ref x0), (1, .int x1), (2, .int x2)] [] := by
  unfold fX10_overtakesAt at hf
  refine z_aload_n C dX10_overtakesAt_0 rfl 0 rfl ?_
  refine z_iload_n C dX10_overtakesAt_1 rfl 1 rfl ?_
  refine z_iload_n C dX10_overtakesAt_2 rfl 2 rfl ?_
  obtain ⟨c1, hc1, hf⟩ := zbind hf
  refine z_callSi (As := [.int x1, .int x2]) (F0 := 3) (L0 := 68) C (mX10_toInstance l D Ca B En C.2.2.2.2.2.2.2.1 σ N x1 x2 _ hc1) hRm kw_1450 kw_14 kw_1448 kw_1449 hyX10_toInstance (Nat.le_of_ble_eq_true rfl) (Nat.le_of_ble_eq_true rfl) rfl rfl (Nat.le_of_ble_eq_true rfl) dX10_overtakesAt_3 ?_
  obtain ⟨c2, hc2, hf⟩ := zbind hf
  obtain ⟨kc2, hc2⟩ := zck_ok hc2
  refine z_callVi (As := [.int c1.2]) (F0 := 3) (L0 := 68) C (mX10_barrierIn l D Ca B En C.2.2.2.2.2.2.2.1 c1.1 N x0 c1.2 _ hc2) hRm kc2 rfl kw_1485 kw_14 kw_1482 kw_1484 kp_55 hyX10_barrierIn (Nat.le_of_ble_eq_true rfl) (Nat.le_of_ble_eq_true rfl) rfl rfl (Nat.le_of_ble_eq_true rfl) dX10_overtakesAt_6 ?_
  refine z_iconst C (zi (-1)) dX10_overtakesAt_9 (by decide) ?_
  refine z_icmp_ne C 14 dX10_overtakesAt_10 (by decide) (fun q12 => ?_) (fun q12 => ?_)
  · rw [if_neg q12] at hf
    refine z_aload_n C dX10_overtakesAt_14 rfl 0 rfl ?_
    refine z_iload_n C dX10_overtakesAt_15 rfl 2 rfl ?_
    obtain ⟨c3, hc3, hf⟩ := zbind hf
    obtain ⟨kc3, hc3⟩ := zck_ok hc3
    refine z_callVi (As := [.int x2]) (F0 := 3) (L0 := 68) C (mX10_arrivedAt l D Ca B En C.2.2.2.2.2.2.2.1 c2.1 N x0 x2 _ hc3) hRm kc3 rfl kw_1489 kw_14 kw_1486 kw_1488 kp_56 hyX10_arrivedAt (Nat.le_of_ble_eq_true rfl) (Nat.le_of_ble_eq_true rfl) rfl rfl (Nat.le_of_ble_eq_true rfl) dX10_overtakesAt_16 ?_
    refine z_if_ne C 27 dX10_overtakesAt_19 (by decide) (fun q11 => ?_) (fun q11 => ?_)
    · rw [if_neg q11] at hf
      refine z_sub [0, 1, 2] rfl ?_
      exact wjX10_overtakesAt_27 C hRm _ _ _ _  _ hf hq
    · rw [if_pos q11] at hf
      refine z_aload_n C dX10_overtakesAt_22 rfl 0 rfl ?_
      refine z_iload_n C dX10_overtakesAt_23 rfl 2 rfl ?_
      obtain ⟨c10, hc10, hf⟩ := zbind hf
      obtain ⟨kc10, hc10⟩ := zck_ok hc10
      refine z_callVv (As := [.int x2]) (F0 := 3) (L0 := 68) C (mX10_notes l D Ca B En C.2.2.2.2.2.2.2.1 c3.1 N x0 x2 _ hc10) hRm kc10 rfl kw_1493 kw_14 kw_1490 kw_1492 kp_57 hyX10_notes (Nat.le_of_ble_eq_true rfl) (Nat.le_of_ble_eq_true rfl) rfl rfl (Nat.le_of_ble_eq_true rfl) dX10_overtakesAt_24 ?_
      refine z_sub [0, 1, 2] rfl ?_
      exact wjX10_overtakesAt_27 C hRm _ _ _ _  _ hf hq
  · rw [if_pos q12] at hf
    cases hf
    exact hq _ _ dX10_overtakesAt_13

theorem mX10_overtakesAt (l : Launch) (D : va_G) (Ca : Nat → ClassId) (B : Nat) (En : State → Prop) (hE : zEk B En) (σ : zS) (N : Nat) (x0 : Nat) (x1 : Int32) (x2 : Int32) (X : zS) (hf : fX10_overtakesAt σ x0 x1 x2 = some X) : zMv l D Ca B En yX10_overtakesAt cX10_overtakesAt 3 (Option.none : Option Jvm.ClassFile.FieldType) 3 68 [.ref x0, .int x1, .int x2] σ N X () :=
  zMet_v (own := RX10) hE (by decide +kernel) rfl (Nat.le_of_ble_eq_true rfl) (fun p e s m args below meth c C hr hRm => wfX10_overtakesAt C hRm σ x0 x1 x2 X hf (fun pc lv hd => zfin_v (r := ()) C hr hd))
theorem dX10_overtakesAtSink_0 : decode cX10_overtakesAtSink 0 = .ok (.aload_n 0, 1) := by decide +kernel
theorem dX10_overtakesAtSink_1 : decode cX10_overtakesAtSink 1 = .ok (.iload_n 1, 1) := by decide +kernel
theorem dX10_overtakesAtSink_2 : decode cX10_overtakesAtSink 2 = .ok (.iload_n 2, 1) := by decide +kernel
theorem dX10_overtakesAtSink_3 : decode cX10_overtakesAtSink 3 = .ok (.invokestatic 152, 3) := by decide +kernel
theorem dX10_overtakesAtSink_6 : decode cX10_overtakesAtSink 6 = .ok (.invokevirtual 170, 3) := by decide +kernel
theorem dX10_overtakesAtSink_9 : decode cX10_overtakesAtSink 9 = .ok (.iconst (-1), 1) := by decide +kernel
theorem dX10_overtakesAtSink_10 : decode cX10_overtakesAtSink 10 = .ok (.if_icmp .ne 4, 3) := by decide +kernel
theorem dX10_overtakesAtSink_13 : decode cX10_overtakesAtSink 13 = .ok (.return_, 1) := by decide +kernel
theorem dX10_overtakesAtSink_14 : decode cX10_overtakesAtSink 14 = .ok (.aload_n 0, 1) := by decide +kernel
theorem dX10_overtakesAtSink_15 : decode cX10_overtakesAtSink 15 = .ok (.iload_n 2, 1) := by decide +kernel
theorem dX10_overtakesAtSink_16 : decode cX10_overtakesAtSink 16 = .ok (.invokevirtual 164, 3) := by decide +kernel
theorem dX10_overtakesAtSink_19 : decode cX10_overtakesAtSink 19 = .ok (.ifCond .ne 8, 3) := by decide +kernel
theorem dX10_overtakesAtSink_22 : decode cX10_overtakesAtSink 22 = .ok (.aload_n 0, 1) := by decide +kernel
theorem dX10_overtakesAtSink_23 : decode cX10_overtakesAtSink 23 = .ok (.iload_n 2, 1) := by decide +kernel
theorem dX10_overtakesAtSink_24 : decode cX10_overtakesAtSink 24 = .ok (.invokevirtual 167, 3) := by decide +kernel
theorem dX10_overtakesAtSink_27 : decode cX10_overtakesAtSink 27 = .ok (.aload_n 0, 1) := by decide +kernel
theorem dX10_overtakesAtSink_28 : decode cX10_overtakesAtSink 28 = .ok (.iload_n 1, 1) := by decide +kernel
theorem dX10_overtakesAtSink_29 : decode cX10_overtakesAtSink 29 = .ok (.iload_n 2, 1) := by decide +kernel
theorem dX10_overtakesAtSink_30 : decode cX10_overtakesAtSink 30 = .ok (.invokestatic 152, 3) := by decide +kernel
theorem dX10_overtakesAtSink_33 : decode cX10_overtakesAtSink 33 = .ok (.iload_n 1, 1) := by decide +kernel
theorem dX10_overtakesAtSink_34 : decode cX10_overtakesAtSink 34 = .ok (.iload_n 2, 1) := by decide +kernel
theorem dX10_overtakesAtSink_35 : decode cX10_overtakesAtSink 35 = .ok (.invokestatic 137, 3) := by decide +kernel
theorem dX10_overtakesAtSink_38 : decode cX10_overtakesAtSink 38 = .ok (.invokevirtual 179, 3) := by decide +kernel
theorem dX10_overtakesAtSink_41 : decode cX10_overtakesAtSink 41 = .ok (.aload_n 0, 1) := by decide +kernel
theorem dX10_overtakesAtSink_42 : decode cX10_overtakesAtSink 42 = .ok (.getfield 21, 3) := by decide +kernel
theorem dX10_overtakesAtSink_45 : decode cX10_overtakesAtSink 45 = .ok (.bipush 90, 2) := by decide +kernel
theorem dX10_overtakesAtSink_47 : decode cX10_overtakesAtSink 47 = .ok (.iload_n 1, 1) := by decide +kernel
theorem dX10_overtakesAtSink_48 : decode cX10_overtakesAtSink 48 = .ok (.iload_n 2, 1) := by decide +kernel
theorem dX10_overtakesAtSink_49 : decode cX10_overtakesAtSink 49 = .ok (.invokestatic 125, 3) := by decide +kernel
theorem dX10_overtakesAtSink_52 : decode cX10_overtakesAtSink 52 = .ok (.iadd, 1) := by decide +kernel
theorem dX10_overtakesAtSink_53 : decode cX10_overtakesAtSink 53 = .ok (.iconst 1, 1) := by decide +kernel
theorem dX10_overtakesAtSink_54 : decode cX10_overtakesAtSink 54 = .ok (.iastore, 1) := by decide +kernel
theorem dX10_overtakesAtSink_55 : decode cX10_overtakesAtSink 55 = .ok (.return_, 1) := by decide +kernel
theorem hyX10_overtakesAtSink : yX10_overtakesAtSink.cls ≠ "java/lang/invoke/MethodHandle" ∧ yX10_overtakesAtSink.cls ≠ "java/lang/invoke/VarHandle" ∧ (parseMethodDescriptor yX10_overtakesAtSink.desc).map (fun d => d.parameters.length) = some 2 := ⟨by decide +kernel, by decide +kernel, by decide +kernel⟩
set_option maxRecDepth 100000 in
set_option maxHeartbeats 4000000 in
theorem wjX10_overtakesAtSink_27 (C : zC p s m args meth c cX10_overtakesAtSink RX10 3 D Ca B En) (hRm : zRm R 4 88 cells slots) (σ : zS) (x0 : Nat) (x1 : Int32) (x2 : Int32)  (τ : zS) (hf : jX10_overtakesAtSink_27 σ x0 x1 x2  = some τ) (hq : ∀ (pc : Nat) (lv : List (Nat × Value)), decode cX10_overtakesAtSink pc = .ok (.return_, 1) → zW p l e R s m args below meth c cells slots Q D Ca B 3 τ N pc lv []) : zW p l e R s m args below meth c cells slots Q D Ca B 3 σ N 27 [(0, .ref x0), (1, .int x1), (2, .int x2)] [] := by
  unfold jX10_overtakesAtSink_27 at hf
  refine z_aload_n C dX10_overtakesAtSink_27 rfl 0 rfl ?_
  refine z_iload_n C dX10_overtakesAtSink_28 rfl 1 rfl ?_
  refine z_iload_n C dX10_overtakesAtSink_29 rfl 2 rfl ?_
  obtain ⟨c4, hc4, hf⟩ := zbind hf
  refine z_callSi (As := [.int x1, .int x2]) (F0 := 4) (L0 := 88) C (mX10_toSink l D Ca B En C.2.2.2.2.2.2.2.1 σ N x1 x2 _ hc4) hRm kw_1496 kw_14 kw_1494 kw_1495 hyX10_toSink (Nat.le_of_ble_eq_true rfl) (Nat.le_of_ble_eq_true rfl) rfl rfl (Nat.le_of_ble_eq_true rfl) dX10_overtakesAtSink_30 ?_
  refine z_iload_n C dX10_overtakesAtSink_33 rfl 1 rfl ?_
  refine z_iload_n C dX10_overtakesAtSink_34 rfl 2 rfl ?_
  obtain ⟨c5, hc5, hf⟩ := zbind hf
  refine z_callSi (As := [.int x1, .int x2]) (F0 := 4) (L0 := 88) C (mX10_keptOut l D Ca B En C.2.2.2.2.2.2.2.1 c4.1 N x1 x2 _ hc5) hRm kw_1421 kw_14 kw_1419 kw_1420 hyX10_keptOut (Nat.le_of_ble_eq_true rfl) (Nat.le_of_ble_eq_true rfl) rfl rfl (Nat.le_of_ble_eq_true rfl) dX10_overtakesAtSink_35 ?_
  obtain ⟨c6, hc6, hf⟩ := zbind hf
  obtain ⟨kc6, hc6⟩ := zck_ok hc6
  refine z_callVv (As := [.int c4.2, .int c5.2]) (F0 := 4) (L0 := 88) C (mX10_keepsAhead l D Ca B En C.2.2.2.2.2.2.2.1 c5.1 N x0 c4.2 c5.2 _ hc6) hRm kc6 rfl kw_1500 kw_14 kw_1497 kw_1499 kp_58 hyX10_keepsAhead (Nat.le_of_ble_eq_true rfl) (Nat.le_of_ble_eq_true rfl) rfl rfl (Nat.le_of_ble_eq_true rfl) dX10_overtakesAtSink_38 ?_
  refine z_aload_n C dX10_overtakesAtSink_41 rfl 0 rfl ?_
  obtain ⟨v7, hv7, hf⟩ := zbind hf
  refine gf_RX10_21 C hv7 dX10_overtakesAtSink_42 ?_
  refine z_bipush C (zi 90) dX10_overtakesAtSink_45 (by decide) ?_
  refine z_iload_n C dX10_overtakesAtSink_47 rfl 1 rfl ?_
  refine z_iload_n C dX10_overtakesAtSink_48 rfl 2 rfl ?_
  obtain ⟨c8, hc8, hf⟩ := zbind hf
  refine z_callSi (As := [.int x1, .int x2]) (F0 := 4) (L0 := 88) C (mX10_channelOut l D Ca B En C.2.2.2.2.2.2.2.1 c6 N x1 x2 _ hc8) hRm kw_1424 kw_14 kw_1422 kw_1423 hyX10_channelOut (Nat.le_of_ble_eq_true rfl) (Nat.le_of_ble_eq_true rfl) rfl rfl (Nat.le_of_ble_eq_true rfl) dX10_overtakesAtSink_49 ?_
  refine z_iadd C dX10_overtakesAtSink_52 ?_
  refine z_iconst C (zi 1) dX10_overtakesAtSink_53 (by decide) ?_
  obtain ⟨σ9, hσ9, hf⟩ := zbind hf
  refine z_sI C hσ9 dX10_overtakesAtSink_54 ?_
  cases hf
  exact hq _ _ dX10_overtakesAtSink_55

set_option maxRecDepth 100000 in
set_option maxHeartbeats 4000000 in
theorem wfX10_overtakesAtSink (C : zC p s m args meth c cX10_overtakesAtSink RX10 3 D Ca B En) (hRm : zRm R 4 88 cells slots) (σ : zS) (x0 : Nat) (x1 : Int32) (x2 : Int32) (τ : zS) (hf : fX10_overtakesAtSink σ x0 x1 x2 = some τ) (hq : ∀ (pc : Nat) (lv : List (Nat × Value)), decode cX10_overtakesAtSink pc = .ok (.return_, 1) → zW p l e R s m args below meth c cells slots Q D Ca B 3 τ N pc lv []) : zW p l e R s m args below meth c cells slots Q D Ca B 3 σ N 0 [(0, .ref x0), (1, .int x1), (2, .int x2)] [] := by
  unfold fX10_overtakesAtSink at hf
  refine z_aload_n C dX10_overtakesAtSink_0 rfl 0 rfl ?_
  refine z_iload_n C dX10_overtakesAtSink_1 rfl 1 rfl ?_
  refine z_iload_n C dX10_overtakesAtSink_2 rfl 2 rfl ?_
  obtain ⟨c1, hc1, hf⟩ := zbind hf
  refine z_callSi (As := [.int x1, .int x2]) (F0 := 4) (L0 := 88) C (mX10_toSink l D Ca B En C.2.2.2.2.2.2.2.1 σ N x1 x2 _ hc1) hRm kw_1496 kw_14 kw_1494 kw_1495 hyX10_toSink (Nat.le_of_ble_eq_true rfl) (Nat.le_of_ble_eq_true rfl) rfl rfl (Nat.le_of_ble_eq_true rfl) dX10_overtakesAtSink_3 ?_
  obtain ⟨c2, hc2, hf⟩ := zbind hf
  obtain ⟨kc2, hc2⟩ := zck_ok hc2
  refine z_callVi (As := [.int c1.2]) (F0 := 4) (L0 := 88) C (mX10_barrierIn l D Ca B En C.2.2.2.2.2.2.2.1 c1.1 N x0 c1.2 _ hc2) hRm kc2 rfl kw_1485 kw_14 kw_1482 kw_1484 kp_55 hyX10_barrierIn (Nat.le_of_ble_eq_true rfl) (Nat.le_of_ble_eq_true rfl) rfl rfl (Nat.le_of_ble_eq_true rfl) dX10_overtakesAtSink_6 ?_
  refine z_iconst C (zi (-1)) dX10_overtakesAtSink_9 (by decide) ?_
  refine z_icmp_ne C 14 dX10_overtakesAtSink_10 (by decide) (fun q12 => ?_) (fun q12 => ?_)
  · rw [if_neg q12] at hf
    refine z_aload_n C dX10_overtakesAtSink_14 rfl 0 rfl ?_
    refine z_iload_n C dX10_overtakesAtSink_15 rfl 2 rfl ?_
    obtain ⟨c3, hc3, hf⟩ := zbind hf
    obtain ⟨kc3, hc3⟩ := zck_ok hc3
    refine z_callVi (As := [.int x2]) (F0 := 4) (L0 := 88) C (mX10_arrivedAtSink l D Ca B En C.2.2.2.2.2.2.2.1 c2.1 N x0 x2 _ hc3) hRm kc3 rfl kw_1536 kw_14 kw_1533 kw_1535 kp_67 hyX10_arrivedAtSink (Nat.le_of_ble_eq_true rfl) (Nat.le_of_ble_eq_true rfl) rfl rfl (Nat.le_of_ble_eq_true rfl) dX10_overtakesAtSink_16 ?_
    refine z_if_ne C 27 dX10_overtakesAtSink_19 (by decide) (fun q11 => ?_) (fun q11 => ?_)
    · rw [if_neg q11] at hf
      refine z_sub [0, 1, 2] rfl ?_
      exact wjX10_overtakesAtSink_27 C hRm _ _ _ _  _ hf hq
    · rw [if_pos q11] at hf
      refine z_aload_n C dX10_overtakesAtSink_22 rfl 0 rfl ?_
      refine z_iload_n C dX10_overtakesAtSink_23 rfl 2 rfl ?_
      obtain ⟨c10, hc10, hf⟩ := zbind hf
      obtain ⟨kc10, hc10⟩ := zck_ok hc10
      refine z_callVv (As := [.int x2]) (F0 := 4) (L0 := 88) C (mX10_closes l D Ca B En C.2.2.2.2.2.2.2.1 c3.1 N x0 x2 _ hc10) hRm kc10 rfl kw_1540 kw_14 kw_1537 kw_1539 kp_68 hyX10_closes (Nat.le_of_ble_eq_true rfl) (Nat.le_of_ble_eq_true rfl) rfl rfl (Nat.le_of_ble_eq_true rfl) dX10_overtakesAtSink_24 ?_
      refine z_sub [0, 1, 2] rfl ?_
      exact wjX10_overtakesAtSink_27 C hRm _ _ _ _  _ hf hq
  · rw [if_pos q12] at hf
    cases hf
    exact hq _ _ dX10_overtakesAtSink_13

theorem mX10_overtakesAtSink (l : Launch) (D : va_G) (Ca : Nat → ClassId) (B : Nat) (En : State → Prop) (hE : zEk B En) (σ : zS) (N : Nat) (x0 : Nat) (x1 : Int32) (x2 : Int32) (X : zS) (hf : fX10_overtakesAtSink σ x0 x1 x2 = some X) : zMv l D Ca B En yX10_overtakesAtSink cX10_overtakesAtSink 3 (Option.none : Option Jvm.ClassFile.FieldType) 4 88 [.ref x0, .int x1, .int x2] σ N X () :=
  zMet_v (own := RX10) hE (by decide +kernel) rfl (Nat.le_of_ble_eq_true rfl) (fun p e s m args below meth c C hr hRm => wfX10_overtakesAtSink C hRm σ x0 x1 x2 X hf (fun pc lv hd => zfin_v (r := ()) C hr hd))
theorem dX10_isComplete_0 : decode cX10_isComplete 0 = .ok (.iconst 0, 1) := by decide +kernel
theorem dX10_isComplete_1 : decode cX10_isComplete 1 = .ok (.istore_n 1, 1) := by decide +kernel
theorem dX10_isComplete_2 : decode cX10_isComplete 2 = .ok (.iload_n 1, 1) := by decide +kernel
theorem dX10_isComplete_3 : decode cX10_isComplete 3 = .ok (.aload_n 0, 1) := by decide +kernel
theorem dX10_isComplete_4 : decode cX10_isComplete 4 = .ok (.getfield 75, 3) := by decide +kernel
theorem dX10_isComplete_7 : decode cX10_isComplete 7 = .ok (.if_icmp .ge 23, 3) := by decide +kernel
theorem dX10_isComplete_10 : decode cX10_isComplete 10 = .ok (.aload_n 0, 1) := by decide +kernel
theorem dX10_isComplete_11 : decode cX10_isComplete 11 = .ok (.getfield 21, 3) := by decide +kernel
theorem dX10_isComplete_14 : decode cX10_isComplete 14 = .ok (.bipush 70, 2) := by decide +kernel
theorem dX10_isComplete_16 : decode cX10_isComplete 16 = .ok (.iload_n 1, 1) := by decide +kernel
theorem dX10_isComplete_17 : decode cX10_isComplete 17 = .ok (.iadd, 1) := by decide +kernel
theorem dX10_isComplete_18 : decode cX10_isComplete 18 = .ok (.iaload, 1) := by decide +kernel
theorem dX10_isComplete_19 : decode cX10_isComplete 19 = .ok (.ifCond .ne 5, 3) := by decide +kernel
theorem dX10_isComplete_22 : decode cX10_isComplete 22 = .ok (.iconst 0, 1) := by decide +kernel
theorem dX10_isComplete_23 : decode cX10_isComplete 23 = .ok (.ireturn, 1) := by decide +kernel
theorem dX10_isComplete_24 : decode cX10_isComplete 24 = .ok (.iinc 1 1, 3) := by decide +kernel
theorem dX10_isComplete_27 : decode cX10_isComplete 27 = .ok (.goto (-25), 3) := by decide +kernel
theorem dX10_isComplete_30 : decode cX10_isComplete 30 = .ok (.iconst 0, 1) := by decide +kernel
theorem dX10_isComplete_31 : decode cX10_isComplete 31 = .ok (.istore_n 1, 1) := by decide +kernel
theorem dX10_isComplete_32 : decode cX10_isComplete 32 = .ok (.iload_n 1, 1) := by decide +kernel
theorem dX10_isComplete_33 : decode cX10_isComplete 33 = .ok (.aload_n 0, 1) := by decide +kernel
theorem dX10_isComplete_34 : decode cX10_isComplete 34 = .ok (.getfield 21, 3) := by decide +kernel
theorem dX10_isComplete_37 : decode cX10_isComplete 37 = .ok (.iconst 1, 1) := by decide +kernel
theorem dX10_isComplete_38 : decode cX10_isComplete 38 = .ok (.iaload, 1) := by decide +kernel
theorem dX10_isComplete_39 : decode cX10_isComplete 39 = .ok (.if_icmp .ge 23, 3) := by decide +kernel
theorem dX10_isComplete_42 : decode cX10_isComplete 42 = .ok (.aload_n 0, 1) := by decide +kernel
theorem dX10_isComplete_43 : decode cX10_isComplete 43 = .ok (.iload_n 1, 1) := by decide +kernel
theorem dX10_isComplete_44 : decode cX10_isComplete 44 = .ok (.invokevirtual 158, 3) := by decide +kernel
theorem dX10_isComplete_47 : decode cX10_isComplete 47 = .ok (.aload_n 0, 1) := by decide +kernel
theorem dX10_isComplete_48 : decode cX10_isComplete 48 = .ok (.getfield 75, 3) := by decide +kernel
theorem dX10_isComplete_51 : decode cX10_isComplete 51 = .ok (.if_icmp .ge 5, 3) := by decide +kernel
theorem dX10_isComplete_54 : decode cX10_isComplete 54 = .ok (.iconst 0, 1) := by decide +kernel
theorem dX10_isComplete_55 : decode cX10_isComplete 55 = .ok (.ireturn, 1) := by decide +kernel
theorem dX10_isComplete_56 : decode cX10_isComplete 56 = .ok (.iinc 1 1, 3) := by decide +kernel
theorem dX10_isComplete_59 : decode cX10_isComplete 59 = .ok (.goto (-27), 3) := by decide +kernel
theorem dX10_isComplete_62 : decode cX10_isComplete 62 = .ok (.iconst 0, 1) := by decide +kernel
theorem dX10_isComplete_63 : decode cX10_isComplete 63 = .ok (.istore_n 1, 1) := by decide +kernel
theorem dX10_isComplete_64 : decode cX10_isComplete 64 = .ok (.iload_n 1, 1) := by decide +kernel
theorem dX10_isComplete_65 : decode cX10_isComplete 65 = .ok (.aload_n 0, 1) := by decide +kernel
theorem dX10_isComplete_66 : decode cX10_isComplete 66 = .ok (.getfield 78, 3) := by decide +kernel
theorem dX10_isComplete_69 : decode cX10_isComplete 69 = .ok (.if_icmp .ge 25, 3) := by decide +kernel
theorem dX10_isComplete_72 : decode cX10_isComplete 72 = .ok (.aload_n 0, 1) := by decide +kernel
theorem dX10_isComplete_73 : decode cX10_isComplete 73 = .ok (.iload_n 1, 1) := by decide +kernel
theorem dX10_isComplete_74 : decode cX10_isComplete 74 = .ok (.invokevirtual 164, 3) := by decide +kernel
theorem dX10_isComplete_77 : decode cX10_isComplete 77 = .ok (.aload_n 0, 1) := by decide +kernel
theorem dX10_isComplete_78 : decode cX10_isComplete 78 = .ok (.getfield 21, 3) := by decide +kernel
theorem dX10_isComplete_81 : decode cX10_isComplete 81 = .ok (.iconst 1, 1) := by decide +kernel
theorem dX10_isComplete_82 : decode cX10_isComplete 82 = .ok (.iaload, 1) := by decide +kernel
theorem dX10_isComplete_83 : decode cX10_isComplete 83 = .ok (.if_icmp .ge 5, 3) := by decide +kernel
theorem dX10_isComplete_86 : decode cX10_isComplete 86 = .ok (.iconst 0, 1) := by decide +kernel
theorem dX10_isComplete_87 : decode cX10_isComplete 87 = .ok (.ireturn, 1) := by decide +kernel
theorem dX10_isComplete_88 : decode cX10_isComplete 88 = .ok (.iinc 1 1, 3) := by decide +kernel
theorem dX10_isComplete_91 : decode cX10_isComplete 91 = .ok (.goto (-27), 3) := by decide +kernel
theorem dX10_isComplete_94 : decode cX10_isComplete 94 = .ok (.iconst 1, 1) := by decide +kernel
theorem dX10_isComplete_95 : decode cX10_isComplete 95 = .ok (.ireturn, 1) := by decide +kernel
theorem hyX10_isComplete : yX10_isComplete.cls ≠ "java/lang/invoke/MethodHandle" ∧ yX10_isComplete.cls ≠ "java/lang/invoke/VarHandle" ∧ (parseMethodDescriptor yX10_isComplete.desc).map (fun d => d.parameters.length) = some 0 := ⟨by decide +kernel, by decide +kernel, by decide +kernel⟩
set_option maxRecDepth 100000 in
set_option maxHeartbeats 4000000 in
theorem wsX10_isComplete_2b (C : zC p s m args meth c cX10_isComplete RX10 2 D Ca B En) (hRm : zRm R 2 44 cells slots) (x0 : Nat) (σ : zS) (u1 : Int32) (y : (zS × Int32) ⊕ (zS ⊕ zS)) (hf : sX10_isComplete_2b x0 σ u1 = some y) (hk : (∀ z : (zS × Int32), y = .inl z → zW p l e R s m args below meth c cells slots Q D Ca B 2 z.1 N 2 [(0, .ref x0), (1, .int z.2)] []) ∧ (∀ z : zS, y = .inr (.inl z) → zW p l e R s m args below meth c cells slots Q D Ca B 2 z N 22 [] []) ∧ (∀ z : zS, y = .inr (.inr z) → zW p l e R s m args below meth c cells slots Q D Ca B 2 z N 30 [(0, .ref x0)] [])) : zW p l e R s m args below meth c cells slots Q D Ca B 2 σ N 2 [(0, .ref x0), (1, .int u1)] [] := by
  unfold sX10_isComplete_2b at hf
  refine z_iload_n C dX10_isComplete_2 rfl 1 rfl ?_
  refine z_aload_n C dX10_isComplete_3 rfl 0 rfl ?_
  obtain ⟨v1, hv1, hf⟩ := zbind hf
  refine gf_RX10_75 C hv1 dX10_isComplete_4 ?_
  refine z_icmp_ge C 30 dX10_isComplete_7 (by decide) (fun q5 => ?_) (fun q5 => ?_)
  · rw [if_pos q5] at hf
    cases hf
    refine z_sub [0] rfl ?_
    exact hk.2.2 _ rfl
  · rw [if_neg q5] at hf
    refine z_aload_n C dX10_isComplete_10 rfl 0 rfl ?_
    obtain ⟨v2, hv2, hf⟩ := zbind hf
    refine gf_RX10_21 C hv2 dX10_isComplete_11 ?_
    refine z_bipush C (zi 70) dX10_isComplete_14 (by decide) ?_
    refine z_iload_n C dX10_isComplete_16 rfl 1 rfl ?_
    refine z_iadd C dX10_isComplete_17 ?_
    obtain ⟨v3, hv3, hf⟩ := zbind hf
    refine z_aI C hv3 dX10_isComplete_18 ?_
    refine z_if_ne C 24 dX10_isComplete_19 (by decide) (fun q4 => ?_) (fun q4 => ?_)
    · rw [if_neg q4] at hf
      refine z_iinc (lv2 := [(1, .int (u1 + (zi 1))), (0, .ref x0)]) C (u1 + (zi 1)) dX10_isComplete_24 1 rfl rfl (by decide) rfl ?_
      refine z_goto C 2 dX10_isComplete_27 (by decide) ?_
      cases hf
      refine z_sub [1, 0] rfl ?_
      exact hk.1 _ rfl
    · rw [if_pos q4] at hf
      cases hf
      refine z_sub [] rfl ?_
      exact hk.2.1 _ rfl

theorem wsX10_isComplete_2 (C : zC p s m args meth c cX10_isComplete RX10 2 D Ca B En) (hRm : zRm R 2 44 cells slots) (x0 : Nat) (n : Nat) (z : (zS × Int32)) (x : (zS ⊕ zS)) (hf : zloop (sX10_isComplete_2 x0) n z = some x) (hk : (∀ o : zS, x = (.inl o) → zW p l e R s m args below meth c cells slots Q D Ca B 2 o N 22 [] []) ∧ (∀ o : zS, x = (.inr o) → zW p l e R s m args below meth c cells slots Q D Ca B 2 o N 30 [(0, .ref x0)] [])) : zW p l e R s m args below meth c cells slots Q D Ca B 2 z.1 N 2 [(0, .ref x0), (1, .int z.2)] [] := by
  refine zloop_W (P := fun z : (zS × Int32) => zW p l e R s m args below meth c cells slots Q D Ca B 2 z.1 N 2 [(0, .ref x0), (1, .int z.2)] []) (K := fun x : (zS ⊕ zS) => (∀ o : zS, x = (.inl o) → zW p l e R s m args below meth c cells slots Q D Ca B 2 o N 22 [] []) ∧ (∀ o : zS, x = (.inr o) → zW p l e R s m args below meth c cells slots Q D Ca B 2 o N 30 [(0, .ref x0)] [])) ?_ n z x hf hk
  intro z y hy h1 h2
  refine wsX10_isComplete_2b C hRm x0 z.1 z.2 y hy ⟨fun z2 e => h1 z2 e, fun o e => (h2 _ e).1 o rfl, fun o e => (h2 _ e).2 o rfl⟩
set_option maxRecDepth 100000 in
set_option maxHeartbeats 4000000 in
theorem wsX10_isComplete_32b (C : zC p s m args meth c cX10_isComplete RX10 2 D Ca B En) (hRm : zRm R 2 44 cells slots) (x0 : Nat) (σ : zS) (u1 : Int32) (y : (zS × Int32) ⊕ (zS ⊕ zS)) (hf : sX10_isComplete_32b x0 σ u1 = some y) (hk : (∀ z : (zS × Int32), y = .inl z → zW p l e R s m args below meth c cells slots Q D Ca B 2 z.1 N 32 [(0, .ref x0), (1, .int z.2)] []) ∧ (∀ z : zS, y = .inr (.inl z) → zW p l e R s m args below meth c cells slots Q D Ca B 2 z N 54 [] []) ∧ (∀ z : zS, y = .inr (.inr z) → zW p l e R s m args below meth c cells slots Q D Ca B 2 z N 62 [(0, .ref x0)] [])) : zW p l e R s m args below meth c cells slots Q D Ca B 2 σ N 32 [(0, .ref x0), (1, .int u1)] [] := by
  unfold sX10_isComplete_32b at hf
  refine z_iload_n C dX10_isComplete_32 rfl 1 rfl ?_
  refine z_aload_n C dX10_isComplete_33 rfl 0 rfl ?_
  obtain ⟨v9, hv9, hf⟩ := zbind hf
  refine gf_RX10_21 C hv9 dX10_isComplete_34 ?_
  refine z_iconst C (zi 1) dX10_isComplete_37 (by decide) ?_
  obtain ⟨v10, hv10, hf⟩ := zbind hf
  refine z_aI C hv10 dX10_isComplete_38 ?_
  refine z_icmp_ge C 62 dX10_isComplete_39 (by decide) (fun q14 => ?_) (fun q14 => ?_)
  · rw [if_pos q14] at hf
    cases hf
    refine z_sub [0] rfl ?_
    exact hk.2.2 _ rfl
  · rw [if_neg q14] at hf
    refine z_aload_n C dX10_isComplete_42 rfl 0 rfl ?_
    refine z_iload_n C dX10_isComplete_43 rfl 1 rfl ?_
    obtain ⟨c11, hc11, hf⟩ := zbind hf
    obtain ⟨kc11, hc11⟩ := zck_ok hc11
    refine z_callVi (As := [.int u1]) (F0 := 2) (L0 := 44) C (mX10_arrivedAt l D Ca B En C.2.2.2.2.2.2.2.1 σ N x0 u1 _ hc11) hRm kc11 rfl kw_1489 kw_14 kw_1486 kw_1488 kp_56 hyX10_arrivedAt (Nat.le_of_ble_eq_true rfl) (Nat.le_of_ble_eq_true rfl) rfl rfl (Nat.le_of_ble_eq_true rfl) dX10_isComplete_44 ?_
    refine z_aload_n C dX10_isComplete_47 rfl 0 rfl ?_
    obtain ⟨v12, hv12, hf⟩ := zbind hf
    refine gf_RX10_75 C hv12 dX10_isComplete_48 ?_
    refine z_icmp_ge C 56 dX10_isComplete_51 (by decide) (fun q13 => ?_) (fun q13 => ?_)
    · rw [if_pos q13] at hf
      refine z_iinc (lv2 := [(1, .int (u1 + (zi 1))), (0, .ref x0)]) C (u1 + (zi 1)) dX10_isComplete_56 1 rfl rfl (by decide) rfl ?_
      refine z_goto C 32 dX10_isComplete_59 (by decide) ?_
      cases hf
      refine z_sub [1, 0] rfl ?_
      exact hk.1 _ rfl
    · rw [if_neg q13] at hf
      cases hf
      refine z_sub [] rfl ?_
      exact hk.2.1 _ rfl

theorem wsX10_isComplete_32 (C : zC p s m args meth c cX10_isComplete RX10 2 D Ca B En) (hRm : zRm R 2 44 cells slots) (x0 : Nat) (n : Nat) (z : (zS × Int32)) (x : (zS ⊕ zS)) (hf : zloop (sX10_isComplete_32 x0) n z = some x) (hk : (∀ o : zS, x = (.inl o) → zW p l e R s m args below meth c cells slots Q D Ca B 2 o N 54 [] []) ∧ (∀ o : zS, x = (.inr o) → zW p l e R s m args below meth c cells slots Q D Ca B 2 o N 62 [(0, .ref x0)] [])) : zW p l e R s m args below meth c cells slots Q D Ca B 2 z.1 N 32 [(0, .ref x0), (1, .int z.2)] [] := by
  refine zloop_W (P := fun z : (zS × Int32) => zW p l e R s m args below meth c cells slots Q D Ca B 2 z.1 N 32 [(0, .ref x0), (1, .int z.2)] []) (K := fun x : (zS ⊕ zS) => (∀ o : zS, x = (.inl o) → zW p l e R s m args below meth c cells slots Q D Ca B 2 o N 54 [] []) ∧ (∀ o : zS, x = (.inr o) → zW p l e R s m args below meth c cells slots Q D Ca B 2 o N 62 [(0, .ref x0)] [])) ?_ n z x hf hk
  intro z y hy h1 h2
  refine wsX10_isComplete_32b C hRm x0 z.1 z.2 y hy ⟨fun z2 e => h1 z2 e, fun o e => (h2 _ e).1 o rfl, fun o e => (h2 _ e).2 o rfl⟩
set_option maxRecDepth 100000 in
set_option maxHeartbeats 4000000 in
theorem wsX10_isComplete_64b (C : zC p s m args meth c cX10_isComplete RX10 2 D Ca B En) (hRm : zRm R 2 44 cells slots) (x0 : Nat) (σ : zS) (u1 : Int32) (y : (zS × Int32) ⊕ (zS ⊕ zS)) (hf : sX10_isComplete_64b x0 σ u1 = some y) (hk : (∀ z : (zS × Int32), y = .inl z → zW p l e R s m args below meth c cells slots Q D Ca B 2 z.1 N 64 [(0, .ref x0), (1, .int z.2)] []) ∧ (∀ z : zS, y = .inr (.inl z) → zW p l e R s m args below meth c cells slots Q D Ca B 2 z N 86 [] []) ∧ (∀ z : zS, y = .inr (.inr z) → zW p l e R s m args below meth c cells slots Q D Ca B 2 z N 94 [] [])) : zW p l e R s m args below meth c cells slots Q D Ca B 2 σ N 64 [(0, .ref x0), (1, .int u1)] [] := by
  unfold sX10_isComplete_64b at hf
  refine z_iload_n C dX10_isComplete_64 rfl 1 rfl ?_
  refine z_aload_n C dX10_isComplete_65 rfl 0 rfl ?_
  obtain ⟨v18, hv18, hf⟩ := zbind hf
  refine gf_RX10_78 C hv18 dX10_isComplete_66 ?_
  refine z_icmp_ge C 94 dX10_isComplete_69 (by decide) (fun q23 => ?_) (fun q23 => ?_)
  · rw [if_pos q23] at hf
    cases hf
    refine z_sub [] rfl ?_
    exact hk.2.2 _ rfl
  · rw [if_neg q23] at hf
    refine z_aload_n C dX10_isComplete_72 rfl 0 rfl ?_
    refine z_iload_n C dX10_isComplete_73 rfl 1 rfl ?_
    obtain ⟨c19, hc19, hf⟩ := zbind hf
    obtain ⟨kc19, hc19⟩ := zck_ok hc19
    refine z_callVi (As := [.int u1]) (F0 := 2) (L0 := 44) C (mX10_arrivedAtSink l D Ca B En C.2.2.2.2.2.2.2.1 σ N x0 u1 _ hc19) hRm kc19 rfl kw_1536 kw_14 kw_1533 kw_1535 kp_67 hyX10_arrivedAtSink (Nat.le_of_ble_eq_true rfl) (Nat.le_of_ble_eq_true rfl) rfl rfl (Nat.le_of_ble_eq_true rfl) dX10_isComplete_74 ?_
    refine z_aload_n C dX10_isComplete_77 rfl 0 rfl ?_
    obtain ⟨v20, hv20, hf⟩ := zbind hf
    refine gf_RX10_21 C hv20 dX10_isComplete_78 ?_
    refine z_iconst C (zi 1) dX10_isComplete_81 (by decide) ?_
    obtain ⟨v21, hv21, hf⟩ := zbind hf
    refine z_aI C hv21 dX10_isComplete_82 ?_
    refine z_icmp_ge C 88 dX10_isComplete_83 (by decide) (fun q22 => ?_) (fun q22 => ?_)
    · rw [if_pos q22] at hf
      refine z_iinc (lv2 := [(1, .int (u1 + (zi 1))), (0, .ref x0)]) C (u1 + (zi 1)) dX10_isComplete_88 1 rfl rfl (by decide) rfl ?_
      refine z_goto C 64 dX10_isComplete_91 (by decide) ?_
      cases hf
      refine z_sub [1, 0] rfl ?_
      exact hk.1 _ rfl
    · rw [if_neg q22] at hf
      cases hf
      refine z_sub [] rfl ?_
      exact hk.2.1 _ rfl

theorem wsX10_isComplete_64 (C : zC p s m args meth c cX10_isComplete RX10 2 D Ca B En) (hRm : zRm R 2 44 cells slots) (x0 : Nat) (n : Nat) (z : (zS × Int32)) (x : (zS ⊕ zS)) (hf : zloop (sX10_isComplete_64 x0) n z = some x) (hk : (∀ o : zS, x = (.inl o) → zW p l e R s m args below meth c cells slots Q D Ca B 2 o N 86 [] []) ∧ (∀ o : zS, x = (.inr o) → zW p l e R s m args below meth c cells slots Q D Ca B 2 o N 94 [] [])) : zW p l e R s m args below meth c cells slots Q D Ca B 2 z.1 N 64 [(0, .ref x0), (1, .int z.2)] [] := by
  refine zloop_W (P := fun z : (zS × Int32) => zW p l e R s m args below meth c cells slots Q D Ca B 2 z.1 N 64 [(0, .ref x0), (1, .int z.2)] []) (K := fun x : (zS ⊕ zS) => (∀ o : zS, x = (.inl o) → zW p l e R s m args below meth c cells slots Q D Ca B 2 o N 86 [] []) ∧ (∀ o : zS, x = (.inr o) → zW p l e R s m args below meth c cells slots Q D Ca B 2 o N 94 [] [])) ?_ n z x hf hk
  intro z y hy h1 h2
  refine wsX10_isComplete_64b C hRm x0 z.1 z.2 y hy ⟨fun z2 e => h1 z2 e, fun o e => (h2 _ e).1 o rfl, fun o e => (h2 _ e).2 o rfl⟩
set_option maxRecDepth 100000 in
set_option maxHeartbeats 4000000 in
theorem wfX10_isComplete (C : zC p s m args meth c cX10_isComplete RX10 2 D Ca B En) (hRm : zRm R 2 44 cells slots) (σ : zS) (x0 : Nat) (τ : zS) (r : Int32) (hf : fX10_isComplete σ x0 = some (τ, r)) (hq : ∀ (pc : Nat) (lv : List (Nat × Value)), (r = 0 ∨ r = 1) → decode cX10_isComplete pc = .ok (.ireturn, 1) → zW p l e R s m args below meth c cells slots Q D Ca B 2 τ N pc lv [.int r]) : zW p l e R s m args below meth c cells slots Q D Ca B 2 σ N 0 [(0, .ref x0)] [] := by
  unfold fX10_isComplete at hf
  refine z_iconst C (zi 0) dX10_isComplete_0 (by decide) ?_
  refine z_istore_n (lv2 := [(1, .int ((zi 0))), (0, .ref x0)]) C dX10_isComplete_1 rfl (by decide) rfl ?_
  obtain ⟨o6, ho6, hf⟩ := zbind hf
  refine z_sub [1, 0] rfl ?_
  refine wsX10_isComplete_2 C hRm _ zfuel (σ, (zi 0)) o6 ho6 ⟨?_, ?_⟩
  · intro z7 e9
    subst e9
    dsimp only at hf
    refine z_iconst C (zi 0) dX10_isComplete_22 (by decide) ?_
    obtain ⟨e9, b9⟩ := zrZ_ok hf
    cases e9
    exact hq _ _ b9 dX10_isComplete_23
  · intro z8 e9
    subst e9
    dsimp only at hf
    refine z_iconst C (zi 0) dX10_isComplete_30 (by decide) ?_
    refine z_istore_n (lv2 := [(1, .int ((zi 0))), (0, .ref x0)]) C dX10_isComplete_31 rfl (by decide) rfl ?_
    obtain ⟨o15, ho15, hf⟩ := zbind hf
    refine z_sub [1, 0] rfl ?_
    refine wsX10_isComplete_32 C hRm _ zfuel (z8, (zi 0)) o15 ho15 ⟨?_, ?_⟩
    · intro z16 e9
      subst e9
      dsimp only at hf
      refine z_iconst C (zi 0) dX10_isComplete_54 (by decide) ?_
      obtain ⟨e9, b9⟩ := zrZ_ok hf
      cases e9
      exact hq _ _ b9 dX10_isComplete_55
    · intro z17 e9
      subst e9
      dsimp only at hf
      refine z_iconst C (zi 0) dX10_isComplete_62 (by decide) ?_
      refine z_istore_n (lv2 := [(1, .int ((zi 0))), (0, .ref x0)]) C dX10_isComplete_63 rfl (by decide) rfl ?_
      obtain ⟨o24, ho24, hf⟩ := zbind hf
      refine z_sub [1, 0] rfl ?_
      refine wsX10_isComplete_64 C hRm _ zfuel (z17, (zi 0)) o24 ho24 ⟨?_, ?_⟩
      · intro z25 e9
        subst e9
        dsimp only at hf
        refine z_iconst C (zi 0) dX10_isComplete_86 (by decide) ?_
        obtain ⟨e9, b9⟩ := zrZ_ok hf
        cases e9
        exact hq _ _ b9 dX10_isComplete_87
      · intro z26 e9
        subst e9
        dsimp only at hf
        refine z_iconst C (zi 1) dX10_isComplete_94 (by decide) ?_
        obtain ⟨e9, b9⟩ := zrZ_ok hf
        cases e9
        exact hq _ _ b9 dX10_isComplete_95

theorem mX10_isComplete (l : Launch) (D : va_G) (Ca : Nat → ClassId) (B : Nat) (En : State → Prop) (hE : zEk B En) (σ : zS) (N : Nat) (x0 : Nat) (X : zS × Int32) (hf : fX10_isComplete σ x0 = some X) : zMi l D Ca B En yX10_isComplete cX10_isComplete 2 (Option.some Jvm.ClassFile.FieldType.boolean) 2 44 [.ref x0] σ N X.1 X.2 :=
  zMet_i (own := RX10) hE (by decide +kernel) rfl (Nat.le_of_ble_eq_true rfl) (fun p e s m args below meth c C hr hRm => wfX10_isComplete C hRm σ x0 X.1 X.2 hf (fun pc lv hb hd => zfin_z C hb hr hd))
theorem dX10_completes_0 : decode cX10_completes 0 = .ok (.aload_n 0, 1) := by decide +kernel
theorem dX10_completes_1 : decode cX10_completes 1 = .ok (.getfield 21, 3) := by decide +kernel
theorem dX10_completes_4 : decode cX10_completes 4 = .ok (.bipush 67, 2) := by decide +kernel
theorem dX10_completes_6 : decode cX10_completes 6 = .ok (.iconst 0, 1) := by decide +kernel
theorem dX10_completes_7 : decode cX10_completes 7 = .ok (.iastore, 1) := by decide +kernel
theorem dX10_completes_8 : decode cX10_completes 8 = .ok (.aload_n 0, 1) := by decide +kernel
theorem dX10_completes_9 : decode cX10_completes 9 = .ok (.getfield 21, 3) := by decide +kernel
theorem dX10_completes_12 : decode cX10_completes 12 = .ok (.bipush 6, 2) := by decide +kernel
theorem dX10_completes_14 : decode cX10_completes 14 = .ok (.aload_n 0, 1) := by decide +kernel
theorem dX10_completes_15 : decode cX10_completes 15 = .ok (.getfield 21, 3) := by decide +kernel
theorem dX10_completes_18 : decode cX10_completes 18 = .ok (.bipush 6, 2) := by decide +kernel
theorem dX10_completes_20 : decode cX10_completes 20 = .ok (.iaload, 1) := by decide +kernel
theorem dX10_completes_21 : decode cX10_completes 21 = .ok (.iconst 1, 1) := by decide +kernel
theorem dX10_completes_22 : decode cX10_completes 22 = .ok (.iadd, 1) := by decide +kernel
theorem dX10_completes_23 : decode cX10_completes 23 = .ok (.iastore, 1) := by decide +kernel
theorem dX10_completes_24 : decode cX10_completes 24 = .ok (.aload_n 0, 1) := by decide +kernel
theorem dX10_completes_25 : decode cX10_completes 25 = .ok (.getfield 21, 3) := by decide +kernel
theorem dX10_completes_28 : decode cX10_completes 28 = .ok (.bipush 118, 2) := by decide +kernel
theorem dX10_completes_30 : decode cX10_completes 30 = .ok (.iconst 1, 1) := by decide +kernel
theorem dX10_completes_31 : decode cX10_completes 31 = .ok (.iastore, 1) := by decide +kernel
theorem dX10_completes_32 : decode cX10_completes 32 = .ok (.aload_n 0, 1) := by decide +kernel
theorem dX10_completes_33 : decode cX10_completes 33 = .ok (.getfield 21, 3) := by decide +kernel
theorem dX10_completes_36 : decode cX10_completes 36 = .ok (.bipush 119, 2) := by decide +kernel
theorem dX10_completes_38 : decode cX10_completes 38 = .ok (.aload_n 0, 1) := by decide +kernel
theorem dX10_completes_39 : decode cX10_completes 39 = .ok (.getfield 21, 3) := by decide +kernel
theorem dX10_completes_42 : decode cX10_completes 42 = .ok (.iconst 5, 1) := by decide +kernel
theorem dX10_completes_43 : decode cX10_completes 43 = .ok (.iaload, 1) := by decide +kernel
theorem dX10_completes_44 : decode cX10_completes 44 = .ok (.iastore, 1) := by decide +kernel
theorem dX10_completes_45 : decode cX10_completes 45 = .ok (.aload_n 0, 1) := by decide +kernel
theorem dX10_completes_46 : decode cX10_completes 46 = .ok (.getfield 21, 3) := by decide +kernel
theorem dX10_completes_49 : decode cX10_completes 49 = .ok (.bipush 120, 2) := by decide +kernel
theorem dX10_completes_51 : decode cX10_completes 51 = .ok (.aload_n 0, 1) := by decide +kernel
theorem dX10_completes_52 : decode cX10_completes 52 = .ok (.getfield 21, 3) := by decide +kernel
theorem dX10_completes_55 : decode cX10_completes 55 = .ok (.bipush 68, 2) := by decide +kernel
theorem dX10_completes_57 : decode cX10_completes 57 = .ok (.iaload, 1) := by decide +kernel
theorem dX10_completes_58 : decode cX10_completes 58 = .ok (.iastore, 1) := by decide +kernel
theorem dX10_completes_59 : decode cX10_completes 59 = .ok (.aload_n 0, 1) := by decide +kernel
theorem dX10_completes_60 : decode cX10_completes 60 = .ok (.getfield 21, 3) := by decide +kernel
theorem dX10_completes_63 : decode cX10_completes 63 = .ok (.bipush 121, 2) := by decide +kernel
theorem dX10_completes_65 : decode cX10_completes 65 = .ok (.aload_n 0, 1) := by decide +kernel
theorem dX10_completes_66 : decode cX10_completes 66 = .ok (.getfield 21, 3) := by decide +kernel
theorem dX10_completes_69 : decode cX10_completes 69 = .ok (.iconst 0, 1) := by decide +kernel
theorem dX10_completes_70 : decode cX10_completes 70 = .ok (.iaload, 1) := by decide +kernel
theorem dX10_completes_71 : decode cX10_completes 71 = .ok (.iastore, 1) := by decide +kernel
theorem dX10_completes_72 : decode cX10_completes 72 = .ok (.aload_n 0, 1) := by decide +kernel
theorem dX10_completes_73 : decode cX10_completes 73 = .ok (.getfield 21, 3) := by decide +kernel
theorem dX10_completes_76 : decode cX10_completes 76 = .ok (.bipush 122, 2) := by decide +kernel
theorem dX10_completes_78 : decode cX10_completes 78 = .ok (.aload_n 0, 1) := by decide +kernel
theorem dX10_completes_79 : decode cX10_completes 79 = .ok (.getfield 21, 3) := by decide +kernel
theorem dX10_completes_82 : decode cX10_completes 82 = .ok (.bipush 69, 2) := by decide +kernel
theorem dX10_completes_84 : decode cX10_completes 84 = .ok (.iaload, 1) := by decide +kernel
theorem dX10_completes_85 : decode cX10_completes 85 = .ok (.iastore, 1) := by decide +kernel
theorem dX10_completes_86 : decode cX10_completes 86 = .ok (.aload_n 0, 1) := by decide +kernel
theorem dX10_completes_87 : decode cX10_completes 87 = .ok (.getfield 21, 3) := by decide +kernel
theorem dX10_completes_90 : decode cX10_completes 90 = .ok (.bipush 123, 2) := by decide +kernel
theorem dX10_completes_92 : decode cX10_completes 92 = .ok (.iconst 0, 1) := by decide +kernel
theorem dX10_completes_93 : decode cX10_completes 93 = .ok (.iastore, 1) := by decide +kernel
theorem dX10_completes_94 : decode cX10_completes 94 = .ok (.iconst 0, 1) := by decide +kernel
theorem dX10_completes_95 : decode cX10_completes 95 = .ok (.istore_n 1, 1) := by decide +kernel
theorem dX10_completes_96 : decode cX10_completes 96 = .ok (.iload_n 1, 1) := by decide +kernel
theorem dX10_completes_97 : decode cX10_completes 97 = .ok (.iconst 4, 1) := by decide +kernel
theorem dX10_completes_98 : decode cX10_completes 98 = .ok (.if_icmp .ge 27, 3) := by decide +kernel
theorem dX10_completes_101 : decode cX10_completes 101 = .ok (.aload_n 0, 1) := by decide +kernel
theorem dX10_completes_102 : decode cX10_completes 102 = .ok (.getfield 21, 3) := by decide +kernel
theorem dX10_completes_105 : decode cX10_completes 105 = .ok (.bipush 124, 2) := by decide +kernel
theorem dX10_completes_107 : decode cX10_completes 107 = .ok (.iload_n 1, 1) := by decide +kernel
theorem dX10_completes_108 : decode cX10_completes 108 = .ok (.iadd, 1) := by decide +kernel
theorem dX10_completes_109 : decode cX10_completes 109 = .ok (.aload_n 0, 1) := by decide +kernel
theorem dX10_completes_110 : decode cX10_completes 110 = .ok (.getfield 21, 3) := by decide +kernel
theorem dX10_completes_113 : decode cX10_completes 113 = .ok (.bipush 98, 2) := by decide +kernel
theorem dX10_completes_115 : decode cX10_completes 115 = .ok (.iload_n 1, 1) := by decide +kernel
theorem dX10_completes_116 : decode cX10_completes 116 = .ok (.iadd, 1) := by decide +kernel
theorem dX10_completes_117 : decode cX10_completes 117 = .ok (.iaload, 1) := by decide +kernel
theorem dX10_completes_118 : decode cX10_completes 118 = .ok (.iastore, 1) := by decide +kernel
theorem dX10_completes_119 : decode cX10_completes 119 = .ok (.iinc 1 1, 3) := by decide +kernel
theorem dX10_completes_122 : decode cX10_completes 122 = .ok (.goto (-26), 3) := by decide +kernel
theorem dX10_completes_125 : decode cX10_completes 125 = .ok (.iconst 0, 1) := by decide +kernel
theorem dX10_completes_126 : decode cX10_completes 126 = .ok (.istore_n 1, 1) := by decide +kernel
theorem dX10_completes_127 : decode cX10_completes 127 = .ok (.iload_n 1, 1) := by decide +kernel
theorem dX10_completes_128 : decode cX10_completes 128 = .ok (.bipush 16, 2) := by decide +kernel
theorem dX10_completes_130 : decode cX10_completes 130 = .ok (.if_icmp .ge 28, 3) := by decide +kernel
theorem dX10_completes_133 : decode cX10_completes 133 = .ok (.aload_n 0, 1) := by decide +kernel
theorem dX10_completes_134 : decode cX10_completes 134 = .ok (.getfield 21, 3) := by decide +kernel
theorem dX10_completes_137 : decode cX10_completes 137 = .ok (.sipush 128, 3) := by decide +kernel
theorem dX10_completes_140 : decode cX10_completes 140 = .ok (.iload_n 1, 1) := by decide +kernel
theorem dX10_completes_141 : decode cX10_completes 141 = .ok (.iadd, 1) := by decide +kernel
theorem dX10_completes_142 : decode cX10_completes 142 = .ok (.aload_n 0, 1) := by decide +kernel
theorem dX10_completes_143 : decode cX10_completes 143 = .ok (.getfield 21, 3) := by decide +kernel
theorem dX10_completes_146 : decode cX10_completes 146 = .ok (.bipush 102, 2) := by decide +kernel
theorem dX10_completes_148 : decode cX10_completes 148 = .ok (.iload_n 1, 1) := by decide +kernel
theorem dX10_completes_149 : decode cX10_completes 149 = .ok (.iadd, 1) := by decide +kernel
theorem dX10_completes_150 : decode cX10_completes 150 = .ok (.iaload, 1) := by decide +kernel
theorem dX10_completes_151 : decode cX10_completes 151 = .ok (.iastore, 1) := by decide +kernel
theorem dX10_completes_152 : decode cX10_completes 152 = .ok (.iinc 1 1, 3) := by decide +kernel
theorem dX10_completes_155 : decode cX10_completes 155 = .ok (.goto (-28), 3) := by decide +kernel
theorem dX10_completes_158 : decode cX10_completes 158 = .ok (.aload_n 0, 1) := by decide +kernel
theorem dX10_completes_159 : decode cX10_completes 159 = .ok (.invokevirtual 182, 3) := by decide +kernel
theorem dX10_completes_162 : decode cX10_completes 162 = .ok (.return_, 1) := by decide +kernel
theorem hyX10_completes : yX10_completes.cls ≠ "java/lang/invoke/MethodHandle" ∧ yX10_completes.cls ≠ "java/lang/invoke/VarHandle" ∧ (parseMethodDescriptor yX10_completes.desc).map (fun d => d.parameters.length) = some 0 := ⟨by decide +kernel, by decide +kernel, by decide +kernel⟩
set_option maxRecDepth 100000 in
set_option maxHeartbeats 4000000 in
theorem wsX10_completes_96b (C : zC p s m args meth c cX10_completes RX10 2 D Ca B En) (hRm : zRm R 4 89 cells slots) (x0 : Nat) (σ : zS) (u1 : Int32) (y : (zS × Int32) ⊕ zS) (hf : sX10_completes_96b x0 σ u1 = some y) (hk : (∀ z : (zS × Int32), y = .inl z → zW p l e R s m args below meth c cells slots Q D Ca B 2 z.1 N 96 [(0, .ref x0), (1, .int z.2)] []) ∧ (∀ z : zS, y = .inr z → zW p l e R s m args below meth c cells slots Q D Ca B 2 z N 125 [(0, .ref x0)] [])) : zW p l e R s m args below meth c cells slots Q D Ca B 2 σ N 96 [(0, .ref x0), (1, .int u1)] [] := by
  unfold sX10_completes_96b at hf
  refine z_iload_n C dX10_completes_96 rfl 1 rfl ?_
  refine z_iconst C (zi 4) dX10_completes_97 (by decide) ?_
  refine z_icmp_ge C 125 dX10_completes_98 (by decide) (fun q31 => ?_) (fun q31 => ?_)
  · rw [if_pos q31] at hf
    cases hf
    refine z_sub [0] rfl ?_
    exact hk.2 _ rfl
  · rw [if_neg q31] at hf
    refine z_aload_n C dX10_completes_101 rfl 0 rfl ?_
    obtain ⟨v27, hv27, hf⟩ := zbind hf
    refine gf_RX10_21 C hv27 dX10_completes_102 ?_
    refine z_bipush C (zi 124) dX10_completes_105 (by decide) ?_
    refine z_iload_n C dX10_completes_107 rfl 1 rfl ?_
    refine z_iadd C dX10_completes_108 ?_
    refine z_aload_n C dX10_completes_109 rfl 0 rfl ?_
    obtain ⟨v28, hv28, hf⟩ := zbind hf
    refine gf_RX10_21 C hv28 dX10_completes_110 ?_
    refine z_bipush C (zi 98) dX10_completes_113 (by decide) ?_
    refine z_iload_n C dX10_completes_115 rfl 1 rfl ?_
    refine z_iadd C dX10_completes_116 ?_
    obtain ⟨v29, hv29, hf⟩ := zbind hf
    refine z_aI C hv29 dX10_completes_117 ?_
    obtain ⟨σ30, hσ30, hf⟩ := zbind hf
    refine z_sI C hσ30 dX10_completes_118 ?_
    refine z_iinc (lv2 := [(1, .int (u1 + (zi 1))), (0, .ref x0)]) C (u1 + (zi 1)) dX10_completes_119 1 rfl rfl (by decide) rfl ?_
    refine z_goto C 96 dX10_completes_122 (by decide) ?_
    cases hf
    refine z_sub [1, 0] rfl ?_
    exact hk.1 _ rfl

theorem wsX10_completes_96 (C : zC p s m args meth c cX10_completes RX10 2 D Ca B En) (hRm : zRm R 4 89 cells slots) (x0 : Nat) (n : Nat) (z : (zS × Int32)) (x : zS) (hf : zloop (sX10_completes_96 x0) n z = some x) (hk : (∀ o : zS, x = o → zW p l e R s m args below meth c cells slots Q D Ca B 2 o N 125 [(0, .ref x0)] [])) : zW p l e R s m args below meth c cells slots Q D Ca B 2 z.1 N 96 [(0, .ref x0), (1, .int z.2)] [] := by
  refine zloop_W (P := fun z : (zS × Int32) => zW p l e R s m args below meth c cells slots Q D Ca B 2 z.1 N 96 [(0, .ref x0), (1, .int z.2)] []) (K := fun x : zS => (∀ o : zS, x = o → zW p l e R s m args below meth c cells slots Q D Ca B 2 o N 125 [(0, .ref x0)] [])) ?_ n z x hf hk
  intro z y hy h1 h2
  refine wsX10_completes_96b C hRm x0 z.1 z.2 y hy ⟨fun z2 e => h1 z2 e, fun o e => (h2 _ e) o rfl⟩
set_option maxRecDepth 100000 in
set_option maxHeartbeats 4000000 in
theorem wsX10_completes_127b (C : zC p s m args meth c cX10_completes RX10 2 D Ca B En) (hRm : zRm R 4 89 cells slots) (x0 : Nat) (σ : zS) (u1 : Int32) (y : (zS × Int32) ⊕ zS) (hf : sX10_completes_127b x0 σ u1 = some y) (hk : (∀ z : (zS × Int32), y = .inl z → zW p l e R s m args below meth c cells slots Q D Ca B 2 z.1 N 127 [(0, .ref x0), (1, .int z.2)] []) ∧ (∀ z : zS, y = .inr z → zW p l e R s m args below meth c cells slots Q D Ca B 2 z N 158 [(0, .ref x0)] [])) : zW p l e R s m args below meth c cells slots Q D Ca B 2 σ N 127 [(0, .ref x0), (1, .int u1)] [] := by
  unfold sX10_completes_127b at hf
  refine z_iload_n C dX10_completes_127 rfl 1 rfl ?_
  refine z_bipush C (zi 16) dX10_completes_128 (by decide) ?_
  refine z_icmp_ge C 158 dX10_completes_130 (by decide) (fun q37 => ?_) (fun q37 => ?_)
  · rw [if_pos q37] at hf
    cases hf
    refine z_sub [0] rfl ?_
    exact hk.2 _ rfl
  · rw [if_neg q37] at hf
    refine z_aload_n C dX10_completes_133 rfl 0 rfl ?_
    obtain ⟨v33, hv33, hf⟩ := zbind hf
    refine gf_RX10_21 C hv33 dX10_completes_134 ?_
    refine z_sipush C (zi 128) dX10_completes_137 (by decide) ?_
    refine z_iload_n C dX10_completes_140 rfl 1 rfl ?_
    refine z_iadd C dX10_completes_141 ?_
    refine z_aload_n C dX10_completes_142 rfl 0 rfl ?_
    obtain ⟨v34, hv34, hf⟩ := zbind hf
    refine gf_RX10_21 C hv34 dX10_completes_143 ?_
    refine z_bipush C (zi 102) dX10_completes_146 (by decide) ?_
    refine z_iload_n C dX10_completes_148 rfl 1 rfl ?_
    refine z_iadd C dX10_completes_149 ?_
    obtain ⟨v35, hv35, hf⟩ := zbind hf
    refine z_aI C hv35 dX10_completes_150 ?_
    obtain ⟨σ36, hσ36, hf⟩ := zbind hf
    refine z_sI C hσ36 dX10_completes_151 ?_
    refine z_iinc (lv2 := [(1, .int (u1 + (zi 1))), (0, .ref x0)]) C (u1 + (zi 1)) dX10_completes_152 1 rfl rfl (by decide) rfl ?_
    refine z_goto C 127 dX10_completes_155 (by decide) ?_
    cases hf
    refine z_sub [1, 0] rfl ?_
    exact hk.1 _ rfl

theorem wsX10_completes_127 (C : zC p s m args meth c cX10_completes RX10 2 D Ca B En) (hRm : zRm R 4 89 cells slots) (x0 : Nat) (n : Nat) (z : (zS × Int32)) (x : zS) (hf : zloop (sX10_completes_127 x0) n z = some x) (hk : (∀ o : zS, x = o → zW p l e R s m args below meth c cells slots Q D Ca B 2 o N 158 [(0, .ref x0)] [])) : zW p l e R s m args below meth c cells slots Q D Ca B 2 z.1 N 127 [(0, .ref x0), (1, .int z.2)] [] := by
  refine zloop_W (P := fun z : (zS × Int32) => zW p l e R s m args below meth c cells slots Q D Ca B 2 z.1 N 127 [(0, .ref x0), (1, .int z.2)] []) (K := fun x : zS => (∀ o : zS, x = o → zW p l e R s m args below meth c cells slots Q D Ca B 2 o N 158 [(0, .ref x0)] [])) ?_ n z x hf hk
  intro z y hy h1 h2
  refine wsX10_completes_127b C hRm x0 z.1 z.2 y hy ⟨fun z2 e => h1 z2 e, fun o e => (h2 _ e) o rfl⟩
set_option maxRecDepth 100000 in
set_option maxHeartbeats 4000000 in
theorem wfX10_completes (C : zC p s m args meth c cX10_completes RX10 2 D Ca B En) (hRm : zRm R 4 89 cells slots) (σ : zS) (x0 : Nat) (τ : zS) (hf : fX10_completes σ x0 = some τ) (hq : ∀ (pc : Nat) (lv : List (Nat × Value)), decode cX10_completes pc = .ok (.return_, 1) → zW p l e R s m args below meth c cells slots Q D Ca B 2 τ N pc lv []) : zW p l e R s m args below meth c cells slots Q D Ca B 2 σ N 0 [(0, .ref x0)] [] := by
  unfold fX10_completes at hf
  refine z_aload_n C dX10_completes_0 rfl 0 rfl ?_
  obtain ⟨v1, hv1, hf⟩ := zbind hf
  refine gf_RX10_21 C hv1 dX10_completes_1 ?_
  refine z_bipush C (zi 67) dX10_completes_4 (by decide) ?_
  refine z_iconst C (zi 0) dX10_completes_6 (by decide) ?_
  obtain ⟨σ2, hσ2, hf⟩ := zbind hf
  refine z_sI C hσ2 dX10_completes_7 ?_
  refine z_aload_n C dX10_completes_8 rfl 0 rfl ?_
  obtain ⟨v3, hv3, hf⟩ := zbind hf
  refine gf_RX10_21 C hv3 dX10_completes_9 ?_
  refine z_bipush C (zi 6) dX10_completes_12 (by decide) ?_
  refine z_aload_n C dX10_completes_14 rfl 0 rfl ?_
  obtain ⟨v4, hv4, hf⟩ := zbind hf
  refine gf_RX10_21 C hv4 dX10_completes_15 ?_
  refine z_bipush C (zi 6) dX10_completes_18 (by decide) ?_
  obtain ⟨v5, hv5, hf⟩ := zbind hf
  refine z_aI C hv5 dX10_completes_20 ?_
  refine z_iconst C (zi 1) dX10_completes_21 (by decide) ?_
  refine z_iadd C dX10_completes_22 ?_
  obtain ⟨σ6, hσ6, hf⟩ := zbind hf
  refine z_sI C hσ6 dX10_completes_23 ?_
  refine z_aload_n C dX10_completes_24 rfl 0 rfl ?_
  obtain ⟨v7, hv7, hf⟩ := zbind hf
  refine gf_RX10_21 C hv7 dX10_completes_25 ?_
  refine z_bipush C (zi 118) dX10_completes_28 (by decide) ?_
  refine z_iconst C (zi 1) dX10_completes_30 (by decide) ?_
  obtain ⟨σ8, hσ8, hf⟩ := zbind hf
  refine z_sI C hσ8 dX10_completes_31 ?_
  refine z_aload_n C dX10_completes_32 rfl 0 rfl ?_
  obtain ⟨v9, hv9, hf⟩ := zbind hf
  refine gf_RX10_21 C hv9 dX10_completes_33 ?_
  refine z_bipush C (zi 119) dX10_completes_36 (by decide) ?_
  refine z_aload_n C dX10_completes_38 rfl 0 rfl ?_
  obtain ⟨v10, hv10, hf⟩ := zbind hf
  refine gf_RX10_21 C hv10 dX10_completes_39 ?_
  refine z_iconst C (zi 5) dX10_completes_42 (by decide) ?_
  obtain ⟨v11, hv11, hf⟩ := zbind hf
  refine z_aI C hv11 dX10_completes_43 ?_
  obtain ⟨σ12, hσ12, hf⟩ := zbind hf
  refine z_sI C hσ12 dX10_completes_44 ?_
  refine z_aload_n C dX10_completes_45 rfl 0 rfl ?_
  obtain ⟨v13, hv13, hf⟩ := zbind hf
  refine gf_RX10_21 C hv13 dX10_completes_46 ?_
  refine z_bipush C (zi 120) dX10_completes_49 (by decide) ?_
  refine z_aload_n C dX10_completes_51 rfl 0 rfl ?_
  obtain ⟨v14, hv14, hf⟩ := zbind hf
  refine gf_RX10_21 C hv14 dX10_completes_52 ?_
  refine z_bipush C (zi 68) dX10_completes_55 (by decide) ?_
  obtain ⟨v15, hv15, hf⟩ := zbind hf
  refine z_aI C hv15 dX10_completes_57 ?_
  obtain ⟨σ16, hσ16, hf⟩ := zbind hf
  refine z_sI C hσ16 dX10_completes_58 ?_
  refine z_aload_n C dX10_completes_59 rfl 0 rfl ?_
  obtain ⟨v17, hv17, hf⟩ := zbind hf
  refine gf_RX10_21 C hv17 dX10_completes_60 ?_
  refine z_bipush C (zi 121) dX10_completes_63 (by decide) ?_
  refine z_aload_n C dX10_completes_65 rfl 0 rfl ?_
  obtain ⟨v18, hv18, hf⟩ := zbind hf
  refine gf_RX10_21 C hv18 dX10_completes_66 ?_
  refine z_iconst C (zi 0) dX10_completes_69 (by decide) ?_
  obtain ⟨v19, hv19, hf⟩ := zbind hf
  refine z_aI C hv19 dX10_completes_70 ?_
  obtain ⟨σ20, hσ20, hf⟩ := zbind hf
  refine z_sI C hσ20 dX10_completes_71 ?_
  refine z_aload_n C dX10_completes_72 rfl 0 rfl ?_
  obtain ⟨v21, hv21, hf⟩ := zbind hf
  refine gf_RX10_21 C hv21 dX10_completes_73 ?_
  refine z_bipush C (zi 122) dX10_completes_76 (by decide) ?_
  refine z_aload_n C dX10_completes_78 rfl 0 rfl ?_
  obtain ⟨v22, hv22, hf⟩ := zbind hf
  refine gf_RX10_21 C hv22 dX10_completes_79 ?_
  refine z_bipush C (zi 69) dX10_completes_82 (by decide) ?_
  obtain ⟨v23, hv23, hf⟩ := zbind hf
  refine z_aI C hv23 dX10_completes_84 ?_
  obtain ⟨σ24, hσ24, hf⟩ := zbind hf
  refine z_sI C hσ24 dX10_completes_85 ?_
  refine z_aload_n C dX10_completes_86 rfl 0 rfl ?_
  obtain ⟨v25, hv25, hf⟩ := zbind hf
  refine gf_RX10_21 C hv25 dX10_completes_87 ?_
  refine z_bipush C (zi 123) dX10_completes_90 (by decide) ?_
  refine z_iconst C (zi 0) dX10_completes_92 (by decide) ?_
  obtain ⟨σ26, hσ26, hf⟩ := zbind hf
  refine z_sI C hσ26 dX10_completes_93 ?_
  refine z_iconst C (zi 0) dX10_completes_94 (by decide) ?_
  refine z_istore_n (lv2 := [(1, .int ((zi 0))), (0, .ref x0)]) C dX10_completes_95 rfl (by decide) rfl ?_
  obtain ⟨o32, ho32, hf⟩ := zbind hf
  refine z_sub [1, 0] rfl ?_
  refine wsX10_completes_96 C hRm _ zfuel (σ26, (zi 0)) o32 ho32 ?_
  intro z9 e9
  subst e9
  refine z_iconst C (zi 0) dX10_completes_125 (by decide) ?_
  refine z_istore_n (lv2 := [(1, .int ((zi 0))), (0, .ref x0)]) C dX10_completes_126 rfl (by decide) rfl ?_
  obtain ⟨o38, ho38, hf⟩ := zbind hf
  refine z_sub [1, 0] rfl ?_
  refine wsX10_completes_127 C hRm _ zfuel (o32, (zi 0)) o38 ho38 ?_
  intro z9 e9
  subst e9
  refine z_aload_n C dX10_completes_158 rfl 0 rfl ?_
  obtain ⟨c39, hc39, hf⟩ := zbind hf
  obtain ⟨kc39, hc39⟩ := zck_ok hc39
  refine z_callVv (As := []) (F0 := 4) (L0 := 89) C (mX10_laysKept l D Ca B En C.2.2.2.2.2.2.2.1 o38 N x0  _ hc39) hRm kc39 rfl kw_1568 kw_14 kw_1565 kw_1567 kp_75 hyX10_laysKept (Nat.le_of_ble_eq_true rfl) (Nat.le_of_ble_eq_true rfl) rfl rfl (Nat.le_of_ble_eq_true rfl) dX10_completes_159 ?_
  cases hf
  exact hq _ _ dX10_completes_162

theorem mX10_completes (l : Launch) (D : va_G) (Ca : Nat → ClassId) (B : Nat) (En : State → Prop) (hE : zEk B En) (σ : zS) (N : Nat) (x0 : Nat) (X : zS) (hf : fX10_completes σ x0 = some X) : zMv l D Ca B En yX10_completes cX10_completes 2 (Option.none : Option Jvm.ClassFile.FieldType) 4 89 [.ref x0] σ N X () :=
  zMet_v (own := RX10) hE (by decide +kernel) rfl (Nat.le_of_ble_eq_true rfl) (fun p e s m args below meth c C hr hRm => wfX10_completes C hRm σ x0 X hf (fun pc lv hd => zfin_v (r := ()) C hr hd))
theorem dX10_shows_0 : decode cX10_shows 0 = .ok (.aload_n 0, 1) := by decide +kernel
theorem dX10_shows_1 : decode cX10_shows 1 = .ok (.getfield 21, 3) := by decide +kernel
theorem dX10_shows_4 : decode cX10_shows 4 = .ok (.bipush 118, 2) := by decide +kernel
theorem dX10_shows_6 : decode cX10_shows 6 = .ok (.iaload, 1) := by decide +kernel
theorem dX10_shows_7 : decode cX10_shows 7 = .ok (.ifCond .eq 14, 3) := by decide +kernel
theorem dX10_shows_10 : decode cX10_shows 10 = .ok (.aload_n 0, 1) := by decide +kernel
theorem dX10_shows_11 : decode cX10_shows 11 = .ok (.getfield 21, 3) := by decide +kernel
theorem dX10_shows_14 : decode cX10_shows 14 = .ok (.bipush 123, 2) := by decide +kernel
theorem dX10_shows_16 : decode cX10_shows 16 = .ok (.iaload, 1) := by decide +kernel
theorem dX10_shows_17 : decode cX10_shows 17 = .ok (.iconst 1, 1) := by decide +kernel
theorem dX10_shows_18 : decode cX10_shows 18 = .ok (.if_icmp .ne 4, 3) := by decide +kernel
theorem dX10_shows_21 : decode cX10_shows 21 = .ok (.return_, 1) := by decide +kernel
theorem dX10_shows_22 : decode cX10_shows 22 = .ok (.aload_n 0, 1) := by decide +kernel
theorem dX10_shows_23 : decode cX10_shows 23 = .ok (.getfield 21, 3) := by decide +kernel
theorem dX10_shows_26 : decode cX10_shows 26 = .ok (.bipush 123, 2) := by decide +kernel
theorem dX10_shows_28 : decode cX10_shows 28 = .ok (.iconst 1, 1) := by decide +kernel
theorem dX10_shows_29 : decode cX10_shows 29 = .ok (.iastore, 1) := by decide +kernel
theorem dX10_shows_30 : decode cX10_shows 30 = .ok (.iconst 0, 1) := by decide +kernel
theorem dX10_shows_31 : decode cX10_shows 31 = .ok (.istore_n 1, 1) := by decide +kernel
theorem dX10_shows_32 : decode cX10_shows 32 = .ok (.iload_n 1, 1) := by decide +kernel
theorem dX10_shows_33 : decode cX10_shows 33 = .ok (.aload_n 0, 1) := by decide +kernel
theorem dX10_shows_34 : decode cX10_shows 34 = .ok (.getfield 78, 3) := by decide +kernel
theorem dX10_shows_37 : decode cX10_shows 37 = .ok (.if_icmp .ge 38, 3) := by decide +kernel
theorem dX10_shows_40 : decode cX10_shows 40 = .ok (.aload_n 0, 1) := by decide +kernel
theorem dX10_shows_41 : decode cX10_shows 41 = .ok (.sipush 11394, 3) := by decide +kernel
theorem dX10_shows_44 : decode cX10_shows 44 = .ok (.iload_n 1, 1) := by decide +kernel
theorem dX10_shows_45 : decode cX10_shows 45 = .ok (.invokestatic 155, 3) := by decide +kernel
theorem dX10_shows_48 : decode cX10_shows 48 = .ok (.sipush 12996, 3) := by decide +kernel
theorem dX10_shows_51 : decode cX10_shows 51 = .ok (.iload_n 1, 1) := by decide +kernel
theorem dX10_shows_52 : decode cX10_shows 52 = .ok (.invokestatic 155, 3) := by decide +kernel
theorem dX10_shows_55 : decode cX10_shows 55 = .ok (.invokevirtual 112, 3) := by decide +kernel
theorem dX10_shows_58 : decode cX10_shows 58 = .ok (.aload_n 0, 1) := by decide +kernel
theorem dX10_shows_59 : decode cX10_shows 59 = .ok (.sipush 11394, 3) := by decide +kernel
theorem dX10_shows_62 : decode cX10_shows 62 = .ok (.iload_n 1, 1) := by decide +kernel
theorem dX10_shows_63 : decode cX10_shows 63 = .ok (.invokestatic 155, 3) := by decide +kernel
theorem dX10_shows_66 : decode cX10_shows 66 = .ok (.invokevirtual 108, 3) := by decide +kernel
theorem dX10_shows_69 : decode cX10_shows 69 = .ok (.iinc 1 1, 3) := by decide +kernel
theorem dX10_shows_72 : decode cX10_shows 72 = .ok (.goto (-40), 3) := by decide +kernel
theorem dX10_shows_75 : decode cX10_shows 75 = .ok (.return_, 1) := by decide +kernel
theorem hyX10_shows : yX10_shows.cls ≠ "java/lang/invoke/MethodHandle" ∧ yX10_shows.cls ≠ "java/lang/invoke/VarHandle" ∧ (parseMethodDescriptor yX10_shows.desc).map (fun d => d.parameters.length) = some 0 := ⟨by decide +kernel, by decide +kernel, by decide +kernel⟩
set_option maxRecDepth 100000 in
set_option maxHeartbeats 4000000 in
theorem wsX10_shows_32b (C : zC p s m args meth c cX10_shows RX10 2 D Ca B En) (hRm : zRm R 2 45 cells slots) (x0 : Nat) (σ : zS) (u1 : Int32) (y : (zS × Int32) ⊕ zS) (hf : sX10_shows_32b x0 σ u1 = some y) (hk : (∀ z : (zS × Int32), y = .inl z → zW p l e R s m args below meth c cells slots Q D Ca B 2 z.1 N 32 [(0, .ref x0), (1, .int z.2)] []) ∧ (∀ z : zS, y = .inr z → zW p l e R s m args below meth c cells slots Q D Ca B 2 z N 75 [] [])) : zW p l e R s m args below meth c cells slots Q D Ca B 2 σ N 32 [(0, .ref x0), (1, .int u1)] [] := by
  unfold sX10_shows_32b at hf
  refine z_iload_n C dX10_shows_32 rfl 1 rfl ?_
  refine z_aload_n C dX10_shows_33 rfl 0 rfl ?_
  obtain ⟨v7, hv7, hf⟩ := zbind hf
  refine gf_RX10_78 C hv7 dX10_shows_34 ?_
  refine z_icmp_ge C 75 dX10_shows_37 (by decide) (fun q13 => ?_) (fun q13 => ?_)
  · rw [if_pos q13] at hf
    cases hf
    refine z_sub [] rfl ?_
    exact hk.2 _ rfl
  · rw [if_neg q13] at hf
    refine z_aload_n C dX10_shows_40 rfl 0 rfl ?_
    refine z_sipush C (zi 11394) dX10_shows_41 (by decide) ?_
    refine z_iload_n C dX10_shows_44 rfl 1 rfl ?_
    obtain ⟨c8, hc8, hf⟩ := zbind hf
    refine z_callSi (As := [.int ((zi 11394)), .int u1]) (F0 := 2) (L0 := 45) C (mX10_results l D Ca B En C.2.2.2.2.2.2.2.1 σ N ((zi 11394)) u1 _ hc8) hRm kw_1431 kw_14 kw_1429 kw_1430 hyX10_results (Nat.le_of_ble_eq_true rfl) (Nat.le_of_ble_eq_true rfl) rfl rfl (Nat.le_of_ble_eq_true rfl) dX10_shows_45 ?_
    refine z_sipush C (zi 12996) dX10_shows_48 (by decide) ?_
    refine z_iload_n C dX10_shows_51 rfl 1 rfl ?_
    obtain ⟨c9, hc9, hf⟩ := zbind hf
    refine z_callSi (As := [.int ((zi 12996)), .int u1]) (F0 := 2) (L0 := 45) C (mX10_results l D Ca B En C.2.2.2.2.2.2.2.1 c8.1 N ((zi 12996)) u1 _ hc9) hRm kw_1431 kw_14 kw_1429 kw_1430 hyX10_results (Nat.le_of_ble_eq_true rfl) (Nat.le_of_ble_eq_true rfl) rfl rfl (Nat.le_of_ble_eq_true rfl) dX10_shows_52 ?_
    obtain ⟨c10, hc10, hf⟩ := zbind hf
    obtain ⟨kc10, hc10⟩ := zck_ok hc10
    refine z_callVv (As := [.int c8.2, .int c9.2]) (F0 := 2) (L0 := 45) C (mX10_addsAll l D Ca B En C.2.2.2.2.2.2.2.1 c9.1 N x0 c8.2 c9.2 _ hc10) hRm kc10 rfl kw_1435 kw_14 kw_1432 kw_1434 kp_44 hyX10_addsAll (Nat.le_of_ble_eq_true rfl) (Nat.le_of_ble_eq_true rfl) rfl rfl (Nat.le_of_ble_eq_true rfl) dX10_shows_55 ?_
    refine z_aload_n C dX10_shows_58 rfl 0 rfl ?_
    refine z_sipush C (zi 11394) dX10_shows_59 (by decide) ?_
    refine z_iload_n C dX10_shows_62 rfl 1 rfl ?_
    obtain ⟨c11, hc11, hf⟩ := zbind hf
    refine z_callSi (As := [.int ((zi 11394)), .int u1]) (F0 := 2) (L0 := 45) C (mX10_results l D Ca B En C.2.2.2.2.2.2.2.1 c10 N ((zi 11394)) u1 _ hc11) hRm kw_1431 kw_14 kw_1429 kw_1430 hyX10_results (Nat.le_of_ble_eq_true rfl) (Nat.le_of_ble_eq_true rfl) rfl rfl (Nat.le_of_ble_eq_true rfl) dX10_shows_63 ?_
    obtain ⟨c12, hc12, hf⟩ := zbind hf
    obtain ⟨kc12, hc12⟩ := zck_ok hc12
    refine z_callVv (As := [.int c11.2]) (F0 := 2) (L0 := 45) C (mX10_empties l D Ca B En C.2.2.2.2.2.2.2.1 c11.1 N x0 c11.2 _ hc12) hRm kc12 rfl kw_1418 kw_14 kw_1415 kw_1417 kp_42 hyX10_empties (Nat.le_of_ble_eq_true rfl) (Nat.le_of_ble_eq_true rfl) rfl rfl (Nat.le_of_ble_eq_true rfl) dX10_shows_66 ?_
    refine z_iinc (lv2 := [(1, .int (u1 + (zi 1))), (0, .ref x0)]) C (u1 + (zi 1)) dX10_shows_69 1 rfl rfl (by decide) rfl ?_
    refine z_goto C 32 dX10_shows_72 (by decide) ?_
    cases hf
    refine z_sub [1, 0] rfl ?_
    exact hk.1 _ rfl

theorem wsX10_shows_32 (C : zC p s m args meth c cX10_shows RX10 2 D Ca B En) (hRm : zRm R 2 45 cells slots) (x0 : Nat) (n : Nat) (z : (zS × Int32)) (x : zS) (hf : zloop (sX10_shows_32 x0) n z = some x) (hk : (∀ o : zS, x = o → zW p l e R s m args below meth c cells slots Q D Ca B 2 o N 75 [] [])) : zW p l e R s m args below meth c cells slots Q D Ca B 2 z.1 N 32 [(0, .ref x0), (1, .int z.2)] [] := by
  refine zloop_W (P := fun z : (zS × Int32) => zW p l e R s m args below meth c cells slots Q D Ca B 2 z.1 N 32 [(0, .ref x0), (1, .int z.2)] []) (K := fun x : zS => (∀ o : zS, x = o → zW p l e R s m args below meth c cells slots Q D Ca B 2 o N 75 [] [])) ?_ n z x hf hk
  intro z y hy h1 h2
  refine wsX10_shows_32b C hRm x0 z.1 z.2 y hy ⟨fun z2 e => h1 z2 e, fun o e => (h2 _ e) o rfl⟩
set_option maxRecDepth 100000 in
set_option maxHeartbeats 4000000 in
theorem wfX10_shows (C : zC p s m args meth c cX10_shows RX10 2 D Ca B En) (hRm : zRm R 2 45 cells slots) (σ : zS) (x0 : Nat) (τ : zS) (hf : fX10_shows σ x0 = some τ) (hq : ∀ (pc : Nat) (lv : List (Nat × Value)), decode cX10_shows pc = .ok (.return_, 1) → zW p l e R s m args below meth c cells slots Q D Ca B 2 τ N pc lv []) : zW p l e R s m args below meth c cells slots Q D Ca B 2 σ N 0 [(0, .ref x0)] [] := by
  unfold fX10_shows at hf
  refine z_aload_n C dX10_shows_0 rfl 0 rfl ?_
  obtain ⟨v1, hv1, hf⟩ := zbind hf
  refine gf_RX10_21 C hv1 dX10_shows_1 ?_
  refine z_bipush C (zi 118) dX10_shows_4 (by decide) ?_
  obtain ⟨v2, hv2, hf⟩ := zbind hf
  refine z_aI C hv2 dX10_shows_6 ?_
  refine z_if_eq C 21 dX10_shows_7 (by decide) (fun q16 => ?_) (fun q16 => ?_)
  · rw [if_pos q16] at hf
    cases hf
    exact hq _ _ dX10_shows_21
  · rw [if_neg q16] at hf
    refine z_aload_n C dX10_shows_10 rfl 0 rfl ?_
    obtain ⟨v3, hv3, hf⟩ := zbind hf
    refine gf_RX10_21 C hv3 dX10_shows_11 ?_
    refine z_bipush C (zi 123) dX10_shows_14 (by decide) ?_
    obtain ⟨v4, hv4, hf⟩ := zbind hf
    refine z_aI C hv4 dX10_shows_16 ?_
    refine z_iconst C (zi 1) dX10_shows_17 (by decide) ?_
    refine z_icmp_ne C 22 dX10_shows_18 (by decide) (fun q15 => ?_) (fun q15 => ?_)
    · rw [if_neg q15] at hf
      refine z_aload_n C dX10_shows_22 rfl 0 rfl ?_
      obtain ⟨v5, hv5, hf⟩ := zbind hf
      refine gf_RX10_21 C hv5 dX10_shows_23 ?_
      refine z_bipush C (zi 123) dX10_shows_26 (by decide) ?_
      refine z_iconst C (zi 1) dX10_shows_28 (by decide) ?_
      obtain ⟨σ6, hσ6, hf⟩ := zbind hf
      refine z_sI C hσ6 dX10_shows_29 ?_
      refine z_iconst C (zi 0) dX10_shows_30 (by decide) ?_
      refine z_istore_n (lv2 := [(1, .int ((zi 0))), (0, .ref x0)]) C dX10_shows_31 rfl (by decide) rfl ?_
      obtain ⟨o14, ho14, hf⟩ := zbind hf
      refine z_sub [1, 0] rfl ?_
      refine wsX10_shows_32 C hRm _ zfuel (σ6, (zi 0)) o14 ho14 ?_
      intro z9 e9
      subst e9
      cases hf
      exact hq _ _ dX10_shows_75
    · rw [if_pos q15] at hf
      cases hf
      exact hq _ _ dX10_shows_21

theorem mX10_shows (l : Launch) (D : va_G) (Ca : Nat → ClassId) (B : Nat) (En : State → Prop) (hE : zEk B En) (σ : zS) (N : Nat) (x0 : Nat) (X : zS) (hf : fX10_shows σ x0 = some X) : zMv l D Ca B En yX10_shows cX10_shows 2 (Option.none : Option Jvm.ClassFile.FieldType) 2 45 [.ref x0] σ N X () :=
  zMet_v (own := RX10) hE (by decide +kernel) rfl (Nat.le_of_ble_eq_true rfl) (fun p e s m args below meth c C hr hRm => wfX10_shows C hRm σ x0 X hf (fun pc lv hd => zfin_v (r := ()) C hr hd))
theorem dX10_sends_0 : decode cX10_sends 0 = .ok (.aload_n 0, 1) := by decide +kernel
theorem dX10_sends_1 : decode cX10_sends 1 = .ok (.getfield 21, 3) := by decide +kernel
theorem dX10_sends_4 : decode cX10_sends 4 = .ok (.bipush 67, 2) := by decide +kernel
theorem dX10_sends_6 : decode cX10_sends 6 = .ok (.iaload, 1) := by decide +kernel
theorem dX10_sends_7 : decode cX10_sends 7 = .ok (.iconst 1, 1) := by decide +kernel
theorem dX10_sends_8 : decode cX10_sends 8 = .ok (.if_icmp .ne 97, 3) := by decide +kernel
theorem dX10_sends_11 : decode cX10_sends 11 = .ok (.aload_n 0, 1) := by decide +kernel
theorem dX10_sends_12 : decode cX10_sends 12 = .ok (.getfield 21, 3) := by decide +kernel
theorem dX10_sends_15 : decode cX10_sends 15 = .ok (.bipush 70, 2) := by decide +kernel
theorem dX10_sends_17 : decode cX10_sends 17 = .ok (.iload_n 1, 1) := by decide +kernel
theorem dX10_sends_18 : decode cX10_sends 18 = .ok (.iadd, 1) := by decide +kernel
theorem dX10_sends_19 : decode cX10_sends 19 = .ok (.iaload, 1) := by decide +kernel
theorem dX10_sends_20 : decode cX10_sends 20 = .ok (.ifCond .ne 85, 3) := by decide +kernel
theorem dX10_sends_23 : decode cX10_sends 23 = .ok (.aload_n 0, 1) := by decide +kernel
theorem dX10_sends_24 : decode cX10_sends 24 = .ok (.getfield 21, 3) := by decide +kernel
theorem dX10_sends_27 : decode cX10_sends 27 = .ok (.iconst 0, 1) := by decide +kernel
theorem dX10_sends_28 : decode cX10_sends 28 = .ok (.iaload, 1) := by decide +kernel
theorem dX10_sends_29 : decode cX10_sends 29 = .ok (.aload_n 0, 1) := by decide +kernel
theorem dX10_sends_30 : decode cX10_sends 30 = .ok (.getfield 21, 3) := by decide +kernel
theorem dX10_sends_33 : decode cX10_sends 33 = .ok (.bipush 68, 2) := by decide +kernel
theorem dX10_sends_35 : decode cX10_sends 35 = .ok (.iaload, 1) := by decide +kernel
theorem dX10_sends_36 : decode cX10_sends 36 = .ok (.isub, 1) := by decide +kernel
theorem dX10_sends_37 : decode cX10_sends 37 = .ok (.aload_n 0, 1) := by decide +kernel
theorem dX10_sends_38 : decode cX10_sends 38 = .ok (.getfield 21, 3) := by decide +kernel
theorem dX10_sends_41 : decode cX10_sends 41 = .ok (.bipush 9, 2) := by decide +kernel
theorem dX10_sends_43 : decode cX10_sends 43 = .ok (.iload_n 1, 1) := by decide +kernel
theorem dX10_sends_44 : decode cX10_sends 44 = .ok (.iadd, 1) := by decide +kernel
theorem dX10_sends_45 : decode cX10_sends 45 = .ok (.iaload, 1) := by decide +kernel
theorem dX10_sends_46 : decode cX10_sends 46 = .ok (.if_icmp .lt 59, 3) := by decide +kernel
theorem dX10_sends_49 : decode cX10_sends 49 = .ok (.aload_n 0, 1) := by decide +kernel
theorem dX10_sends_50 : decode cX10_sends 50 = .ok (.getfield 21, 3) := by decide +kernel
theorem dX10_sends_53 : decode cX10_sends 53 = .ok (.bipush 70, 2) := by decide +kernel
theorem dX10_sends_55 : decode cX10_sends 55 = .ok (.iload_n 1, 1) := by decide +kernel
theorem dX10_sends_56 : decode cX10_sends 56 = .ok (.iadd, 1) := by decide +kernel
theorem dX10_sends_57 : decode cX10_sends 57 = .ok (.iconst 1, 1) := by decide +kernel
theorem dX10_sends_58 : decode cX10_sends 58 = .ok (.iastore, 1) := by decide +kernel
theorem dX10_sends_59 : decode cX10_sends 59 = .ok (.aload_n 0, 1) := by decide +kernel
theorem dX10_sends_60 : decode cX10_sends 60 = .ok (.getfield 21, 3) := by decide +kernel
theorem dX10_sends_63 : decode cX10_sends 63 = .ok (.bipush 98, 2) := by decide +kernel
theorem dX10_sends_65 : decode cX10_sends 65 = .ok (.iload_n 1, 1) := by decide +kernel
theorem dX10_sends_66 : decode cX10_sends 66 = .ok (.iadd, 1) := by decide +kernel
theorem dX10_sends_67 : decode cX10_sends 67 = .ok (.aload_n 0, 1) := by decide +kernel
theorem dX10_sends_68 : decode cX10_sends 68 = .ok (.getfield 21, 3) := by decide +kernel
theorem dX10_sends_71 : decode cX10_sends 71 = .ok (.bipush 13, 2) := by decide +kernel
theorem dX10_sends_73 : decode cX10_sends 73 = .ok (.iload_n 1, 1) := by decide +kernel
theorem dX10_sends_74 : decode cX10_sends 74 = .ok (.iadd, 1) := by decide +kernel
theorem dX10_sends_75 : decode cX10_sends 75 = .ok (.iaload, 1) := by decide +kernel
theorem dX10_sends_76 : decode cX10_sends 76 = .ok (.iastore, 1) := by decide +kernel
theorem dX10_sends_77 : decode cX10_sends 77 = .ok (.iconst 0, 1) := by decide +kernel
theorem dX10_sends_78 : decode cX10_sends 78 = .ok (.istore_n 2, 1) := by decide +kernel
theorem dX10_sends_79 : decode cX10_sends 79 = .ok (.iload_n 2, 1) := by decide +kernel
theorem dX10_sends_80 : decode cX10_sends 80 = .ok (.aload_n 0, 1) := by decide +kernel
theorem dX10_sends_81 : decode cX10_sends 81 = .ok (.getfield 21, 3) := by decide +kernel
theorem dX10_sends_84 : decode cX10_sends 84 = .ok (.iconst 1, 1) := by decide +kernel
theorem dX10_sends_85 : decode cX10_sends 85 = .ok (.iaload, 1) := by decide +kernel
theorem dX10_sends_86 : decode cX10_sends 86 = .ok (.if_icmp .ge 19, 3) := by decide +kernel
theorem dX10_sends_89 : decode cX10_sends 89 = .ok (.aload_n 0, 1) := by decide +kernel
theorem dX10_sends_90 : decode cX10_sends 90 = .ok (.iload_n 1, 1) := by decide +kernel
theorem dX10_sends_91 : decode cX10_sends 91 = .ok (.iload_n 2, 1) := by decide +kernel
theorem dX10_sends_92 : decode cX10_sends 92 = .ok (.invokestatic 176, 3) := by decide +kernel
theorem dX10_sends_95 : decode cX10_sends 95 = .ok (.iconst (-1), 1) := by decide +kernel
theorem dX10_sends_96 : decode cX10_sends 96 = .ok (.invokevirtual 104, 3) := by decide +kernel
theorem dX10_sends_99 : decode cX10_sends 99 = .ok (.iinc 2 1, 3) := by decide +kernel
theorem dX10_sends_102 : decode cX10_sends 102 = .ok (.goto (-23), 3) := by decide +kernel
theorem dX10_sends_105 : decode cX10_sends 105 = .ok (.aload_n 0, 1) := by decide +kernel
theorem dX10_sends_106 : decode cX10_sends 106 = .ok (.getfield 21, 3) := by decide +kernel
theorem dX10_sends_109 : decode cX10_sends 109 = .ok (.bipush 13, 2) := by decide +kernel
theorem dX10_sends_111 : decode cX10_sends 111 = .ok (.iload_n 1, 1) := by decide +kernel
theorem dX10_sends_112 : decode cX10_sends 112 = .ok (.iadd, 1) := by decide +kernel
theorem dX10_sends_113 : decode cX10_sends 113 = .ok (.iaload, 1) := by decide +kernel
theorem dX10_sends_114 : decode cX10_sends 114 = .ok (.istore_n 2, 1) := by decide +kernel
theorem dX10_sends_115 : decode cX10_sends 115 = .ok (.iload_n 2, 1) := by decide +kernel
theorem dX10_sends_116 : decode cX10_sends 116 = .ok (.aload_n 0, 1) := by decide +kernel
theorem dX10_sends_117 : decode cX10_sends 117 = .ok (.getfield 7, 3) := by decide +kernel
theorem dX10_sends_120 : decode cX10_sends 120 = .ok (.iload_n 1, 1) := by decide +kernel
theorem dX10_sends_121 : decode cX10_sends 121 = .ok (.iaload, 1) := by decide +kernel
theorem dX10_sends_122 : decode cX10_sends 122 = .ok (.if_icmp .ne 4, 3) := by decide +kernel
theorem dX10_sends_125 : decode cX10_sends 125 = .ok (.return_, 1) := by decide +kernel
theorem dX10_sends_126 : decode cX10_sends 126 = .ok (.iload_n 1, 1) := by decide +kernel
theorem dX10_sends_127 : decode cX10_sends 127 = .ok (.aload_n 0, 1) := by decide +kernel
theorem dX10_sends_128 : decode cX10_sends 128 = .ok (.aload_n 0, 1) := by decide +kernel
theorem dX10_sends_129 : decode cX10_sends 129 = .ok (.iload_n 1, 1) := by decide +kernel
theorem dX10_sends_130 : decode cX10_sends 130 = .ok (.iload_n 2, 1) := by decide +kernel
theorem dX10_sends_131 : decode cX10_sends 131 = .ok (.invokevirtual 185, 3) := by decide +kernel
theorem dX10_sends_134 : decode cX10_sends 134 = .ok (.invokevirtual 149, 3) := by decide +kernel
theorem dX10_sends_137 : decode cX10_sends 137 = .ok (.invokestatic 176, 3) := by decide +kernel
theorem dX10_sends_140 : decode cX10_sends 140 = .ok (.istore_n 3, 1) := by decide +kernel
theorem dX10_sends_141 : decode cX10_sends 141 = .ok (.aload_n 0, 1) := by decide +kernel
theorem dX10_sends_142 : decode cX10_sends 142 = .ok (.iload_n 3, 1) := by decide +kernel
theorem dX10_sends_143 : decode cX10_sends 143 = .ok (.invokevirtual 188, 3) := by decide +kernel
theorem dX10_sends_146 : decode cX10_sends 146 = .ok (.ifCond .eq 4, 3) := by decide +kernel
theorem dX10_sends_149 : decode cX10_sends 149 = .ok (.return_, 1) := by decide +kernel
theorem dX10_sends_150 : decode cX10_sends 150 = .ok (.aload_n 0, 1) := by decide +kernel
theorem dX10_sends_151 : decode cX10_sends 151 = .ok (.iload_n 3, 1) := by decide +kernel
theorem dX10_sends_152 : decode cX10_sends 152 = .ok (.iload_n 2, 1) := by decide +kernel
theorem dX10_sends_153 : decode cX10_sends 153 = .ok (.invokevirtual 104, 3) := by decide +kernel
theorem dX10_sends_156 : decode cX10_sends 156 = .ok (.aload_n 0, 1) := by decide +kernel
theorem dX10_sends_157 : decode cX10_sends 157 = .ok (.getfield 21, 3) := by decide +kernel
theorem dX10_sends_160 : decode cX10_sends 160 = .ok (.bipush 13, 2) := by decide +kernel
theorem dX10_sends_162 : decode cX10_sends 162 = .ok (.iload_n 1, 1) := by decide +kernel
theorem dX10_sends_163 : decode cX10_sends 163 = .ok (.iadd, 1) := by decide +kernel
theorem dX10_sends_164 : decode cX10_sends 164 = .ok (.iload_n 2, 1) := by decide +kernel
theorem dX10_sends_165 : decode cX10_sends 165 = .ok (.iconst 1, 1) := by decide +kernel
theorem dX10_sends_166 : decode cX10_sends 166 = .ok (.iadd, 1) := by decide +kernel
theorem dX10_sends_167 : decode cX10_sends 167 = .ok (.iastore, 1) := by decide +kernel
theorem dX10_sends_168 : decode cX10_sends 168 = .ok (.aload_n 0, 1) := by decide +kernel
theorem dX10_sends_169 : decode cX10_sends 169 = .ok (.getfield 21, 3) := by decide +kernel
theorem dX10_sends_172 : decode cX10_sends 172 = .ok (.bipush 8, 2) := by decide +kernel
theorem dX10_sends_174 : decode cX10_sends 174 = .ok (.aload_n 0, 1) := by decide +kernel
theorem dX10_sends_175 : decode cX10_sends 175 = .ok (.getfield 21, 3) := by decide +kernel
theorem dX10_sends_178 : decode cX10_sends 178 = .ok (.bipush 8, 2) := by decide +kernel
theorem dX10_sends_180 : decode cX10_sends 180 = .ok (.iaload, 1) := by decide +kernel
theorem dX10_sends_181 : decode cX10_sends 181 = .ok (.iconst 1, 1) := by decide +kernel
theorem dX10_sends_182 : decode cX10_sends 182 = .ok (.iadd, 1) := by decide +kernel
theorem dX10_sends_183 : decode cX10_sends 183 = .ok (.iastore, 1) := by decide +kernel
theorem dX10_sends_184 : decode cX10_sends 184 = .ok (.return_, 1) := by decide +kernel
theorem hyX10_sends : yX10_sends.cls ≠ "java/lang/invoke/MethodHandle" ∧ yX10_sends.cls ≠ "java/lang/invoke/VarHandle" ∧ (parseMethodDescriptor yX10_sends.desc).map (fun d => d.parameters.length) = some 1 := ⟨by decide +kernel, by decide +kernel, by decide +kernel⟩
set_option maxRecDepth 100000 in
set_option maxHeartbeats 4000000 in
theorem wjX10_sends_105 (C : zC p s m args meth c cX10_sends RX10 4 D Ca B En) (hRm : zRm R 4 87 cells slots) (σ : zS) (x0 : Nat) (x1 : Int32)  (τ : zS) (hf : jX10_sends_105 σ x0 x1  = some τ) (hq : ∀ (pc : Nat) (lv : List (Nat × Value)), decode cX10_sends pc = .ok (.return_, 1) → zW p l e R s m args below meth c cells slots Q D Ca B 4 τ N pc lv []) : zW p l e R s m args below meth c cells slots Q D Ca B 4 σ N 105 [(0, .ref x0), (1, .int x1)] [] := by
  unfold jX10_sends_105 at hf
  refine z_aload_n C dX10_sends_105 rfl 0 rfl ?_
  obtain ⟨v3, hv3, hf⟩ := zbind hf
  refine gf_RX10_21 C hv3 dX10_sends_106 ?_
  refine z_bipush C (zi 13) dX10_sends_109 (by decide) ?_
  refine z_iload_n C dX10_sends_111 rfl 1 rfl ?_
  refine z_iadd C dX10_sends_112 ?_
  obtain ⟨v4, hv4, hf⟩ := zbind hf
  refine z_aI C hv4 dX10_sends_113 ?_
  refine z_istore_n (lv2 := [(2, .int v4), (0, .ref x0), (1, .int x1)]) C dX10_sends_114 rfl (by decide) rfl ?_
  refine z_iload_n C dX10_sends_115 rfl 0 rfl ?_
  refine z_aload_n C dX10_sends_116 rfl 1 rfl ?_
  obtain ⟨v5, hv5, hf⟩ := zbind hf
  refine gf_RX10_7 C hv5 dX10_sends_117 ?_
  refine z_iload_n C dX10_sends_120 rfl 2 rfl ?_
  obtain ⟨v6, hv6, hf⟩ := zbind hf
  refine z_aI C hv6 dX10_sends_121 ?_
  refine z_icmp_ne C 126 dX10_sends_122 (by decide) (fun q19 => ?_) (fun q19 => ?_)
  · rw [if_neg q19] at hf
    refine z_iload_n C dX10_sends_126 rfl 2 rfl ?_
    refine z_aload_n C dX10_sends_127 rfl 1 rfl ?_
    refine z_aload_n C dX10_sends_128 rfl 1 rfl ?_
    refine z_iload_n C dX10_sends_129 rfl 2 rfl ?_
    refine z_iload_n C dX10_sends_130 rfl 0 rfl ?_
    obtain ⟨c7, hc7, hf⟩ := zbind hf
    obtain ⟨kc7, hc7⟩ := zck_ok hc7
    refine z_callVi (As := [.int x1, .int v4]) (F0 := 4) (L0 := 87) C (mX10_keyOf l D Ca B En C.2.2.2.2.2.2.2.1 σ N x0 x1 v4 _ hc7) hRm kc7 rfl kw_1454 kw_14 kw_1451 kw_1453 kp_48 hyX10_keyOf (Nat.le_of_ble_eq_true rfl) (Nat.le_of_ble_eq_true rfl) rfl rfl (Nat.le_of_ble_eq_true rfl) dX10_sends_131 ?_
    obtain ⟨c8, hc8, hf⟩ := zbind hf
    obtain ⟨kc8, hc8⟩ := zck_ok hc8
    refine z_callVi (As := [.int c7.2]) (F0 := 4) (L0 := 87) C (mX10_ownerOf l D Ca B En C.2.2.2.2.2.2.2.1 c7.1 N x0 c7.2 _ hc8) hRm kc8 rfl kw_1458 kw_14 kw_1455 kw_1457 kp_49 hyX10_ownerOf (Nat.le_of_ble_eq_true rfl) (Nat.le_of_ble_eq_true rfl) rfl rfl (Nat.le_of_ble_eq_true rfl) dX10_sends_134 ?_
    obtain ⟨c9, hc9, hf⟩ := zbind hf
    refine z_callSi (As := [.int x1, .int c8.2]) (F0 := 4) (L0 := 87) C (mX10_toInstance l D Ca B En C.2.2.2.2.2.2.2.1 c8.1 N x1 c8.2 _ hc9) hRm kw_1450 kw_14 kw_1448 kw_1449 hyX10_toInstance (Nat.le_of_ble_eq_true rfl) (Nat.le_of_ble_eq_true rfl) rfl rfl (Nat.le_of_ble_eq_true rfl) dX10_sends_137 ?_
    refine z_istore_n (lv2 := [(3, .int c9.2), (2, .int v4), (0, .ref x0), (1, .int x1)]) C dX10_sends_140 rfl (by decide) rfl ?_
    refine z_aload_n C dX10_sends_141 rfl 2 rfl ?_
    refine z_iload_n C dX10_sends_142 rfl 0 rfl ?_
    obtain ⟨c10, hc10, hf⟩ := zbind hf
    obtain ⟨kc10, hc10⟩ := zck_ok hc10
    refine z_callVi (As := [.int c9.2]) (F0 := 4) (L0 := 87) C (mX10_isFull l D Ca B En C.2.2.2.2.2.2.2.1 c9.1 N x0 c9.2 _ hc10) hRm kc10 rfl kw_1465 kw_14 kw_1462 kw_1464 kp_50 hyX10_isFull (Nat.le_of_ble_eq_true rfl) (Nat.le_of_ble_eq_true rfl) rfl rfl (Nat.le_of_ble_eq_true rfl) dX10_sends_143 ?_
    refine z_if_eq C 150 dX10_sends_146 (by decide) (fun q18 => ?_) (fun q18 => ?_)
    · rw [if_pos q18] at hf
      refine z_aload_n C dX10_sends_150 rfl 2 rfl ?_
      refine z_iload_n C dX10_sends_151 rfl 0 rfl ?_
      refine z_iload_n C dX10_sends_152 rfl 1 rfl ?_
      obtain ⟨c11, hc11, hf⟩ := zbind hf
      obtain ⟨kc11, hc11⟩ := zck_ok hc11
      refine z_callVv (As := [.int c9.2, .int v4]) (F0 := 4) (L0 := 87) C (mX10_adds l D Ca B En C.2.2.2.2.2.2.2.1 c10.1 N x0 c9.2 v4 _ hc11) hRm kc11 rfl kw_1443 kw_14 kw_1440 kw_1442 kp_46 hyX10_adds (Nat.le_of_ble_eq_true rfl) (Nat.le_of_ble_eq_true rfl) rfl rfl (Nat.le_of_ble_eq_true rfl) dX10_sends_153 ?_
      refine z_aload_n C dX10_sends_156 rfl 2 rfl ?_
      obtain ⟨v12, hv12, hf⟩ := zbind hf
      refine gf_RX10_21 C hv12 dX10_sends_157 ?_
      refine z_bipush C (zi 13) dX10_sends_160 (by decide) ?_
      refine z_iload_n C dX10_sends_162 rfl 3 rfl ?_
      refine z_iadd C dX10_sends_163 ?_
      refine z_iload_n C dX10_sends_164 rfl 1 rfl ?_
      refine z_iconst C (zi 1) dX10_sends_165 (by decide) ?_
      refine z_iadd C dX10_sends_166 ?_
      obtain ⟨σ13, hσ13, hf⟩ := zbind hf
      refine z_sI C hσ13 dX10_sends_167 ?_
      refine z_aload_n C dX10_sends_168 rfl 2 rfl ?_
      obtain ⟨v14, hv14, hf⟩ := zbind hf
      refine gf_RX10_21 C hv14 dX10_sends_169 ?_
      refine z_bipush C (zi 8) dX10_sends_172 (by decide) ?_
      refine z_aload_n C dX10_sends_174 rfl 2 rfl ?_
      obtain ⟨v15, hv15, hf⟩ := zbind hf
      refine gf_RX10_21 C hv15 dX10_sends_175 ?_
      refine z_bipush C (zi 8) dX10_sends_178 (by decide) ?_
      obtain ⟨v16, hv16, hf⟩ := zbind hf
      refine z_aI C hv16 dX10_sends_180 ?_
      refine z_iconst C (zi 1) dX10_sends_181 (by decide) ?_
      refine z_iadd C dX10_sends_182 ?_
      obtain ⟨σ17, hσ17, hf⟩ := zbind hf
      refine z_sI C hσ17 dX10_sends_183 ?_
      cases hf
      exact hq _ _ dX10_sends_184
    · rw [if_neg q18] at hf
      cases hf
      exact hq _ _ dX10_sends_149
  · rw [if_pos q19] at hf
    cases hf
    exact hq _ _ dX10_sends_125

set_option maxRecDepth 100000 in
set_option maxHeartbeats 4000000 in
theorem wsX10_sends_79b (C : zC p s m args meth c cX10_sends RX10 4 D Ca B En) (hRm : zRm R 4 87 cells slots) (x0 : Nat) (x1 : Int32) (σ : zS) (u2 : Int32) (y : (zS × Int32) ⊕ zS) (hf : sX10_sends_79b x0 x1 σ u2 = some y) (hk : (∀ z : (zS × Int32), y = .inl z → zW p l e R s m args below meth c cells slots Q D Ca B 4 z.1 N 79 [(0, .ref x0), (1, .int x1), (2, .int z.2)] []) ∧ (∀ z : zS, y = .inr z → zW p l e R s m args below meth c cells slots Q D Ca B 4 z N 105 [(0, .ref x0), (1, .int x1)] [])) : zW p l e R s m args below meth c cells slots Q D Ca B 4 σ N 79 [(0, .ref x0), (1, .int x1), (2, .int u2)] [] := by
  unfold sX10_sends_79b at hf
  refine z_iload_n C dX10_sends_79 rfl 2 rfl ?_
  refine z_aload_n C dX10_sends_80 rfl 0 rfl ?_
  obtain ⟨v34, hv34, hf⟩ := zbind hf
  refine gf_RX10_21 C hv34 dX10_sends_81 ?_
  refine z_iconst C (zi 1) dX10_sends_84 (by decide) ?_
  obtain ⟨v35, hv35, hf⟩ := zbind hf
  refine z_aI C hv35 dX10_sends_85 ?_
  refine z_icmp_ge C 105 dX10_sends_86 (by decide) (fun q38 => ?_) (fun q38 => ?_)
  · rw [if_pos q38] at hf
    cases hf
    refine z_sub [0, 1] rfl ?_
    exact hk.2 _ rfl
  · rw [if_neg q38] at hf
    refine z_aload_n C dX10_sends_89 rfl 0 rfl ?_
    refine z_iload_n C dX10_sends_90 rfl 1 rfl ?_
    refine z_iload_n C dX10_sends_91 rfl 2 rfl ?_
    obtain ⟨c36, hc36, hf⟩ := zbind hf
    refine z_callSi (As := [.int x1, .int u2]) (F0 := 4) (L0 := 87) C (mX10_toInstance l D Ca B En C.2.2.2.2.2.2.2.1 σ N x1 u2 _ hc36) hRm kw_1450 kw_14 kw_1448 kw_1449 hyX10_toInstance (Nat.le_of_ble_eq_true rfl) (Nat.le_of_ble_eq_true rfl) rfl rfl (Nat.le_of_ble_eq_true rfl) dX10_sends_92 ?_
    refine z_iconst C (zi (-1)) dX10_sends_95 (by decide) ?_
    obtain ⟨c37, hc37, hf⟩ := zbind hf
    obtain ⟨kc37, hc37⟩ := zck_ok hc37
    refine z_callVv (As := [.int c36.2, .int ((zi (-1)))]) (F0 := 4) (L0 := 87) C (mX10_adds l D Ca B En C.2.2.2.2.2.2.2.1 c36.1 N x0 c36.2 ((zi (-1))) _ hc37) hRm kc37 rfl kw_1443 kw_14 kw_1440 kw_1442 kp_46 hyX10_adds (Nat.le_of_ble_eq_true rfl) (Nat.le_of_ble_eq_true rfl) rfl rfl (Nat.le_of_ble_eq_true rfl) dX10_sends_96 ?_
    refine z_iinc (lv2 := [(2, .int (u2 + (zi 1))), (0, .ref x0), (1, .int x1)]) C (u2 + (zi 1)) dX10_sends_99 2 rfl rfl (by decide) rfl ?_
    refine z_goto C 79 dX10_sends_102 (by decide) ?_
    cases hf
    refine z_sub [1, 2, 0] rfl ?_
    exact hk.1 _ rfl

theorem wsX10_sends_79 (C : zC p s m args meth c cX10_sends RX10 4 D Ca B En) (hRm : zRm R 4 87 cells slots) (x0 : Nat) (x1 : Int32) (n : Nat) (z : (zS × Int32)) (x : zS) (hf : zloop (sX10_sends_79 x0 x1) n z = some x) (hk : (∀ o : zS, x = o → zW p l e R s m args below meth c cells slots Q D Ca B 4 o N 105 [(0, .ref x0), (1, .int x1)] [])) : zW p l e R s m args below meth c cells slots Q D Ca B 4 z.1 N 79 [(0, .ref x0), (1, .int x1), (2, .int z.2)] [] := by
  refine zloop_W (P := fun z : (zS × Int32) => zW p l e R s m args below meth c cells slots Q D Ca B 4 z.1 N 79 [(0, .ref x0), (1, .int x1), (2, .int z.2)] []) (K := fun x : zS => (∀ o : zS, x = o → zW p l e R s m args below meth c cells slots Q D Ca B 4 o N 105 [(0, .ref x0), (1, .int x1)] [])) ?_ n z x hf hk
  intro z y hy h1 h2
  refine wsX10_sends_79b C hRm x0 x1 z.1 z.2 y hy ⟨fun z2 e => h1 z2 e, fun o e => (h2 _ e) o rfl⟩
set_option maxRecDepth 100000 in
set_option maxHeartbeats 4000000 in
theorem wfX10_sends (C : zC p s m args meth c cX10_sends RX10 4 D Ca B En) (hRm : zRm R 4 87 cells slots) (σ : zS) (x0 : Nat) (x1 : Int32) (τ : zS) (hf : fX10_sends σ x0 x1 = some τ) (hq : ∀ (pc : Nat) (lv : List (Nat × Value)), decode cX10_sends pc = .ok (.return_, 1) → zW p l e R s m args below meth c cells slots Q D Ca B 4 τ N pc lv []) : zW p l e R s m args below meth c cells slots Q D Ca B 4 σ N 0 [(0, .ref x0), (1, .int x1)] [] := by
  unfold fX10_sends at hf
  refine z_aload_n C dX10_sends_0 rfl 0 rfl ?_
  obtain ⟨v1, hv1, hf⟩ := zbind hf
  refine gf_RX10_21 C hv1 dX10_sends_1 ?_
  refine z_bipush C (zi 67) dX10_sends_4 (by decide) ?_
  obtain ⟨v2, hv2, hf⟩ := zbind hf
  refine z_aI C hv2 dX10_sends_6 ?_
  refine z_iconst C (zi 1) dX10_sends_7 (by decide) ?_
  refine z_icmp_ne C 105 dX10_sends_8 (by decide) (fun q42 => ?_) (fun q42 => ?_)
  · rw [if_neg q42] at hf
    refine z_sub [0, 1] rfl ?_
    exact wjX10_sends_105 C hRm _ _ _  _ hf hq
  · rw [if_pos q42] at hf
    refine z_aload_n C dX10_sends_11 rfl 0 rfl ?_
    obtain ⟨v20, hv20, hf⟩ := zbind hf
    refine gf_RX10_21 C hv20 dX10_sends_12 ?_
    refine z_bipush C (zi 70) dX10_sends_15 (by decide) ?_
    refine z_iload_n C dX10_sends_17 rfl 1 rfl ?_
    refine z_iadd C dX10_sends_18 ?_
    obtain ⟨v21, hv21, hf⟩ := zbind hf
    refine z_aI C hv21 dX10_sends_19 ?_
    refine z_if_ne C 105 dX10_sends_20 (by decide) (fun q41 => ?_) (fun q41 => ?_)
    · rw [if_neg q41] at hf
      refine z_sub [0, 1] rfl ?_
      exact wjX10_sends_105 C hRm _ _ _  _ hf hq
    · rw [if_pos q41] at hf
      refine z_aload_n C dX10_sends_23 rfl 0 rfl ?_
      obtain ⟨v22, hv22, hf⟩ := zbind hf
      refine gf_RX10_21 C hv22 dX10_sends_24 ?_
      refine z_iconst C (zi 0) dX10_sends_27 (by decide) ?_
      obtain ⟨v23, hv23, hf⟩ := zbind hf
      refine z_aI C hv23 dX10_sends_28 ?_
      refine z_aload_n C dX10_sends_29 rfl 0 rfl ?_
      obtain ⟨v24, hv24, hf⟩ := zbind hf
      refine gf_RX10_21 C hv24 dX10_sends_30 ?_
      refine z_bipush C (zi 68) dX10_sends_33 (by decide) ?_
      obtain ⟨v25, hv25, hf⟩ := zbind hf
      refine z_aI C hv25 dX10_sends_35 ?_
      refine z_isub C dX10_sends_36 ?_
      refine z_aload_n C dX10_sends_37 rfl 0 rfl ?_
      obtain ⟨v26, hv26, hf⟩ := zbind hf
      refine gf_RX10_21 C hv26 dX10_sends_38 ?_
      refine z_bipush C (zi 9) dX10_sends_41 (by decide) ?_
      refine z_iload_n C dX10_sends_43 rfl 1 rfl ?_
      refine z_iadd C dX10_sends_44 ?_
      obtain ⟨v27, hv27, hf⟩ := zbind hf
      refine z_aI C hv27 dX10_sends_45 ?_
      refine z_icmp_lt C 105 dX10_sends_46 (by decide) (fun q40 => ?_) (fun q40 => ?_)
      · rw [if_pos q40] at hf
        refine z_sub [0, 1] rfl ?_
        exact wjX10_sends_105 C hRm _ _ _  _ hf hq
      · rw [if_neg q40] at hf
        refine z_aload_n C dX10_sends_49 rfl 0 rfl ?_
        obtain ⟨v28, hv28, hf⟩ := zbind hf
        refine gf_RX10_21 C hv28 dX10_sends_50 ?_
        refine z_bipush C (zi 70) dX10_sends_53 (by decide) ?_
        refine z_iload_n C dX10_sends_55 rfl 1 rfl ?_
        refine z_iadd C dX10_sends_56 ?_
        refine z_iconst C (zi 1) dX10_sends_57 (by decide) ?_
        obtain ⟨σ29, hσ29, hf⟩ := zbind hf
        refine z_sI C hσ29 dX10_sends_58 ?_
        refine z_aload_n C dX10_sends_59 rfl 0 rfl ?_
        obtain ⟨v30, hv30, hf⟩ := zbind hf
        refine gf_RX10_21 C hv30 dX10_sends_60 ?_
        refine z_bipush C (zi 98) dX10_sends_63 (by decide) ?_
        refine z_iload_n C dX10_sends_65 rfl 1 rfl ?_
        refine z_iadd C dX10_sends_66 ?_
        refine z_aload_n C dX10_sends_67 rfl 0 rfl ?_
        obtain ⟨v31, hv31, hf⟩ := zbind hf
        refine gf_RX10_21 C hv31 dX10_sends_68 ?_
        refine z_bipush C (zi 13) dX10_sends_71 (by decide) ?_
        refine z_iload_n C dX10_sends_73 rfl 1 rfl ?_
        refine z_iadd C dX10_sends_74 ?_
        obtain ⟨v32, hv32, hf⟩ := zbind hf
        refine z_aI C hv32 dX10_sends_75 ?_
        obtain ⟨σ33, hσ33, hf⟩ := zbind hf
        refine z_sI C hσ33 dX10_sends_76 ?_
        refine z_iconst C (zi 0) dX10_sends_77 (by decide) ?_
        refine z_istore_n (lv2 := [(2, .int ((zi 0))), (0, .ref x0), (1, .int x1)]) C dX10_sends_78 rfl (by decide) rfl ?_
        obtain ⟨o39, ho39, hf⟩ := zbind hf
        refine z_sub [1, 2, 0] rfl ?_
        refine wsX10_sends_79 C hRm _ _ zfuel (σ33, (zi 0)) o39 ho39 ?_
        intro z9 e9
        subst e9
        refine z_sub [0, 1] rfl ?_
        exact wjX10_sends_105 C hRm _ _ _  _ hf hq

theorem mX10_sends (l : Launch) (D : va_G) (Ca : Nat → ClassId) (B : Nat) (En : State → Prop) (hE : zEk B En) (σ : zS) (N : Nat) (x0 : Nat) (x1 : Int32) (X : zS) (hf : fX10_sends σ x0 x1 = some X) : zMv l D Ca B En yX10_sends cX10_sends 4 (Option.none : Option Jvm.ClassFile.FieldType) 4 87 [.ref x0, .int x1] σ N X () :=
  zMet_v (own := RX10) hE (by decide +kernel) rfl (Nat.le_of_ble_eq_true rfl) (fun p e s m args below meth c C hr hRm => wfX10_sends C hRm σ x0 x1 X hf (fun pc lv hd => zfin_v (r := ()) C hr hd))
theorem dX10_canTake_0 : decode cX10_canTake 0 = .ok (.iload_n 1, 1) := by decide +kernel
theorem dX10_canTake_1 : decode cX10_canTake 1 = .ok (.iload_n 2, 1) := by decide +kernel
theorem dX10_canTake_2 : decode cX10_canTake 2 = .ok (.invokestatic 176, 3) := by decide +kernel
theorem dX10_canTake_5 : decode cX10_canTake 5 = .ok (.istore_n 3, 1) := by decide +kernel
theorem dX10_canTake_6 : decode cX10_canTake 6 = .ok (.aload_n 0, 1) := by decide +kernel
theorem dX10_canTake_7 : decode cX10_canTake 7 = .ok (.getfield 21, 3) := by decide +kernel
theorem dX10_canTake_10 : decode cX10_canTake 10 = .ok (.iload_n 3, 1) := by decide +kernel
theorem dX10_canTake_11 : decode cX10_canTake 11 = .ok (.iaload, 1) := by decide +kernel
theorem dX10_canTake_12 : decode cX10_canTake 12 = .ok (.ifCond .eq 20, 3) := by decide +kernel
theorem dX10_canTake_15 : decode cX10_canTake 15 = .ok (.aload_n 0, 1) := by decide +kernel
theorem dX10_canTake_16 : decode cX10_canTake 16 = .ok (.getfield 21, 3) := by decide +kernel
theorem dX10_canTake_19 : decode cX10_canTake 19 = .ok (.bipush 43, 2) := by decide +kernel
theorem dX10_canTake_21 : decode cX10_canTake 21 = .ok (.iload_n 1, 1) := by decide +kernel
theorem dX10_canTake_22 : decode cX10_canTake 22 = .ok (.iload_n 2, 1) := by decide +kernel
theorem dX10_canTake_23 : decode cX10_canTake 23 = .ok (.invokestatic 122, 3) := by decide +kernel
theorem dX10_canTake_26 : decode cX10_canTake 26 = .ok (.iadd, 1) := by decide +kernel
theorem dX10_canTake_27 : decode cX10_canTake 27 = .ok (.iaload, 1) := by decide +kernel
theorem dX10_canTake_28 : decode cX10_canTake 28 = .ok (.iconst 1, 1) := by decide +kernel
theorem dX10_canTake_29 : decode cX10_canTake 29 = .ok (.if_icmp .ne 5, 3) := by decide +kernel
theorem dX10_canTake_32 : decode cX10_canTake 32 = .ok (.iconst 0, 1) := by decide +kernel
theorem dX10_canTake_33 : decode cX10_canTake 33 = .ok (.ireturn, 1) := by decide +kernel
theorem dX10_canTake_34 : decode cX10_canTake 34 = .ok (.aload_n 0, 1) := by decide +kernel
theorem dX10_canTake_35 : decode cX10_canTake 35 = .ok (.iload_n 3, 1) := by decide +kernel
theorem dX10_canTake_36 : decode cX10_canTake 36 = .ok (.iconst 0, 1) := by decide +kernel
theorem dX10_canTake_37 : decode cX10_canTake 37 = .ok (.invokevirtual 100, 3) := by decide +kernel
theorem dX10_canTake_40 : decode cX10_canTake 40 = .ok (.iconst (-1), 1) := by decide +kernel
theorem dX10_canTake_41 : decode cX10_canTake 41 = .ok (.if_icmp .ne 5, 3) := by decide +kernel
theorem dX10_canTake_44 : decode cX10_canTake 44 = .ok (.iconst 1, 1) := by decide +kernel
theorem dX10_canTake_45 : decode cX10_canTake 45 = .ok (.ireturn, 1) := by decide +kernel
theorem dX10_canTake_46 : decode cX10_canTake 46 = .ok (.aload_n 0, 1) := by decide +kernel
theorem dX10_canTake_47 : decode cX10_canTake 47 = .ok (.iload_n 2, 1) := by decide +kernel
theorem dX10_canTake_48 : decode cX10_canTake 48 = .ok (.aload_n 0, 1) := by decide +kernel
theorem dX10_canTake_49 : decode cX10_canTake 49 = .ok (.aload_n 0, 1) := by decide +kernel
theorem dX10_canTake_50 : decode cX10_canTake 50 = .ok (.iload_n 1, 1) := by decide +kernel
theorem dX10_canTake_51 : decode cX10_canTake 51 = .ok (.aload_n 0, 1) := by decide +kernel
theorem dX10_canTake_52 : decode cX10_canTake 52 = .ok (.iload_n 3, 1) := by decide +kernel
theorem dX10_canTake_53 : decode cX10_canTake 53 = .ok (.iconst 0, 1) := by decide +kernel
theorem dX10_canTake_54 : decode cX10_canTake 54 = .ok (.invokevirtual 100, 3) := by decide +kernel
theorem dX10_canTake_57 : decode cX10_canTake 57 = .ok (.invokevirtual 185, 3) := by decide +kernel
theorem dX10_canTake_60 : decode cX10_canTake 60 = .ok (.invokevirtual 192, 3) := by decide +kernel
theorem dX10_canTake_63 : decode cX10_canTake 63 = .ok (.invokestatic 152, 3) := by decide +kernel
theorem dX10_canTake_66 : decode cX10_canTake 66 = .ok (.invokevirtual 188, 3) := by decide +kernel
theorem dX10_canTake_69 : decode cX10_canTake 69 = .ok (.ifCond .ne 7, 3) := by decide +kernel
theorem dX10_canTake_72 : decode cX10_canTake 72 = .ok (.iconst 1, 1) := by decide +kernel
theorem dX10_canTake_73 : decode cX10_canTake 73 = .ok (.goto 4, 3) := by decide +kernel
theorem dX10_canTake_76 : decode cX10_canTake 76 = .ok (.iconst 0, 1) := by decide +kernel
theorem dX10_canTake_77 : decode cX10_canTake 77 = .ok (.ireturn, 1) := by decide +kernel
theorem hyX10_canTake : yX10_canTake.cls ≠ "java/lang/invoke/MethodHandle" ∧ yX10_canTake.cls ≠ "java/lang/invoke/VarHandle" ∧ (parseMethodDescriptor yX10_canTake.desc).map (fun d => d.parameters.length) = some 2 := ⟨by decide +kernel, by decide +kernel, by decide +kernel⟩
set_option maxRecDepth 100000 in
set_option maxHeartbeats 4000000 in
theorem wfX10_canTake (C : zC p s m args meth c cX10_canTake RX10 4 D Ca B En) (hRm : zRm R 4 87 cells slots) (σ : zS) (x0 : Nat) (x1 : Int32) (x2 : Int32) (τ : zS) (r : Int32) (hf : fX10_canTake σ x0 x1 x2 = some (τ, r)) (hq : ∀ (pc : Nat) (lv : List (Nat × Value)), (r = 0 ∨ r = 1) → decode cX10_canTake pc = .ok (.ireturn, 1) → zW p l e R s m args below meth c cells slots Q D Ca B 4 τ N pc lv [.int r]) : zW p l e R s m args below meth c cells slots Q D Ca B 4 σ N 0 [(0, .ref x0), (1, .int x1), (2, .int x2)] [] := by
  unfold fX10_canTake at hf
  refine z_iload_n C dX10_canTake_0 rfl 1 rfl ?_
  refine z_iload_n C dX10_canTake_1 rfl 2 rfl ?_
  obtain ⟨c1, hc1, hf⟩ := zbind hf
  refine z_callSi (As := [.int x1, .int x2]) (F0 := 4) (L0 := 87) C (mX10_toInstance l D Ca B En C.2.2.2.2.2.2.2.1 σ N x1 x2 _ hc1) hRm kw_1450 kw_14 kw_1448 kw_1449 hyX10_toInstance (Nat.le_of_ble_eq_true rfl) (Nat.le_of_ble_eq_true rfl) rfl rfl (Nat.le_of_ble_eq_true rfl) dX10_canTake_2 ?_
  refine z_istore_n (lv2 := [(3, .int c1.2), (0, .ref x0), (1, .int x1), (2, .int x2)]) C dX10_canTake_5 rfl (by decide) rfl ?_
  refine z_aload_n C dX10_canTake_6 rfl 1 rfl ?_
  obtain ⟨v2, hv2, hf⟩ := zbind hf
  refine gf_RX10_21 C hv2 dX10_canTake_7 ?_
  refine z_iload_n C dX10_canTake_10 rfl 0 rfl ?_
  obtain ⟨v3, hv3, hf⟩ := zbind hf
  refine z_aI C hv3 dX10_canTake_11 ?_
  refine z_if_eq C 32 dX10_canTake_12 (by decide) (fun q16 => ?_) (fun q16 => ?_)
  · rw [if_pos q16] at hf
    refine z_iconst C (zi 0) dX10_canTake_32 (by decide) ?_
    obtain ⟨e9, b9⟩ := zrZ_ok hf
    cases e9
    exact hq _ _ b9 dX10_canTake_33
  · rw [if_neg q16] at hf
    refine z_aload_n C dX10_canTake_15 rfl 1 rfl ?_
    obtain ⟨v4, hv4, hf⟩ := zbind hf
    refine gf_RX10_21 C hv4 dX10_canTake_16 ?_
    refine z_bipush C (zi 43) dX10_canTake_19 (by decide) ?_
    refine z_iload_n C dX10_canTake_21 rfl 2 rfl ?_
    refine z_iload_n C dX10_canTake_22 rfl 3 rfl ?_
    obtain ⟨c5, hc5, hf⟩ := zbind hf
    refine z_callSi (As := [.int x1, .int x2]) (F0 := 4) (L0 := 87) C (mX10_channelIn l D Ca B En C.2.2.2.2.2.2.2.1 c1.1 N x1 x2 _ hc5) hRm kw_1414 kw_14 kw_1412 kw_1413 hyX10_channelIn (Nat.le_of_ble_eq_true rfl) (Nat.le_of_ble_eq_true rfl) rfl rfl (Nat.le_of_ble_eq_true rfl) dX10_canTake_23 ?_
    refine z_iadd C dX10_canTake_26 ?_
    obtain ⟨v6, hv6, hf⟩ := zbind hf
    refine z_aI C hv6 dX10_canTake_27 ?_
    refine z_iconst C (zi 1) dX10_canTake_28 (by decide) ?_
    refine z_icmp_ne C 34 dX10_canTake_29 (by decide) (fun q15 => ?_) (fun q15 => ?_)
    · rw [if_neg q15] at hf
      refine z_aload_n C dX10_canTake_34 rfl 1 rfl ?_
      refine z_iload_n C dX10_canTake_35 rfl 0 rfl ?_
      refine z_iconst C (zi 0) dX10_canTake_36 (by decide) ?_
      obtain ⟨c7, hc7, hf⟩ := zbind hf
      obtain ⟨kc7, hc7⟩ := zck_ok hc7
      refine z_callVi (As := [.int c1.2, .int ((zi 0))]) (F0 := 4) (L0 := 87) C (mX10_at l D Ca B En C.2.2.2.2.2.2.2.1 c5.1 N x0 c1.2 ((zi 0)) _ hc7) hRm kc7 rfl kw_1439 kw_14 kw_1436 kw_1438 kp_45 hyX10_at (Nat.le_of_ble_eq_true rfl) (Nat.le_of_ble_eq_true rfl) rfl rfl (Nat.le_of_ble_eq_true rfl) dX10_canTake_37 ?_
      refine z_iconst C (zi (-1)) dX10_canTake_40 (by decide) ?_
      refine z_icmp_ne C 46 dX10_canTake_41 (by decide) (fun q14 => ?_) (fun q14 => ?_)
      · rw [if_neg q14] at hf
        refine z_aload_n C dX10_canTake_46 rfl 1 rfl ?_
        refine z_iload_n C dX10_canTake_47 rfl 3 rfl ?_
        refine z_aload_n C dX10_canTake_48 rfl 1 rfl ?_
        refine z_aload_n C dX10_canTake_49 rfl 1 rfl ?_
        refine z_iload_n C dX10_canTake_50 rfl 2 rfl ?_
        refine z_aload_n C dX10_canTake_51 rfl 1 rfl ?_
        refine z_iload_n C dX10_canTake_52 rfl 0 rfl ?_
        refine z_iconst C (zi 0) dX10_canTake_53 (by decide) ?_
        obtain ⟨c8, hc8, hf⟩ := zbind hf
        obtain ⟨kc8, hc8⟩ := zck_ok hc8
        refine z_callVi (As := [.int c1.2, .int ((zi 0))]) (F0 := 4) (L0 := 87) C (mX10_at l D Ca B En C.2.2.2.2.2.2.2.1 c7.1 N x0 c1.2 ((zi 0)) _ hc8) hRm kc8 rfl kw_1439 kw_14 kw_1436 kw_1438 kp_45 hyX10_at (Nat.le_of_ble_eq_true rfl) (Nat.le_of_ble_eq_true rfl) rfl rfl (Nat.le_of_ble_eq_true rfl) dX10_canTake_54 ?_
        obtain ⟨c9, hc9, hf⟩ := zbind hf
        obtain ⟨kc9, hc9⟩ := zck_ok hc9
        refine z_callVi (As := [.int x1, .int c8.2]) (F0 := 4) (L0 := 87) C (mX10_keyOf l D Ca B En C.2.2.2.2.2.2.2.1 c8.1 N x0 x1 c8.2 _ hc9) hRm kc9 rfl kw_1454 kw_14 kw_1451 kw_1453 kp_48 hyX10_keyOf (Nat.le_of_ble_eq_true rfl) (Nat.le_of_ble_eq_true rfl) rfl rfl (Nat.le_of_ble_eq_true rfl) dX10_canTake_57 ?_
        obtain ⟨c10, hc10, hf⟩ := zbind hf
        obtain ⟨kc10, hc10⟩ := zck_ok hc10
        refine z_callVi (As := [.int c9.2]) (F0 := 4) (L0 := 87) C (mX10_sinkOf l D Ca B En C.2.2.2.2.2.2.2.1 c9.1 N x0 c9.2 _ hc10) hRm kc10 rfl kw_1516 kw_14 kw_1513 kw_1515 kp_62 hyX10_sinkOf (Nat.le_of_ble_eq_true rfl) (Nat.le_of_ble_eq_true rfl) rfl rfl (Nat.le_of_ble_eq_true rfl) dX10_canTake_60 ?_
        obtain ⟨c11, hc11, hf⟩ := zbind hf
        refine z_callSi (As := [.int x2, .int c10.2]) (F0 := 4) (L0 := 87) C (mX10_toSink l D Ca B En C.2.2.2.2.2.2.2.1 c10.1 N x2 c10.2 _ hc11) hRm kw_1496 kw_14 kw_1494 kw_1495 hyX10_toSink (Nat.le_of_ble_eq_true rfl) (Nat.le_of_ble_eq_true rfl) rfl rfl (Nat.le_of_ble_eq_true rfl) dX10_canTake_63 ?_
        obtain ⟨c12, hc12, hf⟩ := zbind hf
        obtain ⟨kc12, hc12⟩ := zck_ok hc12
        refine z_callVi (As := [.int c11.2]) (F0 := 4) (L0 := 87) C (mX10_isFull l D Ca B En C.2.2.2.2.2.2.2.1 c11.1 N x0 c11.2 _ hc12) hRm kc12 rfl kw_1465 kw_14 kw_1462 kw_1464 kp_50 hyX10_isFull (Nat.le_of_ble_eq_true rfl) (Nat.le_of_ble_eq_true rfl) rfl rfl (Nat.le_of_ble_eq_true rfl) dX10_canTake_66 ?_
        refine z_if_ne C 76 dX10_canTake_69 (by decide) (fun q13 => ?_) (fun q13 => ?_)
        · rw [if_neg q13] at hf
          refine z_iconst C (zi 0) dX10_canTake_76 (by decide) ?_
          obtain ⟨e9, b9⟩ := zrZ_ok hf
          cases e9
          exact hq _ _ b9 dX10_canTake_77
        · rw [if_pos q13] at hf
          refine z_iconst C (zi 1) dX10_canTake_72 (by decide) ?_
          refine z_goto C 77 dX10_canTake_73 (by decide) ?_
          obtain ⟨e9, b9⟩ := zrZ_ok hf
          cases e9
          exact hq _ _ b9 dX10_canTake_77
      · rw [if_pos q14] at hf
        refine z_iconst C (zi 1) dX10_canTake_44 (by decide) ?_
        obtain ⟨e9, b9⟩ := zrZ_ok hf
        cases e9
        exact hq _ _ b9 dX10_canTake_45
    · rw [if_pos q15] at hf
      refine z_iconst C (zi 0) dX10_canTake_32 (by decide) ?_
      obtain ⟨e9, b9⟩ := zrZ_ok hf
      cases e9
      exact hq _ _ b9 dX10_canTake_33

theorem mX10_canTake (l : Launch) (D : va_G) (Ca : Nat → ClassId) (B : Nat) (En : State → Prop) (hE : zEk B En) (σ : zS) (N : Nat) (x0 : Nat) (x1 : Int32) (x2 : Int32) (X : zS × Int32) (hf : fX10_canTake σ x0 x1 x2 = some X) : zMi l D Ca B En yX10_canTake cX10_canTake 4 (Option.some Jvm.ClassFile.FieldType.boolean) 4 87 [.ref x0, .int x1, .int x2] σ N X.1 X.2 :=
  zMet_i (own := RX10) hE (by decide +kernel) rfl (Nat.le_of_ble_eq_true rfl) (fun p e s m args below meth c C hr hRm => wfX10_canTake C hRm σ x0 x1 x2 X.1 X.2 hf (fun pc lv hb hd => zfin_z C hb hr hd))
theorem dX10_takes_0 : decode cX10_takes 0 = .ok (.iload_n 1, 1) := by decide +kernel
theorem dX10_takes_1 : decode cX10_takes 1 = .ok (.iload_n 2, 1) := by decide +kernel
theorem dX10_takes_2 : decode cX10_takes 2 = .ok (.invokestatic 176, 3) := by decide +kernel
theorem dX10_takes_5 : decode cX10_takes 5 = .ok (.istore_n 3, 1) := by decide +kernel
theorem dX10_takes_6 : decode cX10_takes 6 = .ok (.aload_n 0, 1) := by decide +kernel
theorem dX10_takes_7 : decode cX10_takes 7 = .ok (.iload_n 3, 1) := by decide +kernel
theorem dX10_takes_8 : decode cX10_takes 8 = .ok (.iconst 0, 1) := by decide +kernel
theorem dX10_takes_9 : decode cX10_takes 9 = .ok (.invokevirtual 100, 3) := by decide +kernel
theorem dX10_takes_12 : decode cX10_takes 12 = .ok (.istore 4, 2) := by decide +kernel
theorem dX10_takes_14 : decode cX10_takes 14 = .ok (.aload_n 0, 1) := by decide +kernel
theorem dX10_takes_15 : decode cX10_takes 15 = .ok (.iload_n 3, 1) := by decide +kernel
theorem dX10_takes_16 : decode cX10_takes 16 = .ok (.iconst 0, 1) := by decide +kernel
theorem dX10_takes_17 : decode cX10_takes 17 = .ok (.invokevirtual 173, 3) := by decide +kernel
theorem dX10_takes_20 : decode cX10_takes 20 = .ok (.aload_n 0, 1) := by decide +kernel
theorem dX10_takes_21 : decode cX10_takes 21 = .ok (.getfield 21, 3) := by decide +kernel
theorem dX10_takes_24 : decode cX10_takes 24 = .ok (.bipush 37, 2) := by decide +kernel
theorem dX10_takes_26 : decode cX10_takes 26 = .ok (.iload_n 2, 1) := by decide +kernel
theorem dX10_takes_27 : decode cX10_takes 27 = .ok (.iadd, 1) := by decide +kernel
theorem dX10_takes_28 : decode cX10_takes 28 = .ok (.iload_n 1, 1) := by decide +kernel
theorem dX10_takes_29 : decode cX10_takes 29 = .ok (.iastore, 1) := by decide +kernel
theorem dX10_takes_30 : decode cX10_takes 30 = .ok (.iload 4, 2) := by decide +kernel
theorem dX10_takes_32 : decode cX10_takes 32 = .ok (.iconst (-1), 1) := by decide +kernel
theorem dX10_takes_33 : decode cX10_takes 33 = .ok (.if_icmp .ne 10, 3) := by decide +kernel
theorem dX10_takes_36 : decode cX10_takes 36 = .ok (.aload_n 0, 1) := by decide +kernel
theorem dX10_takes_37 : decode cX10_takes 37 = .ok (.iload_n 1, 1) := by decide +kernel
theorem dX10_takes_38 : decode cX10_takes 38 = .ok (.iload_n 2, 1) := by decide +kernel
theorem dX10_takes_39 : decode cX10_takes 39 = .ok (.invokevirtual 202, 3) := by decide +kernel
theorem dX10_takes_42 : decode cX10_takes 42 = .ok (.return_, 1) := by decide +kernel
theorem dX10_takes_43 : decode cX10_takes 43 = .ok (.aload_n 0, 1) := by decide +kernel
theorem dX10_takes_44 : decode cX10_takes 44 = .ok (.invokevirtual 205, 3) := by decide +kernel
theorem dX10_takes_47 : decode cX10_takes 47 = .ok (.ifCond .eq 38, 3) := by decide +kernel
theorem dX10_takes_50 : decode cX10_takes 50 = .ok (.aload_n 0, 1) := by decide +kernel
theorem dX10_takes_51 : decode cX10_takes 51 = .ok (.iload_n 2, 1) := by decide +kernel
theorem dX10_takes_52 : decode cX10_takes 52 = .ok (.invokevirtual 158, 3) := by decide +kernel
theorem dX10_takes_55 : decode cX10_takes 55 = .ok (.ifCond .le 30, 3) := by decide +kernel
theorem dX10_takes_58 : decode cX10_takes 58 = .ok (.aload_n 0, 1) := by decide +kernel
theorem dX10_takes_59 : decode cX10_takes 59 = .ok (.getfield 21, 3) := by decide +kernel
theorem dX10_takes_62 : decode cX10_takes 62 = .ok (.bipush 74, 2) := by decide +kernel
theorem dX10_takes_64 : decode cX10_takes 64 = .ok (.iload_n 1, 1) := by decide +kernel
theorem dX10_takes_65 : decode cX10_takes 65 = .ok (.iload_n 2, 1) := by decide +kernel
theorem dX10_takes_66 : decode cX10_takes 66 = .ok (.invokestatic 122, 3) := by decide +kernel
theorem dX10_takes_69 : decode cX10_takes 69 = .ok (.iadd, 1) := by decide +kernel
theorem dX10_takes_70 : decode cX10_takes 70 = .ok (.iaload, 1) := by decide +kernel
theorem dX10_takes_71 : decode cX10_takes 71 = .ok (.ifCond .ne 14, 3) := by decide +kernel
theorem dX10_takes_74 : decode cX10_takes 74 = .ok (.aload_n 0, 1) := by decide +kernel
theorem dX10_takes_75 : decode cX10_takes 75 = .ok (.iload_n 1, 1) := by decide +kernel
theorem dX10_takes_76 : decode cX10_takes 76 = .ok (.iload_n 2, 1) := by decide +kernel
theorem dX10_takes_77 : decode cX10_takes 77 = .ok (.invokestatic 134, 3) := by decide +kernel
theorem dX10_takes_80 : decode cX10_takes 80 = .ok (.iload 4, 2) := by decide +kernel
theorem dX10_takes_82 : decode cX10_takes 82 = .ok (.invokevirtual 104, 3) := by decide +kernel
theorem dX10_takes_85 : decode cX10_takes 85 = .ok (.aload_n 0, 1) := by decide +kernel
theorem dX10_takes_86 : decode cX10_takes 86 = .ok (.iload_n 1, 1) := by decide +kernel
theorem dX10_takes_87 : decode cX10_takes 87 = .ok (.iload 4, 2) := by decide +kernel
theorem dX10_takes_89 : decode cX10_takes 89 = .ok (.invokevirtual 185, 3) := by decide +kernel
theorem dX10_takes_92 : decode cX10_takes 92 = .ok (.istore 5, 2) := by decide +kernel
theorem dX10_takes_94 : decode cX10_takes 94 = .ok (.aload_n 0, 1) := by decide +kernel
theorem dX10_takes_95 : decode cX10_takes 95 = .ok (.getfield 21, 3) := by decide +kernel
theorem dX10_takes_98 : decode cX10_takes 98 = .ok (.bipush 17, 2) := by decide +kernel
theorem dX10_takes_100 : decode cX10_takes 100 = .ok (.iload 5, 2) := by decide +kernel
theorem dX10_takes_102 : decode cX10_takes 102 = .ok (.iadd, 1) := by decide +kernel
theorem dX10_takes_103 : decode cX10_takes 103 = .ok (.aload_n 0, 1) := by decide +kernel
theorem dX10_takes_104 : decode cX10_takes 104 = .ok (.getfield 21, 3) := by decide +kernel
theorem dX10_takes_107 : decode cX10_takes 107 = .ok (.bipush 17, 2) := by decide +kernel
theorem dX10_takes_109 : decode cX10_takes 109 = .ok (.iload 5, 2) := by decide +kernel
theorem dX10_takes_111 : decode cX10_takes 111 = .ok (.iadd, 1) := by decide +kernel
theorem dX10_takes_112 : decode cX10_takes 112 = .ok (.iaload, 1) := by decide +kernel
theorem dX10_takes_113 : decode cX10_takes 113 = .ok (.aload_n 0, 1) := by decide +kernel
theorem dX10_takes_114 : decode cX10_takes 114 = .ok (.iload_n 1, 1) := by decide +kernel
theorem dX10_takes_115 : decode cX10_takes 115 = .ok (.iload 4, 2) := by decide +kernel
theorem dX10_takes_117 : decode cX10_takes 117 = .ok (.invokevirtual 209, 3) := by decide +kernel
theorem dX10_takes_120 : decode cX10_takes 120 = .ok (.iadd, 1) := by decide +kernel
theorem dX10_takes_121 : decode cX10_takes 121 = .ok (.iastore, 1) := by decide +kernel
theorem dX10_takes_122 : decode cX10_takes 122 = .ok (.aload_n 0, 1) := by decide +kernel
theorem dX10_takes_123 : decode cX10_takes 123 = .ok (.getfield 21, 3) := by decide +kernel
theorem dX10_takes_126 : decode cX10_takes 126 = .ok (.bipush 33, 2) := by decide +kernel
theorem dX10_takes_128 : decode cX10_takes 128 = .ok (.iload_n 2, 1) := by decide +kernel
theorem dX10_takes_129 : decode cX10_takes 129 = .ok (.iadd, 1) := by decide +kernel
theorem dX10_takes_130 : decode cX10_takes 130 = .ok (.aload_n 0, 1) := by decide +kernel
theorem dX10_takes_131 : decode cX10_takes 131 = .ok (.getfield 21, 3) := by decide +kernel
theorem dX10_takes_134 : decode cX10_takes 134 = .ok (.bipush 33, 2) := by decide +kernel
theorem dX10_takes_136 : decode cX10_takes 136 = .ok (.iload_n 2, 1) := by decide +kernel
theorem dX10_takes_137 : decode cX10_takes 137 = .ok (.iadd, 1) := by decide +kernel
theorem dX10_takes_138 : decode cX10_takes 138 = .ok (.iaload, 1) := by decide +kernel
theorem dX10_takes_139 : decode cX10_takes 139 = .ok (.iconst 1, 1) := by decide +kernel
theorem dX10_takes_140 : decode cX10_takes 140 = .ok (.iadd, 1) := by decide +kernel
theorem dX10_takes_141 : decode cX10_takes 141 = .ok (.iastore, 1) := by decide +kernel
theorem dX10_takes_142 : decode cX10_takes 142 = .ok (.aload_n 0, 1) := by decide +kernel
theorem dX10_takes_143 : decode cX10_takes 143 = .ok (.iload_n 2, 1) := by decide +kernel
theorem dX10_takes_144 : decode cX10_takes 144 = .ok (.aload_n 0, 1) := by decide +kernel
theorem dX10_takes_145 : decode cX10_takes 145 = .ok (.iload 5, 2) := by decide +kernel
theorem dX10_takes_147 : decode cX10_takes 147 = .ok (.invokevirtual 192, 3) := by decide +kernel
theorem dX10_takes_150 : decode cX10_takes 150 = .ok (.invokestatic 152, 3) := by decide +kernel
theorem dX10_takes_153 : decode cX10_takes 153 = .ok (.sipush 20000, 3) := by decide +kernel
theorem dX10_takes_156 : decode cX10_takes 156 = .ok (.iload 5, 2) := by decide +kernel
theorem dX10_takes_158 : decode cX10_takes 158 = .ok (.imul, 1) := by decide +kernel
theorem dX10_takes_159 : decode cX10_takes 159 = .ok (.aload_n 0, 1) := by decide +kernel
theorem dX10_takes_160 : decode cX10_takes 160 = .ok (.getfield 21, 3) := by decide +kernel
theorem dX10_takes_163 : decode cX10_takes 163 = .ok (.bipush 17, 2) := by decide +kernel
theorem dX10_takes_165 : decode cX10_takes 165 = .ok (.iload 5, 2) := by decide +kernel
theorem dX10_takes_167 : decode cX10_takes 167 = .ok (.iadd, 1) := by decide +kernel
theorem dX10_takes_168 : decode cX10_takes 168 = .ok (.iaload, 1) := by decide +kernel
theorem dX10_takes_169 : decode cX10_takes 169 = .ok (.iadd, 1) := by decide +kernel
theorem dX10_takes_170 : decode cX10_takes 170 = .ok (.invokevirtual 104, 3) := by decide +kernel
theorem dX10_takes_173 : decode cX10_takes 173 = .ok (.return_, 1) := by decide +kernel
theorem hyX10_takes : yX10_takes.cls ≠ "java/lang/invoke/MethodHandle" ∧ yX10_takes.cls ≠ "java/lang/invoke/VarHandle" ∧ (parseMethodDescriptor yX10_takes.desc).map (fun d => d.parameters.length) = some 2 := ⟨by decide +kernel, by decide +kernel, by decide +kernel⟩
set_option maxRecDepth 100000 in
set_option maxHeartbeats 4000000 in
theorem wjX10_takes_85 (C : zC p s m args meth c cX10_takes RX10 6 D Ca B En) (hRm : zRm R 4 87 cells slots) (σ : zS) (x0 : Nat) (x1 : Int32) (x2 : Int32) (x4 : Int32)  (τ : zS) (hf : jX10_takes_85 σ x0 x1 x2 x4  = some τ) (hq : ∀ (pc : Nat) (lv : List (Nat × Value)), decode cX10_takes pc = .ok (.return_, 1) → zW p l e R s m args below meth c cells slots Q D Ca B 6 τ N pc lv []) : zW p l e R s m args below meth c cells slots Q D Ca B 6 σ N 85 [(0, .ref x0), (1, .int x1), (2, .int x2), (4, .int x4)] [] := by
  unfold jX10_takes_85 at hf
  refine z_aload_n C dX10_takes_85 rfl 0 rfl ?_
  refine z_iload_n C dX10_takes_86 rfl 1 rfl ?_
  refine z_iload C dX10_takes_87 3 rfl ?_
  obtain ⟨c7, hc7, hf⟩ := zbind hf
  obtain ⟨kc7, hc7⟩ := zck_ok hc7
  refine z_callVi (As := [.int x1, .int x4]) (F0 := 4) (L0 := 87) C (mX10_keyOf l D Ca B En C.2.2.2.2.2.2.2.1 σ N x0 x1 x4 _ hc7) hRm kc7 rfl kw_1454 kw_14 kw_1451 kw_1453 kp_48 hyX10_keyOf (Nat.le_of_ble_eq_true rfl) (Nat.le_of_ble_eq_true rfl) rfl rfl (Nat.le_of_ble_eq_true rfl) dX10_takes_89 ?_
  refine z_istore (lv2 := [(5, .int c7.2), (0, .ref x0), (1, .int x1), (2, .int x2), (4, .int x4)]) C dX10_takes_92 (by decide) rfl ?_
  refine z_aload_n C dX10_takes_94 rfl 1 rfl ?_
  obtain ⟨v8, hv8, hf⟩ := zbind hf
  refine gf_RX10_21 C hv8 dX10_takes_95 ?_
  refine z_bipush C (zi 17) dX10_takes_98 (by decide) ?_
  refine z_iload C dX10_takes_100 0 rfl ?_
  refine z_iadd C dX10_takes_102 ?_
  refine z_aload_n C dX10_takes_103 rfl 1 rfl ?_
  obtain ⟨v9, hv9, hf⟩ := zbind hf
  refine gf_RX10_21 C hv9 dX10_takes_104 ?_
  refine z_bipush C (zi 17) dX10_takes_107 (by decide) ?_
  refine z_iload C dX10_takes_109 0 rfl ?_
  refine z_iadd C dX10_takes_111 ?_
  obtain ⟨v10, hv10, hf⟩ := zbind hf
  refine z_aI C hv10 dX10_takes_112 ?_
  refine z_aload_n C dX10_takes_113 rfl 1 rfl ?_
  refine z_iload_n C dX10_takes_114 rfl 2 rfl ?_
  refine z_iload C dX10_takes_115 4 rfl ?_
  obtain ⟨c11, hc11, hf⟩ := zbind hf
  obtain ⟨kc11, hc11⟩ := zck_ok hc11
  refine z_callVi (As := [.int x1, .int x4]) (F0 := 4) (L0 := 87) C (mX10_valueOf l D Ca B En C.2.2.2.2.2.2.2.1 c7.1 N x0 x1 x4 _ hc11) hRm kc11 rfl kw_1528 kw_14 kw_1525 kw_1527 kp_65 hyX10_valueOf (Nat.le_of_ble_eq_true rfl) (Nat.le_of_ble_eq_true rfl) rfl rfl (Nat.le_of_ble_eq_true rfl) dX10_takes_117 ?_
  refine z_iadd C dX10_takes_120 ?_
  obtain ⟨σ12, hσ12, hf⟩ := zbind hf
  refine z_sI C hσ12 dX10_takes_121 ?_
  refine z_aload_n C dX10_takes_122 rfl 1 rfl ?_
  obtain ⟨v13, hv13, hf⟩ := zbind hf
  refine gf_RX10_21 C hv13 dX10_takes_123 ?_
  refine z_bipush C (zi 33) dX10_takes_126 (by decide) ?_
  refine z_iload_n C dX10_takes_128 rfl 3 rfl ?_
  refine z_iadd C dX10_takes_129 ?_
  refine z_aload_n C dX10_takes_130 rfl 1 rfl ?_
  obtain ⟨v14, hv14, hf⟩ := zbind hf
  refine gf_RX10_21 C hv14 dX10_takes_131 ?_
  refine z_bipush C (zi 33) dX10_takes_134 (by decide) ?_
  refine z_iload_n C dX10_takes_136 rfl 3 rfl ?_
  refine z_iadd C dX10_takes_137 ?_
  obtain ⟨v15, hv15, hf⟩ := zbind hf
  refine z_aI C hv15 dX10_takes_138 ?_
  refine z_iconst C (zi 1) dX10_takes_139 (by decide) ?_
  refine z_iadd C dX10_takes_140 ?_
  obtain ⟨σ16, hσ16, hf⟩ := zbind hf
  refine z_sI C hσ16 dX10_takes_141 ?_
  refine z_aload_n C dX10_takes_142 rfl 1 rfl ?_
  refine z_iload_n C dX10_takes_143 rfl 3 rfl ?_
  refine z_aload_n C dX10_takes_144 rfl 1 rfl ?_
  refine z_iload C dX10_takes_145 0 rfl ?_
  obtain ⟨c17, hc17, hf⟩ := zbind hf
  obtain ⟨kc17, hc17⟩ := zck_ok hc17
  refine z_callVi (As := [.int c7.2]) (F0 := 4) (L0 := 87) C (mX10_sinkOf l D Ca B En C.2.2.2.2.2.2.2.1 σ16 N x0 c7.2 _ hc17) hRm kc17 rfl kw_1516 kw_14 kw_1513 kw_1515 kp_62 hyX10_sinkOf (Nat.le_of_ble_eq_true rfl) (Nat.le_of_ble_eq_true rfl) rfl rfl (Nat.le_of_ble_eq_true rfl) dX10_takes_147 ?_
  obtain ⟨c18, hc18, hf⟩ := zbind hf
  refine z_callSi (As := [.int x2, .int c17.2]) (F0 := 4) (L0 := 87) C (mX10_toSink l D Ca B En C.2.2.2.2.2.2.2.1 c17.1 N x2 c17.2 _ hc18) hRm kw_1496 kw_14 kw_1494 kw_1495 hyX10_toSink (Nat.le_of_ble_eq_true rfl) (Nat.le_of_ble_eq_true rfl) rfl rfl (Nat.le_of_ble_eq_true rfl) dX10_takes_150 ?_
  refine z_sipush C (zi 20000) dX10_takes_153 (by decide) ?_
  refine z_iload C dX10_takes_156 0 rfl ?_
  refine z_imul C dX10_takes_158 ?_
  refine z_aload_n C dX10_takes_159 rfl 1 rfl ?_
  obtain ⟨v19, hv19, hf⟩ := zbind hf
  refine gf_RX10_21 C hv19 dX10_takes_160 ?_
  refine z_bipush C (zi 17) dX10_takes_163 (by decide) ?_
  refine z_iload C dX10_takes_165 0 rfl ?_
  refine z_iadd C dX10_takes_167 ?_
  obtain ⟨v20, hv20, hf⟩ := zbind hf
  refine z_aI C hv20 dX10_takes_168 ?_
  refine z_iadd C dX10_takes_169 ?_
  obtain ⟨c21, hc21, hf⟩ := zbind hf
  obtain ⟨kc21, hc21⟩ := zck_ok hc21
  refine z_callVv (As := [.int c18.2, .int ((((zi 20000)) * c7.2) + v20)]) (F0 := 4) (L0 := 87) C (mX10_adds l D Ca B En C.2.2.2.2.2.2.2.1 c18.1 N x0 c18.2 ((((zi 20000)) * c7.2) + v20) _ hc21) hRm kc21 rfl kw_1443 kw_14 kw_1440 kw_1442 kp_46 hyX10_adds (Nat.le_of_ble_eq_true rfl) (Nat.le_of_ble_eq_true rfl) rfl rfl (Nat.le_of_ble_eq_true rfl) dX10_takes_170 ?_
  cases hf
  exact hq _ _ dX10_takes_173

set_option maxRecDepth 100000 in
set_option maxHeartbeats 4000000 in
theorem wfX10_takes (C : zC p s m args meth c cX10_takes RX10 6 D Ca B En) (hRm : zRm R 4 87 cells slots) (σ : zS) (x0 : Nat) (x1 : Int32) (x2 : Int32) (τ : zS) (hf : fX10_takes σ x0 x1 x2 = some τ) (hq : ∀ (pc : Nat) (lv : List (Nat × Value)), decode cX10_takes pc = .ok (.return_, 1) → zW p l e R s m args below meth c cells slots Q D Ca B 6 τ N pc lv []) : zW p l e R s m args below meth c cells slots Q D Ca B 6 σ N 0 [(0, .ref x0), (1, .int x1), (2, .int x2)] [] := by
  unfold fX10_takes at hf
  refine z_iload_n C dX10_takes_0 rfl 1 rfl ?_
  refine z_iload_n C dX10_takes_1 rfl 2 rfl ?_
  obtain ⟨c1, hc1, hf⟩ := zbind hf
  refine z_callSi (As := [.int x1, .int x2]) (F0 := 4) (L0 := 87) C (mX10_toInstance l D Ca B En C.2.2.2.2.2.2.2.1 σ N x1 x2 _ hc1) hRm kw_1450 kw_14 kw_1448 kw_1449 hyX10_toInstance (Nat.le_of_ble_eq_true rfl) (Nat.le_of_ble_eq_true rfl) rfl rfl (Nat.le_of_ble_eq_true rfl) dX10_takes_2 ?_
  refine z_istore_n (lv2 := [(3, .int c1.2), (0, .ref x0), (1, .int x1), (2, .int x2)]) C dX10_takes_5 rfl (by decide) rfl ?_
  refine z_aload_n C dX10_takes_6 rfl 1 rfl ?_
  refine z_iload_n C dX10_takes_7 rfl 0 rfl ?_
  refine z_iconst C (zi 0) dX10_takes_8 (by decide) ?_
  obtain ⟨c2, hc2, hf⟩ := zbind hf
  obtain ⟨kc2, hc2⟩ := zck_ok hc2
  refine z_callVi (As := [.int c1.2, .int ((zi 0))]) (F0 := 4) (L0 := 87) C (mX10_at l D Ca B En C.2.2.2.2.2.2.2.1 c1.1 N x0 c1.2 ((zi 0)) _ hc2) hRm kc2 rfl kw_1439 kw_14 kw_1436 kw_1438 kp_45 hyX10_at (Nat.le_of_ble_eq_true rfl) (Nat.le_of_ble_eq_true rfl) rfl rfl (Nat.le_of_ble_eq_true rfl) dX10_takes_9 ?_
  refine z_istore (lv2 := [(4, .int c2.2), (3, .int c1.2), (0, .ref x0), (1, .int x1), (2, .int x2)]) C dX10_takes_12 (by decide) rfl ?_
  refine z_aload_n C dX10_takes_14 rfl 2 rfl ?_
  refine z_iload_n C dX10_takes_15 rfl 1 rfl ?_
  refine z_iconst C (zi 0) dX10_takes_16 (by decide) ?_
  obtain ⟨c3, hc3, hf⟩ := zbind hf
  obtain ⟨kc3, hc3⟩ := zck_ok hc3
  refine z_callVv (As := [.int c1.2, .int ((zi 0))]) (F0 := 4) (L0 := 87) C (mX10_removes l D Ca B En C.2.2.2.2.2.2.2.1 c2.1 N x0 c1.2 ((zi 0)) _ hc3) hRm kc3 rfl kw_1504 kw_14 kw_1501 kw_1503 kp_59 hyX10_removes (Nat.le_of_ble_eq_true rfl) (Nat.le_of_ble_eq_true rfl) rfl rfl (Nat.le_of_ble_eq_true rfl) dX10_takes_17 ?_
  refine z_aload_n C dX10_takes_20 rfl 2 rfl ?_
  obtain ⟨v4, hv4, hf⟩ := zbind hf
  refine gf_RX10_21 C hv4 dX10_takes_21 ?_
  refine z_bipush C (zi 37) dX10_takes_24 (by decide) ?_
  refine z_iload_n C dX10_takes_26 rfl 4 rfl ?_
  refine z_iadd C dX10_takes_27 ?_
  refine z_iload_n C dX10_takes_28 rfl 3 rfl ?_
  obtain ⟨σ5, hσ5, hf⟩ := zbind hf
  refine z_sI C hσ5 dX10_takes_29 ?_
  refine z_iload C dX10_takes_30 0 rfl ?_
  refine z_iconst C (zi (-1)) dX10_takes_32 (by decide) ?_
  refine z_icmp_ne C 43 dX10_takes_33 (by decide) (fun q32 => ?_) (fun q32 => ?_)
  · rw [if_neg q32] at hf
    refine z_aload_n C dX10_takes_43 rfl 2 rfl ?_
    obtain ⟨c6, hc6, hf⟩ := zbind hf
    obtain ⟨kc6, hc6⟩ := zck_ok hc6
    refine z_callVi (As := []) (F0 := 4) (L0 := 87) C (mX10_overtakes l D Ca B En C.2.2.2.2.2.2.2.1 σ5 N x0  _ hc6) hRm kc6 rfl kw_1477 kw_14 kw_1474 kw_1476 kp_53 hyX10_overtakes (Nat.le_of_ble_eq_true rfl) (Nat.le_of_ble_eq_true rfl) rfl rfl (Nat.le_of_ble_eq_true rfl) dX10_takes_44 ?_
    refine z_if_eq C 85 dX10_takes_47 (by decide) (fun q30 => ?_) (fun q30 => ?_)
    · rw [if_pos q30] at hf
      refine z_sub [2, 3, 4, 0] rfl ?_
      exact wjX10_takes_85 C hRm _ _ _ _ _  _ hf hq
    · rw [if_neg q30] at hf
      refine z_aload_n C dX10_takes_50 rfl 2 rfl ?_
      refine z_iload_n C dX10_takes_51 rfl 4 rfl ?_
      obtain ⟨c22, hc22, hf⟩ := zbind hf
      obtain ⟨kc22, hc22⟩ := zck_ok hc22
      refine z_callVi (As := [.int x2]) (F0 := 4) (L0 := 87) C (mX10_arrivedAt l D Ca B En C.2.2.2.2.2.2.2.1 c6.1 N x0 x2 _ hc22) hRm kc22 rfl kw_1489 kw_14 kw_1486 kw_1488 kp_56 hyX10_arrivedAt (Nat.le_of_ble_eq_true rfl) (Nat.le_of_ble_eq_true rfl) rfl rfl (Nat.le_of_ble_eq_true rfl) dX10_takes_52 ?_
      refine z_if_le C 85 dX10_takes_55 (by decide) (fun q29 => ?_) (fun q29 => ?_)
      · rw [if_pos q29] at hf
        refine z_sub [2, 3, 4, 0] rfl ?_
        exact wjX10_takes_85 C hRm _ _ _ _ _  _ hf hq
      · rw [if_neg q29] at hf
        refine z_aload_n C dX10_takes_58 rfl 2 rfl ?_
        obtain ⟨v23, hv23, hf⟩ := zbind hf
        refine gf_RX10_21 C hv23 dX10_takes_59 ?_
        refine z_bipush C (zi 74) dX10_takes_62 (by decide) ?_
        refine z_iload_n C dX10_takes_64 rfl 3 rfl ?_
        refine z_iload_n C dX10_takes_65 rfl 4 rfl ?_
        obtain ⟨c24, hc24, hf⟩ := zbind hf
        refine z_callSi (As := [.int x1, .int x2]) (F0 := 4) (L0 := 87) C (mX10_channelIn l D Ca B En C.2.2.2.2.2.2.2.1 c22.1 N x1 x2 _ hc24) hRm kw_1414 kw_14 kw_1412 kw_1413 hyX10_channelIn (Nat.le_of_ble_eq_true rfl) (Nat.le_of_ble_eq_true rfl) rfl rfl (Nat.le_of_ble_eq_true rfl) dX10_takes_66 ?_
        refine z_iadd C dX10_takes_69 ?_
        obtain ⟨v25, hv25, hf⟩ := zbind hf
        refine z_aI C hv25 dX10_takes_70 ?_
        refine z_if_ne C 85 dX10_takes_71 (by decide) (fun q28 => ?_) (fun q28 => ?_)
        · rw [if_neg q28] at hf
          refine z_sub [2, 3, 4, 0] rfl ?_
          exact wjX10_takes_85 C hRm _ _ _ _ _  _ hf hq
        · rw [if_pos q28] at hf
          refine z_aload_n C dX10_takes_74 rfl 2 rfl ?_
          refine z_iload_n C dX10_takes_75 rfl 3 rfl ?_
          refine z_iload_n C dX10_takes_76 rfl 4 rfl ?_
          obtain ⟨c26, hc26, hf⟩ := zbind hf
          refine z_callSi (As := [.int x1, .int x2]) (F0 := 4) (L0 := 87) C (mX10_keptIn l D Ca B En C.2.2.2.2.2.2.2.1 c24.1 N x1 x2 _ hc26) hRm kw_1411 kw_14 kw_1409 kw_1410 hyX10_keptIn (Nat.le_of_ble_eq_true rfl) (Nat.le_of_ble_eq_true rfl) rfl rfl (Nat.le_of_ble_eq_true rfl) dX10_takes_77 ?_
          refine z_iload C dX10_takes_80 0 rfl ?_
          obtain ⟨c27, hc27, hf⟩ := zbind hf
          obtain ⟨kc27, hc27⟩ := zck_ok hc27
          refine z_callVv (As := [.int c26.2, .int c2.2]) (F0 := 4) (L0 := 87) C (mX10_adds l D Ca B En C.2.2.2.2.2.2.2.1 c26.1 N x0 c26.2 c2.2 _ hc27) hRm kc27 rfl kw_1443 kw_14 kw_1440 kw_1442 kp_46 hyX10_adds (Nat.le_of_ble_eq_true rfl) (Nat.le_of_ble_eq_true rfl) rfl rfl (Nat.le_of_ble_eq_true rfl) dX10_takes_82 ?_
          refine z_sub [2, 3, 4, 0] rfl ?_
          exact wjX10_takes_85 C hRm _ _ _ _ _  _ hf hq
  · rw [if_pos q32] at hf
    refine z_aload_n C dX10_takes_36 rfl 2 rfl ?_
    refine z_iload_n C dX10_takes_37 rfl 3 rfl ?_
    refine z_iload_n C dX10_takes_38 rfl 4 rfl ?_
    obtain ⟨c31, hc31, hf⟩ := zbind hf
    obtain ⟨kc31, hc31⟩ := zck_ok hc31
    refine z_callVv (As := [.int x1, .int x2]) (F0 := 4) (L0 := 87) C (mX10_aligns l D Ca B En C.2.2.2.2.2.2.2.1 σ5 N x0 x1 x2 _ hc31) hRm kc31 rfl kw_1524 kw_14 kw_1521 kw_1523 kp_64 hyX10_aligns (Nat.le_of_ble_eq_true rfl) (Nat.le_of_ble_eq_true rfl) rfl rfl (Nat.le_of_ble_eq_true rfl) dX10_takes_39 ?_
    cases hf
    exact hq _ _ dX10_takes_42

theorem mX10_takes (l : Launch) (D : va_G) (Ca : Nat → ClassId) (B : Nat) (En : State → Prop) (hE : zEk B En) (σ : zS) (N : Nat) (x0 : Nat) (x1 : Int32) (x2 : Int32) (X : zS) (hf : fX10_takes σ x0 x1 x2 = some X) : zMv l D Ca B En yX10_takes cX10_takes 6 (Option.none : Option Jvm.ClassFile.FieldType) 4 87 [.ref x0, .int x1, .int x2] σ N X () :=
  zMet_v (own := RX10) hE (by decide +kernel) rfl (Nat.le_of_ble_eq_true rfl) (fun p e s m args below meth c C hr hRm => wfX10_takes C hRm σ x0 x1 x2 X hf (fun pc lv hd => zfin_v (r := ()) C hr hd))
theorem dX10_handles_0 : decode cX10_handles 0 = .ok (.aload_n 0, 1) := by decide +kernel
theorem dX10_handles_1 : decode cX10_handles 1 = .ok (.getfield 21, 3) := by decide +kernel
theorem dX10_handles_4 : decode cX10_handles 4 = .ok (.bipush 37, 2) := by decide +kernel
theorem dX10_handles_6 : decode cX10_handles 6 = .ok (.iload_n 1, 1) := by decide +kernel
theorem dX10_handles_7 : decode cX10_handles 7 = .ok (.iadd, 1) := by decide +kernel
theorem dX10_handles_8 : decode cX10_handles 8 = .ok (.iaload, 1) := by decide +kernel
theorem dX10_handles_9 : decode cX10_handles 9 = .ok (.iconst 1, 1) := by decide +kernel
theorem dX10_handles_10 : decode cX10_handles 10 = .ok (.iadd, 1) := by decide +kernel
theorem dX10_handles_11 : decode cX10_handles 11 = .ok (.istore_n 2, 1) := by decide +kernel
theorem dX10_handles_12 : decode cX10_handles 12 = .ok (.iconst 0, 1) := by decide +kernel
theorem dX10_handles_13 : decode cX10_handles 13 = .ok (.istore_n 3, 1) := by decide +kernel
theorem dX10_handles_14 : decode cX10_handles 14 = .ok (.iload_n 3, 1) := by decide +kernel
theorem dX10_handles_15 : decode cX10_handles 15 = .ok (.aload_n 0, 1) := by decide +kernel
theorem dX10_handles_16 : decode cX10_handles 16 = .ok (.getfield 75, 3) := by decide +kernel
theorem dX10_handles_19 : decode cX10_handles 19 = .ok (.if_icmp .ge 40, 3) := by decide +kernel
theorem dX10_handles_22 : decode cX10_handles 22 = .ok (.iload_n 2, 1) := by decide +kernel
theorem dX10_handles_23 : decode cX10_handles 23 = .ok (.iload_n 3, 1) := by decide +kernel
theorem dX10_handles_24 : decode cX10_handles 24 = .ok (.iadd, 1) := by decide +kernel
theorem dX10_handles_25 : decode cX10_handles 25 = .ok (.aload_n 0, 1) := by decide +kernel
theorem dX10_handles_26 : decode cX10_handles 26 = .ok (.getfield 75, 3) := by decide +kernel
theorem dX10_handles_29 : decode cX10_handles 29 = .ok (.irem, 1) := by decide +kernel
theorem dX10_handles_30 : decode cX10_handles 30 = .ok (.istore 4, 2) := by decide +kernel
theorem dX10_handles_32 : decode cX10_handles 32 = .ok (.aload_n 0, 1) := by decide +kernel
theorem dX10_handles_33 : decode cX10_handles 33 = .ok (.iload 4, 2) := by decide +kernel
theorem dX10_handles_35 : decode cX10_handles 35 = .ok (.iload_n 1, 1) := by decide +kernel
theorem dX10_handles_36 : decode cX10_handles 36 = .ok (.invokevirtual 195, 3) := by decide +kernel
theorem dX10_handles_39 : decode cX10_handles 39 = .ok (.ifCond .ne 6, 3) := by decide +kernel
theorem dX10_handles_42 : decode cX10_handles 42 = .ok (.goto 11, 3) := by decide +kernel
theorem dX10_handles_45 : decode cX10_handles 45 = .ok (.aload_n 0, 1) := by decide +kernel
theorem dX10_handles_46 : decode cX10_handles 46 = .ok (.iload 4, 2) := by decide +kernel
theorem dX10_handles_48 : decode cX10_handles 48 = .ok (.iload_n 1, 1) := by decide +kernel
theorem dX10_handles_49 : decode cX10_handles 49 = .ok (.invokevirtual 199, 3) := by decide +kernel
theorem dX10_handles_52 : decode cX10_handles 52 = .ok (.return_, 1) := by decide +kernel
theorem dX10_handles_53 : decode cX10_handles 53 = .ok (.iinc 3 1, 3) := by decide +kernel
theorem dX10_handles_56 : decode cX10_handles 56 = .ok (.goto (-42), 3) := by decide +kernel
theorem dX10_handles_59 : decode cX10_handles 59 = .ok (.return_, 1) := by decide +kernel
theorem hyX10_handles : yX10_handles.cls ≠ "java/lang/invoke/MethodHandle" ∧ yX10_handles.cls ≠ "java/lang/invoke/VarHandle" ∧ (parseMethodDescriptor yX10_handles.desc).map (fun d => d.parameters.length) = some 1 := ⟨by decide +kernel, by decide +kernel, by decide +kernel⟩
set_option maxRecDepth 100000 in
set_option maxHeartbeats 4000000 in
theorem wsX10_handles_14b (C : zC p s m args meth c cX10_handles RX10 5 D Ca B En) (hRm : zRm R 5 112 cells slots) (x0 : Nat) (x1 : Int32) (x2 : Int32) (σ : zS) (u3 : Int32) (y : (zS × Int32) ⊕ ((zS × Int32) ⊕ zS)) (hf : sX10_handles_14b x0 x1 x2 σ u3 = some y) (hk : (∀ z : (zS × Int32), y = .inl z → zW p l e R s m args below meth c cells slots Q D Ca B 5 z.1 N 14 [(0, .ref x0), (1, .int x1), (2, .int x2), (3, .int z.2)] []) ∧ (∀ z : (zS × Int32), y = .inr (.inl z) → zW p l e R s m args below meth c cells slots Q D Ca B 5 z.1 N 45 [(0, .ref x0), (1, .int x1), (4, .int z.2)] []) ∧ (∀ z : zS, y = .inr (.inr z) → zW p l e R s m args below meth c cells slots Q D Ca B 5 z N 59 [] [])) : zW p l e R s m args below meth c cells slots Q D Ca B 5 σ N 14 [(0, .ref x0), (1, .int x1), (2, .int x2), (3, .int u3)] [] := by
  unfold sX10_handles_14b at hf
  refine z_iload_n C dX10_handles_14 rfl 3 rfl ?_
  refine z_aload_n C dX10_handles_15 rfl 0 rfl ?_
  obtain ⟨v3, hv3, hf⟩ := zbind hf
  refine gf_RX10_75 C hv3 dX10_handles_16 ?_
  refine z_icmp_ge C 59 dX10_handles_19 (by decide) (fun q8 => ?_) (fun q8 => ?_)
  · rw [if_pos q8] at hf
    cases hf
    refine z_sub [] rfl ?_
    exact hk.2.2 _ rfl
  · rw [if_neg q8] at hf
    refine z_iload_n C dX10_handles_22 rfl 2 rfl ?_
    refine z_iload_n C dX10_handles_23 rfl 3 rfl ?_
    refine z_iadd C dX10_handles_24 ?_
    refine z_aload_n C dX10_handles_25 rfl 0 rfl ?_
    obtain ⟨v4, hv4, hf⟩ := zbind hf
    refine gf_RX10_75 C hv4 dX10_handles_26 ?_
    obtain ⟨d5, hd5, hf⟩ := zbind hf
    refine z_irem C dX10_handles_29 (znz_ok hd5) ?_
    refine z_istore (lv2 := [(4, .int ((x2 + u3) - (x2 + u3) / v4 * v4)), (0, .ref x0), (1, .int x1), (2, .int x2), (3, .int u3)]) C dX10_handles_30 (by decide) rfl ?_
    refine z_aload_n C dX10_handles_32 rfl 1 rfl ?_
    refine z_iload C dX10_handles_33 0 rfl ?_
    refine z_iload_n C dX10_handles_35 rfl 2 rfl ?_
    obtain ⟨c6, hc6, hf⟩ := zbind hf
    obtain ⟨kc6, hc6⟩ := zck_ok hc6
    refine z_callVi (As := [.int ((x2 + u3) - (x2 + u3) / v4 * v4), .int x1]) (F0 := 5) (L0 := 112) C (mX10_canTake l D Ca B En C.2.2.2.2.2.2.2.1 σ N x0 ((x2 + u3) - (x2 + u3) / v4 * v4) x1 _ hc6) hRm kc6 rfl kw_1512 kw_14 kw_1509 kw_1511 kp_61 hyX10_canTake (Nat.le_of_ble_eq_true rfl) (Nat.le_of_ble_eq_true rfl) rfl rfl (Nat.le_of_ble_eq_true rfl) dX10_handles_36 ?_
    refine z_if_ne C 45 dX10_handles_39 (by decide) (fun q7 => ?_) (fun q7 => ?_)
    · rw [if_neg q7] at hf
      cases hf
      refine z_sub [1, 2, 0] rfl ?_
      exact hk.2.1 _ rfl
    · rw [if_pos q7] at hf
      refine z_goto C 53 dX10_handles_42 (by decide) ?_
      refine z_iinc (lv2 := [(3, .int (u3 + (zi 1))), (4, .int ((x2 + u3) - (x2 + u3) / v4 * v4)), (0, .ref x0), (1, .int x1), (2, .int x2)]) C (u3 + (zi 1)) dX10_handles_53 4 rfl rfl (by decide) rfl ?_
      refine z_goto C 14 dX10_handles_56 (by decide) ?_
      cases hf
      refine z_sub [2, 3, 4, 0] rfl ?_
      exact hk.1 _ rfl

theorem wsX10_handles_14 (C : zC p s m args meth c cX10_handles RX10 5 D Ca B En) (hRm : zRm R 5 112 cells slots) (x0 : Nat) (x1 : Int32) (x2 : Int32) (n : Nat) (z : (zS × Int32)) (x : ((zS × Int32) ⊕ zS)) (hf : zloop (sX10_handles_14 x0 x1 x2) n z = some x) (hk : (∀ o : (zS × Int32), x = (.inl o) → zW p l e R s m args below meth c cells slots Q D Ca B 5 o.1 N 45 [(0, .ref x0), (1, .int x1), (4, .int o.2)] []) ∧ (∀ o : zS, x = (.inr o) → zW p l e R s m args below meth c cells slots Q D Ca B 5 o N 59 [] [])) : zW p l e R s m args below meth c cells slots Q D Ca B 5 z.1 N 14 [(0, .ref x0), (1, .int x1), (2, .int x2), (3, .int z.2)] [] := by
  refine zloop_W (P := fun z : (zS × Int32) => zW p l e R s m args below meth c cells slots Q D Ca B 5 z.1 N 14 [(0, .ref x0), (1, .int x1), (2, .int x2), (3, .int z.2)] []) (K := fun x : ((zS × Int32) ⊕ zS) => (∀ o : (zS × Int32), x = (.inl o) → zW p l e R s m args below meth c cells slots Q D Ca B 5 o.1 N 45 [(0, .ref x0), (1, .int x1), (4, .int o.2)] []) ∧ (∀ o : zS, x = (.inr o) → zW p l e R s m args below meth c cells slots Q D Ca B 5 o N 59 [] [])) ?_ n z x hf hk
  intro z y hy h1 h2
  refine wsX10_handles_14b C hRm x0 x1 x2 z.1 z.2 y hy ⟨fun z2 e => h1 z2 e, fun o e => (h2 _ e).1 o rfl, fun o e => (h2 _ e).2 o rfl⟩
set_option maxRecDepth 100000 in
set_option maxHeartbeats 4000000 in
theorem wfX10_handles (C : zC p s m args meth c cX10_handles RX10 5 D Ca B En) (hRm : zRm R 5 112 cells slots) (σ : zS) (x0 : Nat) (x1 : Int32) (τ : zS) (hf : fX10_handles σ x0 x1 = some τ) (hq : ∀ (pc : Nat) (lv : List (Nat × Value)), decode cX10_handles pc = .ok (.return_, 1) → zW p l e R s m args below meth c cells slots Q D Ca B 5 τ N pc lv []) : zW p l e R s m args below meth c cells slots Q D Ca B 5 σ N 0 [(0, .ref x0), (1, .int x1)] [] := by
  unfold fX10_handles at hf
  refine z_aload_n C dX10_handles_0 rfl 0 rfl ?_
  obtain ⟨v1, hv1, hf⟩ := zbind hf
  refine gf_RX10_21 C hv1 dX10_handles_1 ?_
  refine z_bipush C (zi 37) dX10_handles_4 (by decide) ?_
  refine z_iload_n C dX10_handles_6 rfl 1 rfl ?_
  refine z_iadd C dX10_handles_7 ?_
  obtain ⟨v2, hv2, hf⟩ := zbind hf
  refine z_aI C hv2 dX10_handles_8 ?_
  refine z_iconst C (zi 1) dX10_handles_9 (by decide) ?_
  refine z_iadd C dX10_handles_10 ?_
  refine z_istore_n (lv2 := [(2, .int (v2 + ((zi 1)))), (0, .ref x0), (1, .int x1)]) C dX10_handles_11 rfl (by decide) rfl ?_
  refine z_iconst C (zi 0) dX10_handles_12 (by decide) ?_
  refine z_istore_n (lv2 := [(3, .int ((zi 0))), (2, .int (v2 + ((zi 1)))), (0, .ref x0), (1, .int x1)]) C dX10_handles_13 rfl (by decide) rfl ?_
  obtain ⟨o9, ho9, hf⟩ := zbind hf
  refine z_sub [2, 3, 1, 0] rfl ?_
  refine wsX10_handles_14 C hRm _ _ _ zfuel (σ, (zi 0)) o9 ho9 ⟨?_, ?_⟩
  · intro z10 e9
    subst e9
    dsimp only at hf
    refine z_aload_n C dX10_handles_45 rfl 0 rfl ?_
    refine z_iload C dX10_handles_46 2 rfl ?_
    refine z_iload_n C dX10_handles_48 rfl 1 rfl ?_
    obtain ⟨c11, hc11, hf⟩ := zbind hf
    obtain ⟨kc11, hc11⟩ := zck_ok hc11
    refine z_callVv (As := [.int z10.2, .int x1]) (F0 := 5) (L0 := 112) C (mX10_takes l D Ca B En C.2.2.2.2.2.2.2.1 z10.1 N x0 z10.2 x1 _ hc11) hRm kc11 rfl kw_1520 kw_14 kw_1517 kw_1519 kp_63 hyX10_takes (Nat.le_of_ble_eq_true rfl) (Nat.le_of_ble_eq_true rfl) rfl rfl (Nat.le_of_ble_eq_true rfl) dX10_handles_49 ?_
    cases hf
    exact hq _ _ dX10_handles_52
  · intro z12 e9
    subst e9
    dsimp only at hf
    cases hf
    exact hq _ _ dX10_handles_59

theorem mX10_handles (l : Launch) (D : va_G) (Ca : Nat → ClassId) (B : Nat) (En : State → Prop) (hE : zEk B En) (σ : zS) (N : Nat) (x0 : Nat) (x1 : Int32) (X : zS) (hf : fX10_handles σ x0 x1 = some X) : zMv l D Ca B En yX10_handles cX10_handles 5 (Option.none : Option Jvm.ClassFile.FieldType) 5 112 [.ref x0, .int x1] σ N X () :=
  zMet_v (own := RX10) hE (by decide +kernel) rfl (Nat.le_of_ble_eq_true rfl) (fun p e s m args below meth c C hr hRm => wfX10_handles C hRm σ x0 x1 X hf (fun pc lv hd => zfin_v (r := ()) C hr hd))
theorem dX10_takesAtSink_0 : decode cX10_takesAtSink 0 = .ok (.iload_n 1, 1) := by decide +kernel
theorem dX10_takesAtSink_1 : decode cX10_takesAtSink 1 = .ok (.iload_n 2, 1) := by decide +kernel
theorem dX10_takesAtSink_2 : decode cX10_takesAtSink 2 = .ok (.invokestatic 152, 3) := by decide +kernel
theorem dX10_takesAtSink_5 : decode cX10_takesAtSink 5 = .ok (.istore_n 3, 1) := by decide +kernel
theorem dX10_takesAtSink_6 : decode cX10_takesAtSink 6 = .ok (.aload_n 0, 1) := by decide +kernel
theorem dX10_takesAtSink_7 : decode cX10_takesAtSink 7 = .ok (.iload_n 3, 1) := by decide +kernel
theorem dX10_takesAtSink_8 : decode cX10_takesAtSink 8 = .ok (.iconst 0, 1) := by decide +kernel
theorem dX10_takesAtSink_9 : decode cX10_takesAtSink 9 = .ok (.invokevirtual 100, 3) := by decide +kernel
theorem dX10_takesAtSink_12 : decode cX10_takesAtSink 12 = .ok (.istore 4, 2) := by decide +kernel
theorem dX10_takesAtSink_14 : decode cX10_takesAtSink 14 = .ok (.aload_n 0, 1) := by decide +kernel
theorem dX10_takesAtSink_15 : decode cX10_takesAtSink 15 = .ok (.iload_n 3, 1) := by decide +kernel
theorem dX10_takesAtSink_16 : decode cX10_takesAtSink 16 = .ok (.iconst 0, 1) := by decide +kernel
theorem dX10_takesAtSink_17 : decode cX10_takesAtSink 17 = .ok (.invokevirtual 173, 3) := by decide +kernel
theorem dX10_takesAtSink_20 : decode cX10_takesAtSink 20 = .ok (.aload_n 0, 1) := by decide +kernel
theorem dX10_takesAtSink_21 : decode cX10_takesAtSink 21 = .ok (.getfield 21, 3) := by decide +kernel
theorem dX10_takesAtSink_24 : decode cX10_takesAtSink 24 = .ok (.bipush 41, 2) := by decide +kernel
theorem dX10_takesAtSink_26 : decode cX10_takesAtSink 26 = .ok (.iload_n 2, 1) := by decide +kernel
theorem dX10_takesAtSink_27 : decode cX10_takesAtSink 27 = .ok (.iadd, 1) := by decide +kernel
theorem dX10_takesAtSink_28 : decode cX10_takesAtSink 28 = .ok (.iload_n 1, 1) := by decide +kernel
theorem dX10_takesAtSink_29 : decode cX10_takesAtSink 29 = .ok (.iastore, 1) := by decide +kernel
theorem dX10_takesAtSink_30 : decode cX10_takesAtSink 30 = .ok (.iload 4, 2) := by decide +kernel
theorem dX10_takesAtSink_32 : decode cX10_takesAtSink 32 = .ok (.iconst (-1), 1) := by decide +kernel
theorem dX10_takesAtSink_33 : decode cX10_takesAtSink 33 = .ok (.if_icmp .ne 10, 3) := by decide +kernel
theorem dX10_takesAtSink_36 : decode cX10_takesAtSink 36 = .ok (.aload_n 0, 1) := by decide +kernel
theorem dX10_takesAtSink_37 : decode cX10_takesAtSink 37 = .ok (.iload_n 1, 1) := by decide +kernel
theorem dX10_takesAtSink_38 : decode cX10_takesAtSink 38 = .ok (.iload_n 2, 1) := by decide +kernel
theorem dX10_takesAtSink_39 : decode cX10_takesAtSink 39 = .ok (.invokevirtual 215, 3) := by decide +kernel
theorem dX10_takesAtSink_42 : decode cX10_takesAtSink 42 = .ok (.return_, 1) := by decide +kernel
theorem dX10_takesAtSink_43 : decode cX10_takesAtSink 43 = .ok (.aload_n 0, 1) := by decide +kernel
theorem dX10_takesAtSink_44 : decode cX10_takesAtSink 44 = .ok (.invokevirtual 205, 3) := by decide +kernel
theorem dX10_takesAtSink_47 : decode cX10_takesAtSink 47 = .ok (.ifCond .eq 38, 3) := by decide +kernel
theorem dX10_takesAtSink_50 : decode cX10_takesAtSink 50 = .ok (.aload_n 0, 1) := by decide +kernel
theorem dX10_takesAtSink_51 : decode cX10_takesAtSink 51 = .ok (.iload_n 2, 1) := by decide +kernel
theorem dX10_takesAtSink_52 : decode cX10_takesAtSink 52 = .ok (.invokevirtual 164, 3) := by decide +kernel
theorem dX10_takesAtSink_55 : decode cX10_takesAtSink 55 = .ok (.ifCond .le 30, 3) := by decide +kernel
theorem dX10_takesAtSink_58 : decode cX10_takesAtSink 58 = .ok (.aload_n 0, 1) := by decide +kernel
theorem dX10_takesAtSink_59 : decode cX10_takesAtSink 59 = .ok (.getfield 21, 3) := by decide +kernel
theorem dX10_takesAtSink_62 : decode cX10_takesAtSink 62 = .ok (.bipush 90, 2) := by decide +kernel
theorem dX10_takesAtSink_64 : decode cX10_takesAtSink 64 = .ok (.iload_n 1, 1) := by decide +kernel
theorem dX10_takesAtSink_65 : decode cX10_takesAtSink 65 = .ok (.iload_n 2, 1) := by decide +kernel
theorem dX10_takesAtSink_66 : decode cX10_takesAtSink 66 = .ok (.invokestatic 125, 3) := by decide +kernel
theorem dX10_takesAtSink_69 : decode cX10_takesAtSink 69 = .ok (.iadd, 1) := by decide +kernel
theorem dX10_takesAtSink_70 : decode cX10_takesAtSink 70 = .ok (.iaload, 1) := by decide +kernel
theorem dX10_takesAtSink_71 : decode cX10_takesAtSink 71 = .ok (.ifCond .ne 14, 3) := by decide +kernel
theorem dX10_takesAtSink_74 : decode cX10_takesAtSink 74 = .ok (.aload_n 0, 1) := by decide +kernel
theorem dX10_takesAtSink_75 : decode cX10_takesAtSink 75 = .ok (.iload_n 1, 1) := by decide +kernel
theorem dX10_takesAtSink_76 : decode cX10_takesAtSink 76 = .ok (.iload_n 2, 1) := by decide +kernel
theorem dX10_takesAtSink_77 : decode cX10_takesAtSink 77 = .ok (.invokestatic 137, 3) := by decide +kernel
theorem dX10_takesAtSink_80 : decode cX10_takesAtSink 80 = .ok (.iload 4, 2) := by decide +kernel
theorem dX10_takesAtSink_82 : decode cX10_takesAtSink 82 = .ok (.invokevirtual 104, 3) := by decide +kernel
theorem dX10_takesAtSink_85 : decode cX10_takesAtSink 85 = .ok (.aload_n 0, 1) := by decide +kernel
theorem dX10_takesAtSink_86 : decode cX10_takesAtSink 86 = .ok (.sipush 9792, 3) := by decide +kernel
theorem dX10_takesAtSink_89 : decode cX10_takesAtSink 89 = .ok (.iload_n 2, 1) := by decide +kernel
theorem dX10_takesAtSink_90 : decode cX10_takesAtSink 90 = .ok (.invokestatic 155, 3) := by decide +kernel
theorem dX10_takesAtSink_93 : decode cX10_takesAtSink 93 = .ok (.iload 4, 2) := by decide +kernel
theorem dX10_takesAtSink_95 : decode cX10_takesAtSink 95 = .ok (.invokevirtual 104, 3) := by decide +kernel
theorem dX10_takesAtSink_98 : decode cX10_takesAtSink 98 = .ok (.return_, 1) := by decide +kernel
theorem hyX10_takesAtSink : yX10_takesAtSink.cls ≠ "java/lang/invoke/MethodHandle" ∧ yX10_takesAtSink.cls ≠ "java/lang/invoke/VarHandle" ∧ (parseMethodDescriptor yX10_takesAtSink.desc).map (fun d => d.parameters.length) = some 2 := ⟨by decide +kernel, by decide +kernel, by decide +kernel⟩
set_option maxRecDepth 100000 in
set_option maxHeartbeats 4000000 in
theorem wjX10_takesAtSink_85 (C : zC p s m args meth c cX10_takesAtSink RX10 5 D Ca B En) (hRm : zRm R 5 111 cells slots) (σ : zS) (x0 : Nat) (x2 : Int32) (x4 : Int32)  (τ : zS) (hf : jX10_takesAtSink_85 σ x0 x2 x4  = some τ) (hq : ∀ (pc : Nat) (lv : List (Nat × Value)), decode cX10_takesAtSink pc = .ok (.return_, 1) → zW p l e R s m args below meth c cells slots Q D Ca B 5 τ N pc lv []) : zW p l e R s m args below meth c cells slots Q D Ca B 5 σ N 85 [(0, .ref x0), (2, .int x2), (4, .int x4)] [] := by
  unfold jX10_takesAtSink_85 at hf
  refine z_aload_n C dX10_takesAtSink_85 rfl 0 rfl ?_
  refine z_sipush C (zi 9792) dX10_takesAtSink_86 (by decide) ?_
  refine z_iload_n C dX10_takesAtSink_89 rfl 1 rfl ?_
  obtain ⟨c7, hc7, hf⟩ := zbind hf
  refine z_callSi (As := [.int ((zi 9792)), .int x2]) (F0 := 5) (L0 := 111) C (mX10_results l D Ca B En C.2.2.2.2.2.2.2.1 σ N ((zi 9792)) x2 _ hc7) hRm kw_1431 kw_14 kw_1429 kw_1430 hyX10_results (Nat.le_of_ble_eq_true rfl) (Nat.le_of_ble_eq_true rfl) rfl rfl (Nat.le_of_ble_eq_true rfl) dX10_takesAtSink_90 ?_
  refine z_iload C dX10_takesAtSink_93 2 rfl ?_
  obtain ⟨c8, hc8, hf⟩ := zbind hf
  obtain ⟨kc8, hc8⟩ := zck_ok hc8
  refine z_callVv (As := [.int c7.2, .int x4]) (F0 := 5) (L0 := 111) C (mX10_adds l D Ca B En C.2.2.2.2.2.2.2.1 c7.1 N x0 c7.2 x4 _ hc8) hRm kc8 rfl kw_1443 kw_14 kw_1440 kw_1442 kp_46 hyX10_adds (Nat.le_of_ble_eq_true rfl) (Nat.le_of_ble_eq_true rfl) rfl rfl (Nat.le_of_ble_eq_true rfl) dX10_takesAtSink_95 ?_
  cases hf
  exact hq _ _ dX10_takesAtSink_98

set_option maxRecDepth 100000 in
set_option maxHeartbeats 4000000 in
theorem wfX10_takesAtSink (C : zC p s m args meth c cX10_takesAtSink RX10 5 D Ca B En) (hRm : zRm R 5 111 cells slots) (σ : zS) (x0 : Nat) (x1 : Int32) (x2 : Int32) (τ : zS) (hf : fX10_takesAtSink σ x0 x1 x2 = some τ) (hq : ∀ (pc : Nat) (lv : List (Nat × Value)), decode cX10_takesAtSink pc = .ok (.return_, 1) → zW p l e R s m args below meth c cells slots Q D Ca B 5 τ N pc lv []) : zW p l e R s m args below meth c cells slots Q D Ca B 5 σ N 0 [(0, .ref x0), (1, .int x1), (2, .int x2)] [] := by
  unfold fX10_takesAtSink at hf
  refine z_iload_n C dX10_takesAtSink_0 rfl 1 rfl ?_
  refine z_iload_n C dX10_takesAtSink_1 rfl 2 rfl ?_
  obtain ⟨c1, hc1, hf⟩ := zbind hf
  refine z_callSi (As := [.int x1, .int x2]) (F0 := 5) (L0 := 111) C (mX10_toSink l D Ca B En C.2.2.2.2.2.2.2.1 σ N x1 x2 _ hc1) hRm kw_1496 kw_14 kw_1494 kw_1495 hyX10_toSink (Nat.le_of_ble_eq_true rfl) (Nat.le_of_ble_eq_true rfl) rfl rfl (Nat.le_of_ble_eq_true rfl) dX10_takesAtSink_2 ?_
  refine z_istore_n (lv2 := [(3, .int c1.2), (0, .ref x0), (1, .int x1), (2, .int x2)]) C dX10_takesAtSink_5 rfl (by decide) rfl ?_
  refine z_aload_n C dX10_takesAtSink_6 rfl 1 rfl ?_
  refine z_iload_n C dX10_takesAtSink_7 rfl 0 rfl ?_
  refine z_iconst C (zi 0) dX10_takesAtSink_8 (by decide) ?_
  obtain ⟨c2, hc2, hf⟩ := zbind hf
  obtain ⟨kc2, hc2⟩ := zck_ok hc2
  refine z_callVi (As := [.int c1.2, .int ((zi 0))]) (F0 := 5) (L0 := 111) C (mX10_at l D Ca B En C.2.2.2.2.2.2.2.1 c1.1 N x0 c1.2 ((zi 0)) _ hc2) hRm kc2 rfl kw_1439 kw_14 kw_1436 kw_1438 kp_45 hyX10_at (Nat.le_of_ble_eq_true rfl) (Nat.le_of_ble_eq_true rfl) rfl rfl (Nat.le_of_ble_eq_true rfl) dX10_takesAtSink_9 ?_
  refine z_istore (lv2 := [(4, .int c2.2), (3, .int c1.2), (0, .ref x0), (1, .int x1), (2, .int x2)]) C dX10_takesAtSink_12 (by decide) rfl ?_
  refine z_aload_n C dX10_takesAtSink_14 rfl 2 rfl ?_
  refine z_iload_n C dX10_takesAtSink_15 rfl 1 rfl ?_
  refine z_iconst C (zi 0) dX10_takesAtSink_16 (by decide) ?_
  obtain ⟨c3, hc3, hf⟩ := zbind hf
  obtain ⟨kc3, hc3⟩ := zck_ok hc3
  refine z_callVv (As := [.int c1.2, .int ((zi 0))]) (F0 := 5) (L0 := 111) C (mX10_removes l D Ca B En C.2.2.2.2.2.2.2.1 c2.1 N x0 c1.2 ((zi 0)) _ hc3) hRm kc3 rfl kw_1504 kw_14 kw_1501 kw_1503 kp_59 hyX10_removes (Nat.le_of_ble_eq_true rfl) (Nat.le_of_ble_eq_true rfl) rfl rfl (Nat.le_of_ble_eq_true rfl) dX10_takesAtSink_17 ?_
  refine z_aload_n C dX10_takesAtSink_20 rfl 2 rfl ?_
  obtain ⟨v4, hv4, hf⟩ := zbind hf
  refine gf_RX10_21 C hv4 dX10_takesAtSink_21 ?_
  refine z_bipush C (zi 41) dX10_takesAtSink_24 (by decide) ?_
  refine z_iload_n C dX10_takesAtSink_26 rfl 4 rfl ?_
  refine z_iadd C dX10_takesAtSink_27 ?_
  refine z_iload_n C dX10_takesAtSink_28 rfl 3 rfl ?_
  obtain ⟨σ5, hσ5, hf⟩ := zbind hf
  refine z_sI C hσ5 dX10_takesAtSink_29 ?_
  refine z_iload C dX10_takesAtSink_30 0 rfl ?_
  refine z_iconst C (zi (-1)) dX10_takesAtSink_32 (by decide) ?_
  refine z_icmp_ne C 43 dX10_takesAtSink_33 (by decide) (fun q19 => ?_) (fun q19 => ?_)
  · rw [if_neg q19] at hf
    refine z_aload_n C dX10_takesAtSink_43 rfl 2 rfl ?_
    obtain ⟨c6, hc6, hf⟩ := zbind hf
    obtain ⟨kc6, hc6⟩ := zck_ok hc6
    refine z_callVi (As := []) (F0 := 5) (L0 := 111) C (mX10_overtakes l D Ca B En C.2.2.2.2.2.2.2.1 σ5 N x0  _ hc6) hRm kc6 rfl kw_1477 kw_14 kw_1474 kw_1476 kp_53 hyX10_overtakes (Nat.le_of_ble_eq_true rfl) (Nat.le_of_ble_eq_true rfl) rfl rfl (Nat.le_of_ble_eq_true rfl) dX10_takesAtSink_44 ?_
    refine z_if_eq C 85 dX10_takesAtSink_47 (by decide) (fun q17 => ?_) (fun q17 => ?_)
    · rw [if_pos q17] at hf
      refine z_sub [2, 4, 0] rfl ?_
      exact wjX10_takesAtSink_85 C hRm _ _ _ _  _ hf hq
    · rw [if_neg q17] at hf
      refine z_aload_n C dX10_takesAtSink_50 rfl 2 rfl ?_
      refine z_iload_n C dX10_takesAtSink_51 rfl 4 rfl ?_
      obtain ⟨c9, hc9, hf⟩ := zbind hf
      obtain ⟨kc9, hc9⟩ := zck_ok hc9
      refine z_callVi (As := [.int x2]) (F0 := 5) (L0 := 111) C (mX10_arrivedAtSink l D Ca B En C.2.2.2.2.2.2.2.1 c6.1 N x0 x2 _ hc9) hRm kc9 rfl kw_1536 kw_14 kw_1533 kw_1535 kp_67 hyX10_arrivedAtSink (Nat.le_of_ble_eq_true rfl) (Nat.le_of_ble_eq_true rfl) rfl rfl (Nat.le_of_ble_eq_true rfl) dX10_takesAtSink_52 ?_
      refine z_if_le C 85 dX10_takesAtSink_55 (by decide) (fun q16 => ?_) (fun q16 => ?_)
      · rw [if_pos q16] at hf
        refine z_sub [2, 4, 0] rfl ?_
        exact wjX10_takesAtSink_85 C hRm _ _ _ _  _ hf hq
      · rw [if_neg q16] at hf
        refine z_aload_n C dX10_takesAtSink_58 rfl 2 rfl ?_
        obtain ⟨v10, hv10, hf⟩ := zbind hf
        refine gf_RX10_21 C hv10 dX10_takesAtSink_59 ?_
        refine z_bipush C (zi 90) dX10_takesAtSink_62 (by decide) ?_
        refine z_iload_n C dX10_takesAtSink_64 rfl 3 rfl ?_
        refine z_iload_n C dX10_takesAtSink_65 rfl 4 rfl ?_
        obtain ⟨c11, hc11, hf⟩ := zbind hf
        refine z_callSi (As := [.int x1, .int x2]) (F0 := 5) (L0 := 111) C (mX10_channelOut l D Ca B En C.2.2.2.2.2.2.2.1 c9.1 N x1 x2 _ hc11) hRm kw_1424 kw_14 kw_1422 kw_1423 hyX10_channelOut (Nat.le_of_ble_eq_true rfl) (Nat.le_of_ble_eq_true rfl) rfl rfl (Nat.le_of_ble_eq_true rfl) dX10_takesAtSink_66 ?_
        refine z_iadd C dX10_takesAtSink_69 ?_
        obtain ⟨v12, hv12, hf⟩ := zbind hf
        refine z_aI C hv12 dX10_takesAtSink_70 ?_
        refine z_if_ne C 85 dX10_takesAtSink_71 (by decide) (fun q15 => ?_) (fun q15 => ?_)
        · rw [if_neg q15] at hf
          refine z_sub [2, 4, 0] rfl ?_
          exact wjX10_takesAtSink_85 C hRm _ _ _ _  _ hf hq
        · rw [if_pos q15] at hf
          refine z_aload_n C dX10_takesAtSink_74 rfl 2 rfl ?_
          refine z_iload_n C dX10_takesAtSink_75 rfl 3 rfl ?_
          refine z_iload_n C dX10_takesAtSink_76 rfl 4 rfl ?_
          obtain ⟨c13, hc13, hf⟩ := zbind hf
          refine z_callSi (As := [.int x1, .int x2]) (F0 := 5) (L0 := 111) C (mX10_keptOut l D Ca B En C.2.2.2.2.2.2.2.1 c11.1 N x1 x2 _ hc13) hRm kw_1421 kw_14 kw_1419 kw_1420 hyX10_keptOut (Nat.le_of_ble_eq_true rfl) (Nat.le_of_ble_eq_true rfl) rfl rfl (Nat.le_of_ble_eq_true rfl) dX10_takesAtSink_77 ?_
          refine z_iload C dX10_takesAtSink_80 0 rfl ?_
          obtain ⟨c14, hc14, hf⟩ := zbind hf
          obtain ⟨kc14, hc14⟩ := zck_ok hc14
          refine z_callVv (As := [.int c13.2, .int c2.2]) (F0 := 5) (L0 := 111) C (mX10_adds l D Ca B En C.2.2.2.2.2.2.2.1 c13.1 N x0 c13.2 c2.2 _ hc14) hRm kc14 rfl kw_1443 kw_14 kw_1440 kw_1442 kp_46 hyX10_adds (Nat.le_of_ble_eq_true rfl) (Nat.le_of_ble_eq_true rfl) rfl rfl (Nat.le_of_ble_eq_true rfl) dX10_takesAtSink_82 ?_
          refine z_sub [2, 4, 0] rfl ?_
          exact wjX10_takesAtSink_85 C hRm _ _ _ _  _ hf hq
  · rw [if_pos q19] at hf
    refine z_aload_n C dX10_takesAtSink_36 rfl 2 rfl ?_
    refine z_iload_n C dX10_takesAtSink_37 rfl 3 rfl ?_
    refine z_iload_n C dX10_takesAtSink_38 rfl 4 rfl ?_
    obtain ⟨c18, hc18, hf⟩ := zbind hf
    obtain ⟨kc18, hc18⟩ := zck_ok hc18
    refine z_callVv (As := [.int x1, .int x2]) (F0 := 5) (L0 := 111) C (mX10_alignsAtSink l D Ca B En C.2.2.2.2.2.2.2.1 σ5 N x0 x1 x2 _ hc18) hRm kc18 rfl kw_1556 kw_14 kw_1553 kw_1555 kp_72 hyX10_alignsAtSink (Nat.le_of_ble_eq_true rfl) (Nat.le_of_ble_eq_true rfl) rfl rfl (Nat.le_of_ble_eq_true rfl) dX10_takesAtSink_39 ?_
    cases hf
    exact hq _ _ dX10_takesAtSink_42

theorem mX10_takesAtSink (l : Launch) (D : va_G) (Ca : Nat → ClassId) (B : Nat) (En : State → Prop) (hE : zEk B En) (σ : zS) (N : Nat) (x0 : Nat) (x1 : Int32) (x2 : Int32) (X : zS) (hf : fX10_takesAtSink σ x0 x1 x2 = some X) : zMv l D Ca B En yX10_takesAtSink cX10_takesAtSink 5 (Option.none : Option Jvm.ClassFile.FieldType) 5 111 [.ref x0, .int x1, .int x2] σ N X () :=
  zMet_v (own := RX10) hE (by decide +kernel) rfl (Nat.le_of_ble_eq_true rfl) (fun p e s m args below meth c C hr hRm => wfX10_takesAtSink C hRm σ x0 x1 x2 X hf (fun pc lv hd => zfin_v (r := ()) C hr hd))
end ZM
