/-! Methods: X3_clear, X3_clearAll, X3_isList, X3_isRecord, X3_add, X3_moveAll, X3_sizeOf, X3_firstOf, X3_takeFirst, X3_behind, X3_at -/
section ZM
variable {p : Program} {l : Launch} {e : Env} {R : Room} {s : State} {m : MethodId} {args : Array Value} {below : List Frame} {meth : Method} {c : Code} {cells slots : Nat} {Q : State → Prop} {D : va_G} {Ca : Nat → ClassId} {B : Nat} {En : State → Prop} {N : Nat}
theorem dX3_clear_0 : decode cX3_clear 0 = .ok (.iload_n 1, 1) := by decide +kernel
theorem dX3_clear_1 : decode cX3_clear 1 = .ok (.ifCond .lt 30, 3) := by decide +kernel
theorem dX3_clear_4 : decode cX3_clear 4 = .ok (.iload_n 1, 1) := by decide +kernel
theorem dX3_clear_5 : decode cX3_clear 5 = .ok (.bipush 30, 2) := by decide +kernel
theorem dX3_clear_7 : decode cX3_clear 7 = .ok (.if_icmp .ge 24, 3) := by decide +kernel
theorem dX3_clear_10 : decode cX3_clear 10 = .ok (.aload_n 0, 1) := by decide +kernel
theorem dX3_clear_11 : decode cX3_clear 11 = .ok (.getfield 15, 3) := by decide +kernel
theorem dX3_clear_14 : decode cX3_clear 14 = .ok (.iload_n 1, 1) := by decide +kernel
theorem dX3_clear_15 : decode cX3_clear 15 = .ok (.iconst (-1), 1) := by decide +kernel
theorem dX3_clear_16 : decode cX3_clear 16 = .ok (.iastore, 1) := by decide +kernel
theorem dX3_clear_17 : decode cX3_clear 17 = .ok (.aload_n 0, 1) := by decide +kernel
theorem dX3_clear_18 : decode cX3_clear 18 = .ok (.getfield 18, 3) := by decide +kernel
theorem dX3_clear_21 : decode cX3_clear 21 = .ok (.iload_n 1, 1) := by decide +kernel
theorem dX3_clear_22 : decode cX3_clear 22 = .ok (.iconst (-1), 1) := by decide +kernel
theorem dX3_clear_23 : decode cX3_clear 23 = .ok (.iastore, 1) := by decide +kernel
theorem dX3_clear_24 : decode cX3_clear 24 = .ok (.aload_n 0, 1) := by decide +kernel
theorem dX3_clear_25 : decode cX3_clear 25 = .ok (.getfield 21, 3) := by decide +kernel
theorem dX3_clear_28 : decode cX3_clear 28 = .ok (.iload_n 1, 1) := by decide +kernel
theorem dX3_clear_29 : decode cX3_clear 29 = .ok (.iconst 0, 1) := by decide +kernel
theorem dX3_clear_30 : decode cX3_clear 30 = .ok (.iastore, 1) := by decide +kernel
theorem dX3_clear_31 : decode cX3_clear 31 = .ok (.return_, 1) := by decide +kernel
theorem hyX3_clear : yX3_clear.cls ≠ "java/lang/invoke/MethodHandle" ∧ yX3_clear.cls ≠ "java/lang/invoke/VarHandle" ∧ (parseMethodDescriptor yX3_clear.desc).map (fun d => d.parameters.length) = some 1 := ⟨by decide +kernel, by decide +kernel, by decide +kernel⟩
def fX3_clear (σ : zS) (x0 : Nat) (x1 : Int32) : Option zS :=
  (if x1 < 0 then some σ else (if 30 ≤ x1 then some σ else (zgR 3 1 σ x0).bind fun v1 => (zsI σ v1 x1 ((-1))).bind fun σ2 => (zgR 3 2 σ2 x0).bind fun v3 => (zsI σ2 v3 x1 ((-1))).bind fun σ4 => (zgR 3 3 σ4 x0).bind fun v5 => (zsI σ4 v5 x1 0).bind fun σ6 => some σ6))
set_option maxRecDepth 100000 in
set_option maxHeartbeats 4000000 in
theorem wfX3_clear (C : zC p s m args meth c cX3_clear RX3 2 D Ca B En) (hRm : zRm R 0 0 cells slots) (σ : zS) (x0 : Nat) (x1 : Int32) (τ : zS) (hf : fX3_clear σ x0 x1 = some τ) (hq : ∀ (pc : Nat) (lv : List (Nat × Value)), decode cX3_clear pc = .ok (.return_, 1) → zW p l e R s m args below meth c cells slots Q D Ca B 2 τ N pc lv []) : zW p l e R s m args below meth c cells slots Q D Ca B 2 σ N 0 [(0, .ref x0), (1, .int x1)] [] := by
  unfold fX3_clear at hf
  refine z_iload_n C dX3_clear_0 rfl 1 rfl ?_
  refine z_if_lt C 31 dX3_clear_1 (by decide) (fun q8 => ?_) (fun q8 => ?_)
  · rw [if_pos q8] at hf
    cases hf
    exact hq _ _ dX3_clear_31
  · rw [if_neg q8] at hf
    refine z_iload_n C dX3_clear_4 rfl 1 rfl ?_
    refine z_bipush C 30 dX3_clear_5 (by decide) ?_
    refine z_icmp_ge C 31 dX3_clear_7 (by decide) (fun q7 => ?_) (fun q7 => ?_)
    · rw [if_pos q7] at hf
      cases hf
      exact hq _ _ dX3_clear_31
    · rw [if_neg q7] at hf
      refine z_aload_n C dX3_clear_10 rfl 0 rfl ?_
      obtain ⟨v1, hv1, hf⟩ := zbind hf
      refine gf_RX3_15 C hv1 dX3_clear_11 ?_
      refine z_iload_n C dX3_clear_14 rfl 1 rfl ?_
      refine z_iconst C (-1) dX3_clear_15 (by decide) ?_
      obtain ⟨σ2, hσ2, hf⟩ := zbind hf
      refine z_sI C hσ2 dX3_clear_16 ?_
      refine z_aload_n C dX3_clear_17 rfl 0 rfl ?_
      obtain ⟨v3, hv3, hf⟩ := zbind hf
      refine gf_RX3_18 C hv3 dX3_clear_18 ?_
      refine z_iload_n C dX3_clear_21 rfl 1 rfl ?_
      refine z_iconst C (-1) dX3_clear_22 (by decide) ?_
      obtain ⟨σ4, hσ4, hf⟩ := zbind hf
      refine z_sI C hσ4 dX3_clear_23 ?_
      refine z_aload_n C dX3_clear_24 rfl 0 rfl ?_
      obtain ⟨v5, hv5, hf⟩ := zbind hf
      refine gf_RX3_21 C hv5 dX3_clear_25 ?_
      refine z_iload_n C dX3_clear_28 rfl 1 rfl ?_
      refine z_iconst C 0 dX3_clear_29 (by decide) ?_
      obtain ⟨σ6, hσ6, hf⟩ := zbind hf
      refine z_sI C hσ6 dX3_clear_30 ?_
      cases hf
      exact hq _ _ dX3_clear_31

theorem mX3_clear (l : Launch) (D : va_G) (Ca : Nat → ClassId) (B : Nat) (En : State → Prop) (hE : zEk B En) (σ : zS) (N : Nat) (x0 : Nat) (x1 : Int32) (X : zS) (hf : fX3_clear σ x0 x1 = some X) : zMv l D Ca B En yX3_clear cX3_clear 2 (Option.none : Option Jvm.ClassFile.FieldType) 0 0 [.ref x0, .int x1] σ N X () :=
  zMet_v (own := RX3) hE (by decide +kernel) rfl (Nat.le_of_ble_eq_true rfl) (fun p e s m args below meth c C hr hRm => wfX3_clear C hRm σ x0 x1 X hf (fun pc lv hd => zfin_v (r := ()) C hr hd))
theorem dX3_clearAll_0 : decode cX3_clearAll 0 = .ok (.iconst 0, 1) := by decide +kernel
theorem dX3_clearAll_1 : decode cX3_clearAll 1 = .ok (.istore_n 1, 1) := by decide +kernel
theorem dX3_clearAll_2 : decode cX3_clearAll 2 = .ok (.iload_n 1, 1) := by decide +kernel
theorem dX3_clearAll_3 : decode cX3_clearAll 3 = .ok (.bipush 30, 2) := by decide +kernel
theorem dX3_clearAll_5 : decode cX3_clearAll 5 = .ok (.if_icmp .ge 14, 3) := by decide +kernel
theorem dX3_clearAll_8 : decode cX3_clearAll 8 = .ok (.aload_n 0, 1) := by decide +kernel
theorem dX3_clearAll_9 : decode cX3_clearAll 9 = .ok (.iload_n 1, 1) := by decide +kernel
theorem dX3_clearAll_10 : decode cX3_clearAll 10 = .ok (.invokevirtual 27, 3) := by decide +kernel
theorem dX3_clearAll_13 : decode cX3_clearAll 13 = .ok (.iinc 1 1, 3) := by decide +kernel
theorem dX3_clearAll_16 : decode cX3_clearAll 16 = .ok (.goto (-14), 3) := by decide +kernel
theorem dX3_clearAll_19 : decode cX3_clearAll 19 = .ok (.return_, 1) := by decide +kernel
theorem hyX3_clearAll : yX3_clearAll.cls ≠ "java/lang/invoke/MethodHandle" ∧ yX3_clearAll.cls ≠ "java/lang/invoke/VarHandle" ∧ (parseMethodDescriptor yX3_clearAll.desc).map (fun d => d.parameters.length) = some 0 := ⟨by decide +kernel, by decide +kernel, by decide +kernel⟩
def sX3_clearAll_2b (x0 : Nat) (σ : zS) (u1 : Int32) : Option ((zS × Int32) ⊕ zS) :=
  (if 30 ≤ u1 then some (.inr σ) else (zck 3 σ x0 (fX3_clear σ x0 u1)).bind fun c1 => some (.inl (c1, u1 + 1)))
def sX3_clearAll_2 (x0 : Nat) (z : (zS × Int32)) : Option ((zS × Int32) ⊕ zS) := sX3_clearAll_2b x0 z.1 z.2
set_option maxRecDepth 100000 in
set_option maxHeartbeats 4000000 in
theorem wsX3_clearAll_2b (C : zC p s m args meth c cX3_clearAll RX3 2 D Ca B En) (hRm : zRm R 1 21 cells slots) (x0 : Nat) (σ : zS) (u1 : Int32) (y : (zS × Int32) ⊕ zS) (hf : sX3_clearAll_2b x0 σ u1 = some y) (hk : (∀ z : (zS × Int32), y = .inl z → zW p l e R s m args below meth c cells slots Q D Ca B 2 z.1 N 2 [(0, .ref x0), (1, .int z.2)] []) ∧ (∀ z : zS, y = .inr z → zW p l e R s m args below meth c cells slots Q D Ca B 2 z N 19 [] [])) : zW p l e R s m args below meth c cells slots Q D Ca B 2 σ N 2 [(0, .ref x0), (1, .int u1)] [] := by
  unfold sX3_clearAll_2b at hf
  refine z_iload_n C dX3_clearAll_2 rfl 1 rfl ?_
  refine z_bipush C 30 dX3_clearAll_3 (by decide) ?_
  refine z_icmp_ge C 19 dX3_clearAll_5 (by decide) (fun q2 => ?_) (fun q2 => ?_)
  · rw [if_pos q2] at hf
    cases hf
    refine z_sub [] rfl ?_
    exact hk.2 _ rfl
  · rw [if_neg q2] at hf
    refine z_aload_n C dX3_clearAll_8 rfl 0 rfl ?_
    refine z_iload_n C dX3_clearAll_9 rfl 1 rfl ?_
    obtain ⟨c1, hc1, hf⟩ := zbind hf
    obtain ⟨kc1, hc1⟩ := zck_ok hc1
    refine z_callVv (As := [.int u1]) (F0 := 1) (L0 := 21) C (mX3_clear l D Ca B En C.2.2.2.2.2.2.2.1 σ N x0 u1 _ hc1) hRm kc1 rfl kw_208 kw_9 kw_205 kw_206 kw_207 hyX3_clear (Nat.le_of_ble_eq_true rfl) (Nat.le_of_ble_eq_true rfl) rfl rfl (Nat.le_of_ble_eq_true rfl) dX3_clearAll_10 ?_
    refine z_iinc (lv2 := [(1, .int (u1 + 1)), (0, .ref x0)]) C (u1 + 1) dX3_clearAll_13 1 rfl rfl (by decide) rfl ?_
    refine z_goto C 2 dX3_clearAll_16 (by decide) ?_
    cases hf
    refine z_sub [1, 0] rfl ?_
    exact hk.1 _ rfl

theorem wsX3_clearAll_2 (C : zC p s m args meth c cX3_clearAll RX3 2 D Ca B En) (hRm : zRm R 1 21 cells slots) (x0 : Nat) (n : Nat) (z : (zS × Int32)) (x : zS) (hf : zloop (sX3_clearAll_2 x0) n z = some x) (hk : (∀ o : zS, x = o → zW p l e R s m args below meth c cells slots Q D Ca B 2 o N 19 [] [])) : zW p l e R s m args below meth c cells slots Q D Ca B 2 z.1 N 2 [(0, .ref x0), (1, .int z.2)] [] := by
  refine zloop_W (P := fun z : (zS × Int32) => zW p l e R s m args below meth c cells slots Q D Ca B 2 z.1 N 2 [(0, .ref x0), (1, .int z.2)] []) (K := fun x : zS => (∀ o : zS, x = o → zW p l e R s m args below meth c cells slots Q D Ca B 2 o N 19 [] [])) ?_ n z x hf hk
  intro z y hy h1 h2
  refine wsX3_clearAll_2b C hRm x0 z.1 z.2 y hy ⟨fun z2 e => h1 z2 e, fun o e => (h2 _ e) o rfl⟩
def fX3_clearAll (σ : zS) (x0 : Nat) : Option zS :=
  (zloop (sX3_clearAll_2 x0) zfuel (σ, 0)).bind fun o3 => some o3
set_option maxRecDepth 100000 in
set_option maxHeartbeats 4000000 in
theorem wfX3_clearAll (C : zC p s m args meth c cX3_clearAll RX3 2 D Ca B En) (hRm : zRm R 1 21 cells slots) (σ : zS) (x0 : Nat) (τ : zS) (hf : fX3_clearAll σ x0 = some τ) (hq : ∀ (pc : Nat) (lv : List (Nat × Value)), decode cX3_clearAll pc = .ok (.return_, 1) → zW p l e R s m args below meth c cells slots Q D Ca B 2 τ N pc lv []) : zW p l e R s m args below meth c cells slots Q D Ca B 2 σ N 0 [(0, .ref x0)] [] := by
  unfold fX3_clearAll at hf
  refine z_iconst C 0 dX3_clearAll_0 (by decide) ?_
  refine z_istore_n (lv2 := [(1, .int 0), (0, .ref x0)]) C dX3_clearAll_1 rfl (by decide) rfl ?_
  obtain ⟨o3, ho3, hf⟩ := zbind hf
  refine z_sub [1, 0] rfl ?_
  refine wsX3_clearAll_2 C hRm _ zfuel (σ, 0) o3 ho3 ?_
  intro z9 e9
  subst e9
  cases hf
  exact hq _ _ dX3_clearAll_19

theorem mX3_clearAll (l : Launch) (D : va_G) (Ca : Nat → ClassId) (B : Nat) (En : State → Prop) (hE : zEk B En) (σ : zS) (N : Nat) (x0 : Nat) (X : zS) (hf : fX3_clearAll σ x0 = some X) : zMv l D Ca B En yX3_clearAll cX3_clearAll 2 (Option.none : Option Jvm.ClassFile.FieldType) 1 21 [.ref x0] σ N X () :=
  zMet_v (own := RX3) hE (by decide +kernel) rfl (Nat.le_of_ble_eq_true rfl) (fun p e s m args below meth c C hr hRm => wfX3_clearAll C hRm σ x0 X hf (fun pc lv hd => zfin_v (r := ()) C hr hd))
theorem dX3_isList_0 : decode cX3_isList 0 = .ok (.iload_n 0, 1) := by decide +kernel
theorem dX3_isList_1 : decode cX3_isList 1 = .ok (.ifCond .lt 13, 3) := by decide +kernel
theorem dX3_isList_4 : decode cX3_isList 4 = .ok (.iload_n 0, 1) := by decide +kernel
theorem dX3_isList_5 : decode cX3_isList 5 = .ok (.bipush 30, 2) := by decide +kernel
theorem dX3_isList_7 : decode cX3_isList 7 = .ok (.if_icmp .ge 7, 3) := by decide +kernel
theorem dX3_isList_10 : decode cX3_isList 10 = .ok (.iconst 1, 1) := by decide +kernel
theorem dX3_isList_11 : decode cX3_isList 11 = .ok (.goto 4, 3) := by decide +kernel
theorem dX3_isList_14 : decode cX3_isList 14 = .ok (.iconst 0, 1) := by decide +kernel
theorem dX3_isList_15 : decode cX3_isList 15 = .ok (.ireturn, 1) := by decide +kernel
theorem hyX3_isList : yX3_isList.cls ≠ "java/lang/invoke/MethodHandle" ∧ yX3_isList.cls ≠ "java/lang/invoke/VarHandle" ∧ (parseMethodDescriptor yX3_isList.desc).map (fun d => d.parameters.length) = some 1 := ⟨by decide +kernel, by decide +kernel, by decide +kernel⟩
def fX3_isList (σ : zS) (x0 : Int32) : Option (zS × Int32) :=
  (if x0 < 0 then zrZ σ 0 else (if 30 ≤ x0 then zrZ σ 0 else zrZ σ 1))
set_option maxRecDepth 100000 in
set_option maxHeartbeats 4000000 in
theorem wfX3_isList (C : zC p s m args meth c cX3_isList RX3 1 D Ca B En) (hRm : zRm R 0 0 cells slots) (σ : zS) (x0 : Int32) (τ : zS) (r : Int32) (hf : fX3_isList σ x0 = some (τ, r)) (hq : ∀ (pc : Nat) (lv : List (Nat × Value)), (r = 0 ∨ r = 1) → decode cX3_isList pc = .ok (.ireturn, 1) → zW p l e R s m args below meth c cells slots Q D Ca B 1 τ N pc lv [.int r]) : zW p l e R s m args below meth c cells slots Q D Ca B 1 σ N 0 [(0, .int x0)] [] := by
  unfold fX3_isList at hf
  refine z_iload_n C dX3_isList_0 rfl 0 rfl ?_
  refine z_if_lt C 14 dX3_isList_1 (by decide) (fun q2 => ?_) (fun q2 => ?_)
  · rw [if_pos q2] at hf
    refine z_iconst C 0 dX3_isList_14 (by decide) ?_
    obtain ⟨e9, b9⟩ := zrZ_ok hf
    cases e9
    exact hq _ _ b9 dX3_isList_15
  · rw [if_neg q2] at hf
    refine z_iload_n C dX3_isList_4 rfl 0 rfl ?_
    refine z_bipush C 30 dX3_isList_5 (by decide) ?_
    refine z_icmp_ge C 14 dX3_isList_7 (by decide) (fun q1 => ?_) (fun q1 => ?_)
    · rw [if_pos q1] at hf
      refine z_iconst C 0 dX3_isList_14 (by decide) ?_
      obtain ⟨e9, b9⟩ := zrZ_ok hf
      cases e9
      exact hq _ _ b9 dX3_isList_15
    · rw [if_neg q1] at hf
      refine z_iconst C 1 dX3_isList_10 (by decide) ?_
      refine z_goto C 15 dX3_isList_11 (by decide) ?_
      obtain ⟨e9, b9⟩ := zrZ_ok hf
      cases e9
      exact hq _ _ b9 dX3_isList_15

theorem mX3_isList (l : Launch) (D : va_G) (Ca : Nat → ClassId) (B : Nat) (En : State → Prop) (hE : zEk B En) (σ : zS) (N : Nat) (x0 : Int32) (X : zS × Int32) (hf : fX3_isList σ x0 = some X) : zMi l D Ca B En yX3_isList cX3_isList 1 (Option.some Jvm.ClassFile.FieldType.boolean) 0 0 [.int x0] σ N X.1 X.2 :=
  zMet_i (own := RX3) hE (by decide +kernel) rfl (Nat.le_of_ble_eq_true rfl) (fun p e s m args below meth c C hr hRm => wfX3_isList C hRm σ x0 X.1 X.2 hf (fun pc lv hb hd => zfin_z C hb hr hd))
theorem dX3_isRecord_0 : decode cX3_isRecord 0 = .ok (.iload_n 0, 1) := by decide +kernel
theorem dX3_isRecord_1 : decode cX3_isRecord 1 = .ok (.ifCond .lt 14, 3) := by decide +kernel
theorem dX3_isRecord_4 : decode cX3_isRecord 4 = .ok (.iload_n 0, 1) := by decide +kernel
theorem dX3_isRecord_5 : decode cX3_isRecord 5 = .ok (.sipush 800, 3) := by decide +kernel
theorem dX3_isRecord_8 : decode cX3_isRecord 8 = .ok (.if_icmp .ge 7, 3) := by decide +kernel
theorem dX3_isRecord_11 : decode cX3_isRecord 11 = .ok (.iconst 1, 1) := by decide +kernel
theorem dX3_isRecord_12 : decode cX3_isRecord 12 = .ok (.goto 4, 3) := by decide +kernel
theorem dX3_isRecord_15 : decode cX3_isRecord 15 = .ok (.iconst 0, 1) := by decide +kernel
theorem dX3_isRecord_16 : decode cX3_isRecord 16 = .ok (.ireturn, 1) := by decide +kernel
theorem hyX3_isRecord : yX3_isRecord.cls ≠ "java/lang/invoke/MethodHandle" ∧ yX3_isRecord.cls ≠ "java/lang/invoke/VarHandle" ∧ (parseMethodDescriptor yX3_isRecord.desc).map (fun d => d.parameters.length) = some 1 := ⟨by decide +kernel, by decide +kernel, by decide +kernel⟩
def fX3_isRecord (σ : zS) (x0 : Int32) : Option (zS × Int32) :=
  (if x0 < 0 then zrZ σ 0 else (if 800 ≤ x0 then zrZ σ 0 else zrZ σ 1))
set_option maxRecDepth 100000 in
set_option maxHeartbeats 4000000 in
theorem wfX3_isRecord (C : zC p s m args meth c cX3_isRecord RX3 1 D Ca B En) (hRm : zRm R 0 0 cells slots) (σ : zS) (x0 : Int32) (τ : zS) (r : Int32) (hf : fX3_isRecord σ x0 = some (τ, r)) (hq : ∀ (pc : Nat) (lv : List (Nat × Value)), (r = 0 ∨ r = 1) → decode cX3_isRecord pc = .ok (.ireturn, 1) → zW p l e R s m args below meth c cells slots Q D Ca B 1 τ N pc lv [.int r]) : zW p l e R s m args below meth c cells slots Q D Ca B 1 σ N 0 [(0, .int x0)] [] := by
  unfold fX3_isRecord at hf
  refine z_iload_n C dX3_isRecord_0 rfl 0 rfl ?_
  refine z_if_lt C 15 dX3_isRecord_1 (by decide) (fun q2 => ?_) (fun q2 => ?_)
  · rw [if_pos q2] at hf
    refine z_iconst C 0 dX3_isRecord_15 (by decide) ?_
    obtain ⟨e9, b9⟩ := zrZ_ok hf
    cases e9
    exact hq _ _ b9 dX3_isRecord_16
  · rw [if_neg q2] at hf
    refine z_iload_n C dX3_isRecord_4 rfl 0 rfl ?_
    refine z_sipush C 800 dX3_isRecord_5 (by decide) ?_
    refine z_icmp_ge C 15 dX3_isRecord_8 (by decide) (fun q1 => ?_) (fun q1 => ?_)
    · rw [if_pos q1] at hf
      refine z_iconst C 0 dX3_isRecord_15 (by decide) ?_
      obtain ⟨e9, b9⟩ := zrZ_ok hf
      cases e9
      exact hq _ _ b9 dX3_isRecord_16
    · rw [if_neg q1] at hf
      refine z_iconst C 1 dX3_isRecord_11 (by decide) ?_
      refine z_goto C 16 dX3_isRecord_12 (by decide) ?_
      obtain ⟨e9, b9⟩ := zrZ_ok hf
      cases e9
      exact hq _ _ b9 dX3_isRecord_16

theorem mX3_isRecord (l : Launch) (D : va_G) (Ca : Nat → ClassId) (B : Nat) (En : State → Prop) (hE : zEk B En) (σ : zS) (N : Nat) (x0 : Int32) (X : zS × Int32) (hf : fX3_isRecord σ x0 = some X) : zMi l D Ca B En yX3_isRecord cX3_isRecord 1 (Option.some Jvm.ClassFile.FieldType.boolean) 0 0 [.int x0] σ N X.1 X.2 :=
  zMet_i (own := RX3) hE (by decide +kernel) rfl (Nat.le_of_ble_eq_true rfl) (fun p e s m args below meth c C hr hRm => wfX3_isRecord C hRm σ x0 X.1 X.2 hf (fun pc lv hb hd => zfin_z C hb hr hd))
theorem dX3_add_0 : decode cX3_add 0 = .ok (.iload_n 1, 1) := by decide +kernel
theorem dX3_add_1 : decode cX3_add 1 = .ok (.invokestatic 35, 3) := by decide +kernel
theorem dX3_add_4 : decode cX3_add 4 = .ok (.ifCond .eq 10, 3) := by decide +kernel
theorem dX3_add_7 : decode cX3_add 7 = .ok (.iload_n 2, 1) := by decide +kernel
theorem dX3_add_8 : decode cX3_add 8 = .ok (.invokestatic 39, 3) := by decide +kernel
theorem dX3_add_11 : decode cX3_add 11 = .ok (.ifCond .ne 4, 3) := by decide +kernel
theorem dX3_add_14 : decode cX3_add 14 = .ok (.return_, 1) := by decide +kernel
theorem dX3_add_15 : decode cX3_add 15 = .ok (.aload_n 0, 1) := by decide +kernel
theorem dX3_add_16 : decode cX3_add 16 = .ok (.getfield 18, 3) := by decide +kernel
theorem dX3_add_19 : decode cX3_add 19 = .ok (.iload_n 1, 1) := by decide +kernel
theorem dX3_add_20 : decode cX3_add 20 = .ok (.iaload, 1) := by decide +kernel
theorem dX3_add_21 : decode cX3_add 21 = .ok (.istore_n 3, 1) := by decide +kernel
theorem dX3_add_22 : decode cX3_add 22 = .ok (.iload_n 3, 1) := by decide +kernel
theorem dX3_add_23 : decode cX3_add 23 = .ok (.invokestatic 39, 3) := by decide +kernel
theorem dX3_add_26 : decode cX3_add 26 = .ok (.ifCond .eq 13, 3) := by decide +kernel
theorem dX3_add_29 : decode cX3_add 29 = .ok (.aload_n 0, 1) := by decide +kernel
theorem dX3_add_30 : decode cX3_add 30 = .ok (.getfield 9, 3) := by decide +kernel
theorem dX3_add_33 : decode cX3_add 33 = .ok (.iload_n 3, 1) := by decide +kernel
theorem dX3_add_34 : decode cX3_add 34 = .ok (.iload_n 2, 1) := by decide +kernel
theorem dX3_add_35 : decode cX3_add 35 = .ok (.iastore, 1) := by decide +kernel
theorem dX3_add_36 : decode cX3_add 36 = .ok (.goto 10, 3) := by decide +kernel
theorem dX3_add_39 : decode cX3_add 39 = .ok (.aload_n 0, 1) := by decide +kernel
theorem dX3_add_40 : decode cX3_add 40 = .ok (.getfield 15, 3) := by decide +kernel
theorem dX3_add_43 : decode cX3_add 43 = .ok (.iload_n 1, 1) := by decide +kernel
theorem dX3_add_44 : decode cX3_add 44 = .ok (.iload_n 2, 1) := by decide +kernel
theorem dX3_add_45 : decode cX3_add 45 = .ok (.iastore, 1) := by decide +kernel
theorem dX3_add_46 : decode cX3_add 46 = .ok (.aload_n 0, 1) := by decide +kernel
theorem dX3_add_47 : decode cX3_add 47 = .ok (.getfield 9, 3) := by decide +kernel
theorem dX3_add_50 : decode cX3_add 50 = .ok (.iload_n 2, 1) := by decide +kernel
theorem dX3_add_51 : decode cX3_add 51 = .ok (.iconst (-1), 1) := by decide +kernel
theorem dX3_add_52 : decode cX3_add 52 = .ok (.iastore, 1) := by decide +kernel
theorem dX3_add_53 : decode cX3_add 53 = .ok (.aload_n 0, 1) := by decide +kernel
theorem dX3_add_54 : decode cX3_add 54 = .ok (.getfield 18, 3) := by decide +kernel
theorem dX3_add_57 : decode cX3_add 57 = .ok (.iload_n 1, 1) := by decide +kernel
theorem dX3_add_58 : decode cX3_add 58 = .ok (.iload_n 2, 1) := by decide +kernel
theorem dX3_add_59 : decode cX3_add 59 = .ok (.iastore, 1) := by decide +kernel
theorem dX3_add_60 : decode cX3_add 60 = .ok (.aload_n 0, 1) := by decide +kernel
theorem dX3_add_61 : decode cX3_add 61 = .ok (.getfield 21, 3) := by decide +kernel
theorem dX3_add_64 : decode cX3_add 64 = .ok (.iload_n 1, 1) := by decide +kernel
theorem dX3_add_65 : decode cX3_add 65 = .ok (.dup2, 1) := by decide +kernel
theorem dX3_add_66 : decode cX3_add 66 = .ok (.iaload, 1) := by decide +kernel
theorem dX3_add_67 : decode cX3_add 67 = .ok (.iconst 1, 1) := by decide +kernel
theorem dX3_add_68 : decode cX3_add 68 = .ok (.iadd, 1) := by decide +kernel
theorem dX3_add_69 : decode cX3_add 69 = .ok (.iastore, 1) := by decide +kernel
theorem dX3_add_70 : decode cX3_add 70 = .ok (.return_, 1) := by decide +kernel
theorem hyX3_add : yX3_add.cls ≠ "java/lang/invoke/MethodHandle" ∧ yX3_add.cls ≠ "java/lang/invoke/VarHandle" ∧ (parseMethodDescriptor yX3_add.desc).map (fun d => d.parameters.length) = some 2 := ⟨by decide +kernel, by decide +kernel, by decide +kernel⟩
def jX3_add_46 (σ : zS) (x0 : Nat) (x1 : Int32) (x2 : Int32)  : Option zS :=
  (zgR 3 0 σ x0).bind fun v8 => (zsI σ v8 x2 ((-1))).bind fun σ9 => (zgR 3 2 σ9 x0).bind fun v10 => (zsI σ9 v10 x1 x2).bind fun σ11 => (zgR 3 3 σ11 x0).bind fun v12 => (zaI σ11 v12 x1).bind fun v13 => (zsI σ11 v12 x1 (v13 + 1)).bind fun σ14 => some σ14
set_option maxRecDepth 100000 in
set_option maxHeartbeats 4000000 in
theorem wjX3_add_46 (C : zC p s m args meth c cX3_add RX3 4 D Ca B En) (hRm : zRm R 1 20 cells slots) (σ : zS) (x0 : Nat) (x1 : Int32) (x2 : Int32)  (τ : zS) (hf : jX3_add_46 σ x0 x1 x2  = some τ) (hq : ∀ (pc : Nat) (lv : List (Nat × Value)), decode cX3_add pc = .ok (.return_, 1) → zW p l e R s m args below meth c cells slots Q D Ca B 4 τ N pc lv []) : zW p l e R s m args below meth c cells slots Q D Ca B 4 σ N 46 [(0, .ref x0), (1, .int x1), (2, .int x2)] [] := by
  unfold jX3_add_46 at hf
  refine z_aload_n C dX3_add_46 rfl 0 rfl ?_
  obtain ⟨v8, hv8, hf⟩ := zbind hf
  refine gf_RX3_9 C hv8 dX3_add_47 ?_
  refine z_iload_n C dX3_add_50 rfl 2 rfl ?_
  refine z_iconst C (-1) dX3_add_51 (by decide) ?_
  obtain ⟨σ9, hσ9, hf⟩ := zbind hf
  refine z_sI C hσ9 dX3_add_52 ?_
  refine z_aload_n C dX3_add_53 rfl 0 rfl ?_
  obtain ⟨v10, hv10, hf⟩ := zbind hf
  refine gf_RX3_18 C hv10 dX3_add_54 ?_
  refine z_iload_n C dX3_add_57 rfl 1 rfl ?_
  refine z_iload_n C dX3_add_58 rfl 2 rfl ?_
  obtain ⟨σ11, hσ11, hf⟩ := zbind hf
  refine z_sI C hσ11 dX3_add_59 ?_
  refine z_aload_n C dX3_add_60 rfl 0 rfl ?_
  obtain ⟨v12, hv12, hf⟩ := zbind hf
  refine gf_RX3_21 C hv12 dX3_add_61 ?_
  refine z_iload_n C dX3_add_64 rfl 1 rfl ?_
  refine z_dup2 C dX3_add_65 rfl rfl ?_
  obtain ⟨v13, hv13, hf⟩ := zbind hf
  refine z_aI C hv13 dX3_add_66 ?_
  refine z_iconst C 1 dX3_add_67 (by decide) ?_
  refine z_iadd C dX3_add_68 ?_
  obtain ⟨σ14, hσ14, hf⟩ := zbind hf
  refine z_sI C hσ14 dX3_add_69 ?_
  cases hf
  exact hq _ _ dX3_add_70

def fX3_add (σ : zS) (x0 : Nat) (x1 : Int32) (x2 : Int32) : Option zS :=
  (fX3_isList σ x1).bind fun c1 => (if c1.2 = 0 then some c1.1 else (fX3_isRecord c1.1 x2).bind fun c2 => (if c2.2 = 0 then some c2.1 else (zgR 3 2 c2.1 x0).bind fun v3 => (zaI c2.1 v3 x1).bind fun v4 => (fX3_isRecord c2.1 v4).bind fun c5 => (if c5.2 = 0 then (zgR 3 1 c5.1 x0).bind fun v6 => (zsI c5.1 v6 x1 x2).bind fun σ7 => jX3_add_46 σ7 x0 x1 x2 else (zgR 3 0 c5.1 x0).bind fun v15 => (zsI c5.1 v15 v4 x2).bind fun σ16 => jX3_add_46 σ16 x0 x1 x2)))
set_option maxRecDepth 100000 in
set_option maxHeartbeats 4000000 in
theorem wfX3_add (C : zC p s m args meth c cX3_add RX3 4 D Ca B En) (hRm : zRm R 1 20 cells slots) (σ : zS) (x0 : Nat) (x1 : Int32) (x2 : Int32) (τ : zS) (hf : fX3_add σ x0 x1 x2 = some τ) (hq : ∀ (pc : Nat) (lv : List (Nat × Value)), decode cX3_add pc = .ok (.return_, 1) → zW p l e R s m args below meth c cells slots Q D Ca B 4 τ N pc lv []) : zW p l e R s m args below meth c cells slots Q D Ca B 4 σ N 0 [(0, .ref x0), (1, .int x1), (2, .int x2)] [] := by
  unfold fX3_add at hf
  refine z_iload_n C dX3_add_0 rfl 1 rfl ?_
  obtain ⟨c1, hc1, hf⟩ := zbind hf
  refine z_callSi (As := [.int x1]) (F0 := 1) (L0 := 20) C (mX3_isList l D Ca B En C.2.2.2.2.2.2.2.1 σ N x1 _ hc1) hRm kw_325 kw_9 kw_323 kw_324 hyX3_isList (Nat.le_of_ble_eq_true rfl) (Nat.le_of_ble_eq_true rfl) rfl rfl (Nat.le_of_ble_eq_true rfl) dX3_add_1 ?_
  refine z_if_eq C 14 dX3_add_4 (by decide) (fun q19 => ?_) (fun q19 => ?_)
  · rw [if_pos q19] at hf
    cases hf
    exact hq _ _ dX3_add_14
  · rw [if_neg q19] at hf
    refine z_iload_n C dX3_add_7 rfl 2 rfl ?_
    obtain ⟨c2, hc2, hf⟩ := zbind hf
    refine z_callSi (As := [.int x2]) (F0 := 1) (L0 := 20) C (mX3_isRecord l D Ca B En C.2.2.2.2.2.2.2.1 c1.1 N x2 _ hc2) hRm kw_328 kw_9 kw_326 kw_327 hyX3_isRecord (Nat.le_of_ble_eq_true rfl) (Nat.le_of_ble_eq_true rfl) rfl rfl (Nat.le_of_ble_eq_true rfl) dX3_add_8 ?_
    refine z_if_ne C 15 dX3_add_11 (by decide) (fun q18 => ?_) (fun q18 => ?_)
    · rw [if_neg q18] at hf
      refine z_aload_n C dX3_add_15 rfl 0 rfl ?_
      obtain ⟨v3, hv3, hf⟩ := zbind hf
      refine gf_RX3_18 C hv3 dX3_add_16 ?_
      refine z_iload_n C dX3_add_19 rfl 1 rfl ?_
      obtain ⟨v4, hv4, hf⟩ := zbind hf
      refine z_aI C hv4 dX3_add_20 ?_
      refine z_istore_n (lv2 := [(3, .int v4), (0, .ref x0), (1, .int x1), (2, .int x2)]) C dX3_add_21 rfl (by decide) rfl ?_
      refine z_iload_n C dX3_add_22 rfl 0 rfl ?_
      obtain ⟨c5, hc5, hf⟩ := zbind hf
      refine z_callSi (As := [.int v4]) (F0 := 1) (L0 := 20) C (mX3_isRecord l D Ca B En C.2.2.2.2.2.2.2.1 c2.1 N v4 _ hc5) hRm kw_328 kw_9 kw_326 kw_327 hyX3_isRecord (Nat.le_of_ble_eq_true rfl) (Nat.le_of_ble_eq_true rfl) rfl rfl (Nat.le_of_ble_eq_true rfl) dX3_add_23 ?_
      refine z_if_eq C 39 dX3_add_26 (by decide) (fun q17 => ?_) (fun q17 => ?_)
      · rw [if_pos q17] at hf
        refine z_aload_n C dX3_add_39 rfl 1 rfl ?_
        obtain ⟨v6, hv6, hf⟩ := zbind hf
        refine gf_RX3_15 C hv6 dX3_add_40 ?_
        refine z_iload_n C dX3_add_43 rfl 2 rfl ?_
        refine z_iload_n C dX3_add_44 rfl 3 rfl ?_
        obtain ⟨σ7, hσ7, hf⟩ := zbind hf
        refine z_sI C hσ7 dX3_add_45 ?_
        refine z_sub [1, 2, 3] rfl ?_
        exact wjX3_add_46 C hRm _ _ _ _  _ hf hq
      · rw [if_neg q17] at hf
        refine z_aload_n C dX3_add_29 rfl 1 rfl ?_
        obtain ⟨v15, hv15, hf⟩ := zbind hf
        refine gf_RX3_9 C hv15 dX3_add_30 ?_
        refine z_iload_n C dX3_add_33 rfl 0 rfl ?_
        refine z_iload_n C dX3_add_34 rfl 3 rfl ?_
        obtain ⟨σ16, hσ16, hf⟩ := zbind hf
        refine z_sI C hσ16 dX3_add_35 ?_
        refine z_goto C 46 dX3_add_36 (by decide) ?_
        refine z_sub [1, 2, 3] rfl ?_
        exact wjX3_add_46 C hRm _ _ _ _  _ hf hq
    · rw [if_pos q18] at hf
      cases hf
      exact hq _ _ dX3_add_14

theorem mX3_add (l : Launch) (D : va_G) (Ca : Nat → ClassId) (B : Nat) (En : State → Prop) (hE : zEk B En) (σ : zS) (N : Nat) (x0 : Nat) (x1 : Int32) (x2 : Int32) (X : zS) (hf : fX3_add σ x0 x1 x2 = some X) : zMv l D Ca B En yX3_add cX3_add 4 (Option.none : Option Jvm.ClassFile.FieldType) 1 20 [.ref x0, .int x1, .int x2] σ N X () :=
  zMet_v (own := RX3) hE (by decide +kernel) rfl (Nat.le_of_ble_eq_true rfl) (fun p e s m args below meth c C hr hRm => wfX3_add C hRm σ x0 x1 x2 X hf (fun pc lv hd => zfin_v (r := ()) C hr hd))
theorem dX3_moveAll_0 : decode cX3_moveAll 0 = .ok (.iload_n 1, 1) := by decide +kernel
theorem dX3_moveAll_1 : decode cX3_moveAll 1 = .ok (.invokestatic 35, 3) := by decide +kernel
theorem dX3_moveAll_4 : decode cX3_moveAll 4 = .ok (.ifCond .eq 24, 3) := by decide +kernel
theorem dX3_moveAll_7 : decode cX3_moveAll 7 = .ok (.iload_n 2, 1) := by decide +kernel
theorem dX3_moveAll_8 : decode cX3_moveAll 8 = .ok (.invokestatic 35, 3) := by decide +kernel
theorem dX3_moveAll_11 : decode cX3_moveAll 11 = .ok (.ifCond .eq 17, 3) := by decide +kernel
theorem dX3_moveAll_14 : decode cX3_moveAll 14 = .ok (.iload_n 1, 1) := by decide +kernel
theorem dX3_moveAll_15 : decode cX3_moveAll 15 = .ok (.iload_n 2, 1) := by decide +kernel
theorem dX3_moveAll_16 : decode cX3_moveAll 16 = .ok (.if_icmp .eq 12, 3) := by decide +kernel
theorem dX3_moveAll_19 : decode cX3_moveAll 19 = .ok (.aload_n 0, 1) := by decide +kernel
theorem dX3_moveAll_20 : decode cX3_moveAll 20 = .ok (.getfield 21, 3) := by decide +kernel
theorem dX3_moveAll_23 : decode cX3_moveAll 23 = .ok (.iload_n 1, 1) := by decide +kernel
theorem dX3_moveAll_24 : decode cX3_moveAll 24 = .ok (.iaload, 1) := by decide +kernel
theorem dX3_moveAll_25 : decode cX3_moveAll 25 = .ok (.ifCond .ne 4, 3) := by decide +kernel
theorem dX3_moveAll_28 : decode cX3_moveAll 28 = .ok (.return_, 1) := by decide +kernel
theorem dX3_moveAll_29 : decode cX3_moveAll 29 = .ok (.aload_n 0, 1) := by decide +kernel
theorem dX3_moveAll_30 : decode cX3_moveAll 30 = .ok (.getfield 18, 3) := by decide +kernel
theorem dX3_moveAll_33 : decode cX3_moveAll 33 = .ok (.iload_n 2, 1) := by decide +kernel
theorem dX3_moveAll_34 : decode cX3_moveAll 34 = .ok (.iaload, 1) := by decide +kernel
theorem dX3_moveAll_35 : decode cX3_moveAll 35 = .ok (.istore_n 3, 1) := by decide +kernel
theorem dX3_moveAll_36 : decode cX3_moveAll 36 = .ok (.iload_n 3, 1) := by decide +kernel
theorem dX3_moveAll_37 : decode cX3_moveAll 37 = .ok (.invokestatic 39, 3) := by decide +kernel
theorem dX3_moveAll_40 : decode cX3_moveAll 40 = .ok (.ifCond .eq 18, 3) := by decide +kernel
theorem dX3_moveAll_43 : decode cX3_moveAll 43 = .ok (.aload_n 0, 1) := by decide +kernel
theorem dX3_moveAll_44 : decode cX3_moveAll 44 = .ok (.getfield 9, 3) := by decide +kernel
theorem dX3_moveAll_47 : decode cX3_moveAll 47 = .ok (.iload_n 3, 1) := by decide +kernel
theorem dX3_moveAll_48 : decode cX3_moveAll 48 = .ok (.aload_n 0, 1) := by decide +kernel
theorem dX3_moveAll_49 : decode cX3_moveAll 49 = .ok (.getfield 15, 3) := by decide +kernel
theorem dX3_moveAll_52 : decode cX3_moveAll 52 = .ok (.iload_n 1, 1) := by decide +kernel
theorem dX3_moveAll_53 : decode cX3_moveAll 53 = .ok (.iaload, 1) := by decide +kernel
theorem dX3_moveAll_54 : decode cX3_moveAll 54 = .ok (.iastore, 1) := by decide +kernel
theorem dX3_moveAll_55 : decode cX3_moveAll 55 = .ok (.goto 15, 3) := by decide +kernel
theorem dX3_moveAll_58 : decode cX3_moveAll 58 = .ok (.aload_n 0, 1) := by decide +kernel
theorem dX3_moveAll_59 : decode cX3_moveAll 59 = .ok (.getfield 15, 3) := by decide +kernel
theorem dX3_moveAll_62 : decode cX3_moveAll 62 = .ok (.iload_n 2, 1) := by decide +kernel
theorem dX3_moveAll_63 : decode cX3_moveAll 63 = .ok (.aload_n 0, 1) := by decide +kernel
theorem dX3_moveAll_64 : decode cX3_moveAll 64 = .ok (.getfield 15, 3) := by decide +kernel
theorem dX3_moveAll_67 : decode cX3_moveAll 67 = .ok (.iload_n 1, 1) := by decide +kernel
theorem dX3_moveAll_68 : decode cX3_moveAll 68 = .ok (.iaload, 1) := by decide +kernel
theorem dX3_moveAll_69 : decode cX3_moveAll 69 = .ok (.iastore, 1) := by decide +kernel
theorem dX3_moveAll_70 : decode cX3_moveAll 70 = .ok (.aload_n 0, 1) := by decide +kernel
theorem dX3_moveAll_71 : decode cX3_moveAll 71 = .ok (.getfield 18, 3) := by decide +kernel
theorem dX3_moveAll_74 : decode cX3_moveAll 74 = .ok (.iload_n 2, 1) := by decide +kernel
theorem dX3_moveAll_75 : decode cX3_moveAll 75 = .ok (.aload_n 0, 1) := by decide +kernel
theorem dX3_moveAll_76 : decode cX3_moveAll 76 = .ok (.getfield 18, 3) := by decide +kernel
theorem dX3_moveAll_79 : decode cX3_moveAll 79 = .ok (.iload_n 1, 1) := by decide +kernel
theorem dX3_moveAll_80 : decode cX3_moveAll 80 = .ok (.iaload, 1) := by decide +kernel
theorem dX3_moveAll_81 : decode cX3_moveAll 81 = .ok (.iastore, 1) := by decide +kernel
theorem dX3_moveAll_82 : decode cX3_moveAll 82 = .ok (.aload_n 0, 1) := by decide +kernel
theorem dX3_moveAll_83 : decode cX3_moveAll 83 = .ok (.getfield 21, 3) := by decide +kernel
theorem dX3_moveAll_86 : decode cX3_moveAll 86 = .ok (.iload_n 2, 1) := by decide +kernel
theorem dX3_moveAll_87 : decode cX3_moveAll 87 = .ok (.dup2, 1) := by decide +kernel
theorem dX3_moveAll_88 : decode cX3_moveAll 88 = .ok (.iaload, 1) := by decide +kernel
theorem dX3_moveAll_89 : decode cX3_moveAll 89 = .ok (.aload_n 0, 1) := by decide +kernel
theorem dX3_moveAll_90 : decode cX3_moveAll 90 = .ok (.getfield 21, 3) := by decide +kernel
theorem dX3_moveAll_93 : decode cX3_moveAll 93 = .ok (.iload_n 1, 1) := by decide +kernel
theorem dX3_moveAll_94 : decode cX3_moveAll 94 = .ok (.iaload, 1) := by decide +kernel
theorem dX3_moveAll_95 : decode cX3_moveAll 95 = .ok (.iadd, 1) := by decide +kernel
theorem dX3_moveAll_96 : decode cX3_moveAll 96 = .ok (.iastore, 1) := by decide +kernel
theorem dX3_moveAll_97 : decode cX3_moveAll 97 = .ok (.aload_n 0, 1) := by decide +kernel
theorem dX3_moveAll_98 : decode cX3_moveAll 98 = .ok (.iload_n 1, 1) := by decide +kernel
theorem dX3_moveAll_99 : decode cX3_moveAll 99 = .ok (.invokevirtual 27, 3) := by decide +kernel
theorem dX3_moveAll_102 : decode cX3_moveAll 102 = .ok (.return_, 1) := by decide +kernel
theorem hyX3_moveAll : yX3_moveAll.cls ≠ "java/lang/invoke/MethodHandle" ∧ yX3_moveAll.cls ≠ "java/lang/invoke/VarHandle" ∧ (parseMethodDescriptor yX3_moveAll.desc).map (fun d => d.parameters.length) = some 2 := ⟨by decide +kernel, by decide +kernel, by decide +kernel⟩
def jX3_moveAll_70 (σ : zS) (x0 : Nat) (x1 : Int32) (x2 : Int32)  : Option zS :=
  (zgR 3 2 σ x0).bind fun v12 => (zgR 3 2 σ x0).bind fun v13 => (zaI σ v13 x1).bind fun v14 => (zsI σ v12 x2 v14).bind fun σ15 => (zgR 3 3 σ15 x0).bind fun v16 => (zaI σ15 v16 x2).bind fun v17 => (zgR 3 3 σ15 x0).bind fun v18 => (zaI σ15 v18 x1).bind fun v19 => (zsI σ15 v16 x2 (v17 + v19)).bind fun σ20 => (zck 3 σ20 x0 (fX3_clear σ20 x0 x1)).bind fun c21 => some c21
set_option maxRecDepth 100000 in
set_option maxHeartbeats 4000000 in
theorem wjX3_moveAll_70 (C : zC p s m args meth c cX3_moveAll RX3 4 D Ca B En) (hRm : zRm R 1 21 cells slots) (σ : zS) (x0 : Nat) (x1 : Int32) (x2 : Int32)  (τ : zS) (hf : jX3_moveAll_70 σ x0 x1 x2  = some τ) (hq : ∀ (pc : Nat) (lv : List (Nat × Value)), decode cX3_moveAll pc = .ok (.return_, 1) → zW p l e R s m args below meth c cells slots Q D Ca B 4 τ N pc lv []) : zW p l e R s m args below meth c cells slots Q D Ca B 4 σ N 70 [(0, .ref x0), (1, .int x1), (2, .int x2)] [] := by
  unfold jX3_moveAll_70 at hf
  refine z_aload_n C dX3_moveAll_70 rfl 0 rfl ?_
  obtain ⟨v12, hv12, hf⟩ := zbind hf
  refine gf_RX3_18 C hv12 dX3_moveAll_71 ?_
  refine z_iload_n C dX3_moveAll_74 rfl 2 rfl ?_
  refine z_aload_n C dX3_moveAll_75 rfl 0 rfl ?_
  obtain ⟨v13, hv13, hf⟩ := zbind hf
  refine gf_RX3_18 C hv13 dX3_moveAll_76 ?_
  refine z_iload_n C dX3_moveAll_79 rfl 1 rfl ?_
  obtain ⟨v14, hv14, hf⟩ := zbind hf
  refine z_aI C hv14 dX3_moveAll_80 ?_
  obtain ⟨σ15, hσ15, hf⟩ := zbind hf
  refine z_sI C hσ15 dX3_moveAll_81 ?_
  refine z_aload_n C dX3_moveAll_82 rfl 0 rfl ?_
  obtain ⟨v16, hv16, hf⟩ := zbind hf
  refine gf_RX3_21 C hv16 dX3_moveAll_83 ?_
  refine z_iload_n C dX3_moveAll_86 rfl 2 rfl ?_
  refine z_dup2 C dX3_moveAll_87 rfl rfl ?_
  obtain ⟨v17, hv17, hf⟩ := zbind hf
  refine z_aI C hv17 dX3_moveAll_88 ?_
  refine z_aload_n C dX3_moveAll_89 rfl 0 rfl ?_
  obtain ⟨v18, hv18, hf⟩ := zbind hf
  refine gf_RX3_21 C hv18 dX3_moveAll_90 ?_
  refine z_iload_n C dX3_moveAll_93 rfl 1 rfl ?_
  obtain ⟨v19, hv19, hf⟩ := zbind hf
  refine z_aI C hv19 dX3_moveAll_94 ?_
  refine z_iadd C dX3_moveAll_95 ?_
  obtain ⟨σ20, hσ20, hf⟩ := zbind hf
  refine z_sI C hσ20 dX3_moveAll_96 ?_
  refine z_aload_n C dX3_moveAll_97 rfl 0 rfl ?_
  refine z_iload_n C dX3_moveAll_98 rfl 1 rfl ?_
  obtain ⟨c21, hc21, hf⟩ := zbind hf
  obtain ⟨kc21, hc21⟩ := zck_ok hc21
  refine z_callVv (As := [.int x1]) (F0 := 1) (L0 := 21) C (mX3_clear l D Ca B En C.2.2.2.2.2.2.2.1 σ20 N x0 x1 _ hc21) hRm kc21 rfl kw_208 kw_9 kw_205 kw_206 kw_207 hyX3_clear (Nat.le_of_ble_eq_true rfl) (Nat.le_of_ble_eq_true rfl) rfl rfl (Nat.le_of_ble_eq_true rfl) dX3_moveAll_99 ?_
  cases hf
  exact hq _ _ dX3_moveAll_102

def fX3_moveAll (σ : zS) (x0 : Nat) (x1 : Int32) (x2 : Int32) : Option zS :=
  (fX3_isList σ x1).bind fun c1 => (if c1.2 = 0 then some c1.1 else (fX3_isList c1.1 x2).bind fun c2 => (if c2.2 = 0 then some c2.1 else (if x1 = x2 then some c2.1 else (zgR 3 3 c2.1 x0).bind fun v3 => (zaI c2.1 v3 x1).bind fun v4 => (if v4 = 0 then some c2.1 else (zgR 3 2 c2.1 x0).bind fun v5 => (zaI c2.1 v5 x2).bind fun v6 => (fX3_isRecord c2.1 v6).bind fun c7 => (if c7.2 = 0 then (zgR 3 1 c7.1 x0).bind fun v8 => (zgR 3 1 c7.1 x0).bind fun v9 => (zaI c7.1 v9 x1).bind fun v10 => (zsI c7.1 v8 x2 v10).bind fun σ11 => jX3_moveAll_70 σ11 x0 x1 x2 else (zgR 3 0 c7.1 x0).bind fun v22 => (zgR 3 1 c7.1 x0).bind fun v23 => (zaI c7.1 v23 x1).bind fun v24 => (zsI c7.1 v22 v6 v24).bind fun σ25 => jX3_moveAll_70 σ25 x0 x1 x2)))))
set_option maxRecDepth 100000 in
set_option maxHeartbeats 4000000 in
theorem wfX3_moveAll (C : zC p s m args meth c cX3_moveAll RX3 4 D Ca B En) (hRm : zRm R 1 21 cells slots) (σ : zS) (x0 : Nat) (x1 : Int32) (x2 : Int32) (τ : zS) (hf : fX3_moveAll σ x0 x1 x2 = some τ) (hq : ∀ (pc : Nat) (lv : List (Nat × Value)), decode cX3_moveAll pc = .ok (.return_, 1) → zW p l e R s m args below meth c cells slots Q D Ca B 4 τ N pc lv []) : zW p l e R s m args below meth c cells slots Q D Ca B 4 σ N 0 [(0, .ref x0), (1, .int x1), (2, .int x2)] [] := by
  unfold fX3_moveAll at hf
  refine z_iload_n C dX3_moveAll_0 rfl 1 rfl ?_
  obtain ⟨c1, hc1, hf⟩ := zbind hf
  refine z_callSi (As := [.int x1]) (F0 := 1) (L0 := 21) C (mX3_isList l D Ca B En C.2.2.2.2.2.2.2.1 σ N x1 _ hc1) hRm kw_325 kw_9 kw_323 kw_324 hyX3_isList (Nat.le_of_ble_eq_true rfl) (Nat.le_of_ble_eq_true rfl) rfl rfl (Nat.le_of_ble_eq_true rfl) dX3_moveAll_1 ?_
  refine z_if_eq C 28 dX3_moveAll_4 (by decide) (fun q30 => ?_) (fun q30 => ?_)
  · rw [if_pos q30] at hf
    cases hf
    exact hq _ _ dX3_moveAll_28
  · rw [if_neg q30] at hf
    refine z_iload_n C dX3_moveAll_7 rfl 2 rfl ?_
    obtain ⟨c2, hc2, hf⟩ := zbind hf
    refine z_callSi (As := [.int x2]) (F0 := 1) (L0 := 21) C (mX3_isList l D Ca B En C.2.2.2.2.2.2.2.1 c1.1 N x2 _ hc2) hRm kw_325 kw_9 kw_323 kw_324 hyX3_isList (Nat.le_of_ble_eq_true rfl) (Nat.le_of_ble_eq_true rfl) rfl rfl (Nat.le_of_ble_eq_true rfl) dX3_moveAll_8 ?_
    refine z_if_eq C 28 dX3_moveAll_11 (by decide) (fun q29 => ?_) (fun q29 => ?_)
    · rw [if_pos q29] at hf
      cases hf
      exact hq _ _ dX3_moveAll_28
    · rw [if_neg q29] at hf
      refine z_iload_n C dX3_moveAll_14 rfl 1 rfl ?_
      refine z_iload_n C dX3_moveAll_15 rfl 2 rfl ?_
      refine z_icmp_eq C 28 dX3_moveAll_16 (by decide) (fun q28 => ?_) (fun q28 => ?_)
      · rw [if_pos q28] at hf
        cases hf
        exact hq _ _ dX3_moveAll_28
      · rw [if_neg q28] at hf
        refine z_aload_n C dX3_moveAll_19 rfl 0 rfl ?_
        obtain ⟨v3, hv3, hf⟩ := zbind hf
        refine gf_RX3_21 C hv3 dX3_moveAll_20 ?_
        refine z_iload_n C dX3_moveAll_23 rfl 1 rfl ?_
        obtain ⟨v4, hv4, hf⟩ := zbind hf
        refine z_aI C hv4 dX3_moveAll_24 ?_
        refine z_if_ne C 29 dX3_moveAll_25 (by decide) (fun q27 => ?_) (fun q27 => ?_)
        · rw [if_neg q27] at hf
          refine z_aload_n C dX3_moveAll_29 rfl 0 rfl ?_
          obtain ⟨v5, hv5, hf⟩ := zbind hf
          refine gf_RX3_18 C hv5 dX3_moveAll_30 ?_
          refine z_iload_n C dX3_moveAll_33 rfl 2 rfl ?_
          obtain ⟨v6, hv6, hf⟩ := zbind hf
          refine z_aI C hv6 dX3_moveAll_34 ?_
          refine z_istore_n (lv2 := [(3, .int v6), (0, .ref x0), (1, .int x1), (2, .int x2)]) C dX3_moveAll_35 rfl (by decide) rfl ?_
          refine z_iload_n C dX3_moveAll_36 rfl 0 rfl ?_
          obtain ⟨c7, hc7, hf⟩ := zbind hf
          refine z_callSi (As := [.int v6]) (F0 := 1) (L0 := 21) C (mX3_isRecord l D Ca B En C.2.2.2.2.2.2.2.1 c2.1 N v6 _ hc7) hRm kw_328 kw_9 kw_326 kw_327 hyX3_isRecord (Nat.le_of_ble_eq_true rfl) (Nat.le_of_ble_eq_true rfl) rfl rfl (Nat.le_of_ble_eq_true rfl) dX3_moveAll_37 ?_
          refine z_if_eq C 58 dX3_moveAll_40 (by decide) (fun q26 => ?_) (fun q26 => ?_)
          · rw [if_pos q26] at hf
            refine z_aload_n C dX3_moveAll_58 rfl 1 rfl ?_
            obtain ⟨v8, hv8, hf⟩ := zbind hf
            refine gf_RX3_15 C hv8 dX3_moveAll_59 ?_
            refine z_iload_n C dX3_moveAll_62 rfl 3 rfl ?_
            refine z_aload_n C dX3_moveAll_63 rfl 1 rfl ?_
            obtain ⟨v9, hv9, hf⟩ := zbind hf
            refine gf_RX3_15 C hv9 dX3_moveAll_64 ?_
            refine z_iload_n C dX3_moveAll_67 rfl 2 rfl ?_
            obtain ⟨v10, hv10, hf⟩ := zbind hf
            refine z_aI C hv10 dX3_moveAll_68 ?_
            obtain ⟨σ11, hσ11, hf⟩ := zbind hf
            refine z_sI C hσ11 dX3_moveAll_69 ?_
            refine z_sub [1, 2, 3] rfl ?_
            exact wjX3_moveAll_70 C hRm _ _ _ _  _ hf hq
          · rw [if_neg q26] at hf
            refine z_aload_n C dX3_moveAll_43 rfl 1 rfl ?_
            obtain ⟨v22, hv22, hf⟩ := zbind hf
            refine gf_RX3_9 C hv22 dX3_moveAll_44 ?_
            refine z_iload_n C dX3_moveAll_47 rfl 0 rfl ?_
            refine z_aload_n C dX3_moveAll_48 rfl 1 rfl ?_
            obtain ⟨v23, hv23, hf⟩ := zbind hf
            refine gf_RX3_15 C hv23 dX3_moveAll_49 ?_
            refine z_iload_n C dX3_moveAll_52 rfl 2 rfl ?_
            obtain ⟨v24, hv24, hf⟩ := zbind hf
            refine z_aI C hv24 dX3_moveAll_53 ?_
            obtain ⟨σ25, hσ25, hf⟩ := zbind hf
            refine z_sI C hσ25 dX3_moveAll_54 ?_
            refine z_goto C 70 dX3_moveAll_55 (by decide) ?_
            refine z_sub [1, 2, 3] rfl ?_
            exact wjX3_moveAll_70 C hRm _ _ _ _  _ hf hq
        · rw [if_pos q27] at hf
          cases hf
          exact hq _ _ dX3_moveAll_28

theorem mX3_moveAll (l : Launch) (D : va_G) (Ca : Nat → ClassId) (B : Nat) (En : State → Prop) (hE : zEk B En) (σ : zS) (N : Nat) (x0 : Nat) (x1 : Int32) (x2 : Int32) (X : zS) (hf : fX3_moveAll σ x0 x1 x2 = some X) : zMv l D Ca B En yX3_moveAll cX3_moveAll 4 (Option.none : Option Jvm.ClassFile.FieldType) 1 21 [.ref x0, .int x1, .int x2] σ N X () :=
  zMet_v (own := RX3) hE (by decide +kernel) rfl (Nat.le_of_ble_eq_true rfl) (fun p e s m args below meth c C hr hRm => wfX3_moveAll C hRm σ x0 x1 x2 X hf (fun pc lv hd => zfin_v (r := ()) C hr hd))
theorem dX3_sizeOf_0 : decode cX3_sizeOf 0 = .ok (.iload_n 1, 1) := by decide +kernel
theorem dX3_sizeOf_1 : decode cX3_sizeOf 1 = .ok (.invokestatic 35, 3) := by decide +kernel
theorem dX3_sizeOf_4 : decode cX3_sizeOf 4 = .ok (.ifCond .eq 12, 3) := by decide +kernel
theorem dX3_sizeOf_7 : decode cX3_sizeOf 7 = .ok (.aload_n 0, 1) := by decide +kernel
theorem dX3_sizeOf_8 : decode cX3_sizeOf 8 = .ok (.getfield 21, 3) := by decide +kernel
theorem dX3_sizeOf_11 : decode cX3_sizeOf 11 = .ok (.iload_n 1, 1) := by decide +kernel
theorem dX3_sizeOf_12 : decode cX3_sizeOf 12 = .ok (.iaload, 1) := by decide +kernel
theorem dX3_sizeOf_13 : decode cX3_sizeOf 13 = .ok (.goto 4, 3) := by decide +kernel
theorem dX3_sizeOf_16 : decode cX3_sizeOf 16 = .ok (.iconst 0, 1) := by decide +kernel
theorem dX3_sizeOf_17 : decode cX3_sizeOf 17 = .ok (.ireturn, 1) := by decide +kernel
theorem hyX3_sizeOf : yX3_sizeOf.cls ≠ "java/lang/invoke/MethodHandle" ∧ yX3_sizeOf.cls ≠ "java/lang/invoke/VarHandle" ∧ (parseMethodDescriptor yX3_sizeOf.desc).map (fun d => d.parameters.length) = some 1 := ⟨by decide +kernel, by decide +kernel, by decide +kernel⟩
def fX3_sizeOf (σ : zS) (x0 : Nat) (x1 : Int32) : Option (zS × Int32) :=
  (fX3_isList σ x1).bind fun c1 => (if c1.2 = 0 then some (c1.1, 0) else (zgR 3 3 c1.1 x0).bind fun v2 => (zaI c1.1 v2 x1).bind fun v3 => some (c1.1, v3))
set_option maxRecDepth 100000 in
set_option maxHeartbeats 4000000 in
theorem wfX3_sizeOf (C : zC p s m args meth c cX3_sizeOf RX3 2 D Ca B En) (hRm : zRm R 1 20 cells slots) (σ : zS) (x0 : Nat) (x1 : Int32) (τ : zS) (r : Int32) (hf : fX3_sizeOf σ x0 x1 = some (τ, r)) (hq : ∀ (pc : Nat) (lv : List (Nat × Value)), decode cX3_sizeOf pc = .ok (.ireturn, 1) → zW p l e R s m args below meth c cells slots Q D Ca B 2 τ N pc lv [.int r]) : zW p l e R s m args below meth c cells slots Q D Ca B 2 σ N 0 [(0, .ref x0), (1, .int x1)] [] := by
  unfold fX3_sizeOf at hf
  refine z_iload_n C dX3_sizeOf_0 rfl 1 rfl ?_
  obtain ⟨c1, hc1, hf⟩ := zbind hf
  refine z_callSi (As := [.int x1]) (F0 := 1) (L0 := 20) C (mX3_isList l D Ca B En C.2.2.2.2.2.2.2.1 σ N x1 _ hc1) hRm kw_325 kw_9 kw_323 kw_324 hyX3_isList (Nat.le_of_ble_eq_true rfl) (Nat.le_of_ble_eq_true rfl) rfl rfl (Nat.le_of_ble_eq_true rfl) dX3_sizeOf_1 ?_
  refine z_if_eq C 16 dX3_sizeOf_4 (by decide) (fun q4 => ?_) (fun q4 => ?_)
  · rw [if_pos q4] at hf
    refine z_iconst C 0 dX3_sizeOf_16 (by decide) ?_
    cases hf
    exact hq _ _ dX3_sizeOf_17
  · rw [if_neg q4] at hf
    refine z_aload_n C dX3_sizeOf_7 rfl 0 rfl ?_
    obtain ⟨v2, hv2, hf⟩ := zbind hf
    refine gf_RX3_21 C hv2 dX3_sizeOf_8 ?_
    refine z_iload_n C dX3_sizeOf_11 rfl 1 rfl ?_
    obtain ⟨v3, hv3, hf⟩ := zbind hf
    refine z_aI C hv3 dX3_sizeOf_12 ?_
    refine z_goto C 17 dX3_sizeOf_13 (by decide) ?_
    cases hf
    exact hq _ _ dX3_sizeOf_17

theorem mX3_sizeOf (l : Launch) (D : va_G) (Ca : Nat → ClassId) (B : Nat) (En : State → Prop) (hE : zEk B En) (σ : zS) (N : Nat) (x0 : Nat) (x1 : Int32) (X : zS × Int32) (hf : fX3_sizeOf σ x0 x1 = some X) : zMi l D Ca B En yX3_sizeOf cX3_sizeOf 2 (Option.some Jvm.ClassFile.FieldType.int) 1 20 [.ref x0, .int x1] σ N X.1 X.2 :=
  zMet_i (own := RX3) hE (by decide +kernel) rfl (Nat.le_of_ble_eq_true rfl) (fun p e s m args below meth c C hr hRm => wfX3_sizeOf C hRm σ x0 x1 X.1 X.2 hf (fun pc lv hd => zfin_i C hr hd))
theorem dX3_firstOf_0 : decode cX3_firstOf 0 = .ok (.iload_n 1, 1) := by decide +kernel
theorem dX3_firstOf_1 : decode cX3_firstOf 1 = .ok (.invokestatic 35, 3) := by decide +kernel
theorem dX3_firstOf_4 : decode cX3_firstOf 4 = .ok (.ifCond .eq 12, 3) := by decide +kernel
theorem dX3_firstOf_7 : decode cX3_firstOf 7 = .ok (.aload_n 0, 1) := by decide +kernel
theorem dX3_firstOf_8 : decode cX3_firstOf 8 = .ok (.getfield 15, 3) := by decide +kernel
theorem dX3_firstOf_11 : decode cX3_firstOf 11 = .ok (.iload_n 1, 1) := by decide +kernel
theorem dX3_firstOf_12 : decode cX3_firstOf 12 = .ok (.iaload, 1) := by decide +kernel
theorem dX3_firstOf_13 : decode cX3_firstOf 13 = .ok (.goto 4, 3) := by decide +kernel
theorem dX3_firstOf_16 : decode cX3_firstOf 16 = .ok (.iconst (-1), 1) := by decide +kernel
theorem dX3_firstOf_17 : decode cX3_firstOf 17 = .ok (.ireturn, 1) := by decide +kernel
theorem hyX3_firstOf : yX3_firstOf.cls ≠ "java/lang/invoke/MethodHandle" ∧ yX3_firstOf.cls ≠ "java/lang/invoke/VarHandle" ∧ (parseMethodDescriptor yX3_firstOf.desc).map (fun d => d.parameters.length) = some 1 := ⟨by decide +kernel, by decide +kernel, by decide +kernel⟩
def fX3_firstOf (σ : zS) (x0 : Nat) (x1 : Int32) : Option (zS × Int32) :=
  (fX3_isList σ x1).bind fun c1 => (if c1.2 = 0 then some (c1.1, (-1)) else (zgR 3 1 c1.1 x0).bind fun v2 => (zaI c1.1 v2 x1).bind fun v3 => some (c1.1, v3))
set_option maxRecDepth 100000 in
set_option maxHeartbeats 4000000 in
theorem wfX3_firstOf (C : zC p s m args meth c cX3_firstOf RX3 2 D Ca B En) (hRm : zRm R 1 20 cells slots) (σ : zS) (x0 : Nat) (x1 : Int32) (τ : zS) (r : Int32) (hf : fX3_firstOf σ x0 x1 = some (τ, r)) (hq : ∀ (pc : Nat) (lv : List (Nat × Value)), decode cX3_firstOf pc = .ok (.ireturn, 1) → zW p l e R s m args below meth c cells slots Q D Ca B 2 τ N pc lv [.int r]) : zW p l e R s m args below meth c cells slots Q D Ca B 2 σ N 0 [(0, .ref x0), (1, .int x1)] [] := by
  unfold fX3_firstOf at hf
  refine z_iload_n C dX3_firstOf_0 rfl 1 rfl ?_
  obtain ⟨c1, hc1, hf⟩ := zbind hf
  refine z_callSi (As := [.int x1]) (F0 := 1) (L0 := 20) C (mX3_isList l D Ca B En C.2.2.2.2.2.2.2.1 σ N x1 _ hc1) hRm kw_325 kw_9 kw_323 kw_324 hyX3_isList (Nat.le_of_ble_eq_true rfl) (Nat.le_of_ble_eq_true rfl) rfl rfl (Nat.le_of_ble_eq_true rfl) dX3_firstOf_1 ?_
  refine z_if_eq C 16 dX3_firstOf_4 (by decide) (fun q4 => ?_) (fun q4 => ?_)
  · rw [if_pos q4] at hf
    refine z_iconst C (-1) dX3_firstOf_16 (by decide) ?_
    cases hf
    exact hq _ _ dX3_firstOf_17
  · rw [if_neg q4] at hf
    refine z_aload_n C dX3_firstOf_7 rfl 0 rfl ?_
    obtain ⟨v2, hv2, hf⟩ := zbind hf
    refine gf_RX3_15 C hv2 dX3_firstOf_8 ?_
    refine z_iload_n C dX3_firstOf_11 rfl 1 rfl ?_
    obtain ⟨v3, hv3, hf⟩ := zbind hf
    refine z_aI C hv3 dX3_firstOf_12 ?_
    refine z_goto C 17 dX3_firstOf_13 (by decide) ?_
    cases hf
    exact hq _ _ dX3_firstOf_17

theorem mX3_firstOf (l : Launch) (D : va_G) (Ca : Nat → ClassId) (B : Nat) (En : State → Prop) (hE : zEk B En) (σ : zS) (N : Nat) (x0 : Nat) (x1 : Int32) (X : zS × Int32) (hf : fX3_firstOf σ x0 x1 = some X) : zMi l D Ca B En yX3_firstOf cX3_firstOf 2 (Option.some Jvm.ClassFile.FieldType.int) 1 20 [.ref x0, .int x1] σ N X.1 X.2 :=
  zMet_i (own := RX3) hE (by decide +kernel) rfl (Nat.le_of_ble_eq_true rfl) (fun p e s m args below meth c C hr hRm => wfX3_firstOf C hRm σ x0 x1 X.1 X.2 hf (fun pc lv hd => zfin_i C hr hd))
theorem dX3_takeFirst_0 : decode cX3_takeFirst 0 = .ok (.aload_n 0, 1) := by decide +kernel
theorem dX3_takeFirst_1 : decode cX3_takeFirst 1 = .ok (.iload_n 1, 1) := by decide +kernel
theorem dX3_takeFirst_2 : decode cX3_takeFirst 2 = .ok (.invokevirtual 46, 3) := by decide +kernel
theorem dX3_takeFirst_5 : decode cX3_takeFirst 5 = .ok (.istore_n 2, 1) := by decide +kernel
theorem dX3_takeFirst_6 : decode cX3_takeFirst 6 = .ok (.iload_n 1, 1) := by decide +kernel
theorem dX3_takeFirst_7 : decode cX3_takeFirst 7 = .ok (.invokestatic 35, 3) := by decide +kernel
theorem dX3_takeFirst_10 : decode cX3_takeFirst 10 = .ok (.ifCond .eq 10, 3) := by decide +kernel
theorem dX3_takeFirst_13 : decode cX3_takeFirst 13 = .ok (.iload_n 2, 1) := by decide +kernel
theorem dX3_takeFirst_14 : decode cX3_takeFirst 14 = .ok (.invokestatic 39, 3) := by decide +kernel
theorem dX3_takeFirst_17 : decode cX3_takeFirst 17 = .ok (.ifCond .ne 5, 3) := by decide +kernel
theorem dX3_takeFirst_20 : decode cX3_takeFirst 20 = .ok (.iconst (-1), 1) := by decide +kernel
theorem dX3_takeFirst_21 : decode cX3_takeFirst 21 = .ok (.ireturn, 1) := by decide +kernel
theorem dX3_takeFirst_22 : decode cX3_takeFirst 22 = .ok (.aload_n 0, 1) := by decide +kernel
theorem dX3_takeFirst_23 : decode cX3_takeFirst 23 = .ok (.getfield 15, 3) := by decide +kernel
theorem dX3_takeFirst_26 : decode cX3_takeFirst 26 = .ok (.iload_n 1, 1) := by decide +kernel
theorem dX3_takeFirst_27 : decode cX3_takeFirst 27 = .ok (.aload_n 0, 1) := by decide +kernel
theorem dX3_takeFirst_28 : decode cX3_takeFirst 28 = .ok (.getfield 9, 3) := by decide +kernel
theorem dX3_takeFirst_31 : decode cX3_takeFirst 31 = .ok (.iload_n 2, 1) := by decide +kernel
theorem dX3_takeFirst_32 : decode cX3_takeFirst 32 = .ok (.iaload, 1) := by decide +kernel
theorem dX3_takeFirst_33 : decode cX3_takeFirst 33 = .ok (.iastore, 1) := by decide +kernel
theorem dX3_takeFirst_34 : decode cX3_takeFirst 34 = .ok (.aload_n 0, 1) := by decide +kernel
theorem dX3_takeFirst_35 : decode cX3_takeFirst 35 = .ok (.getfield 21, 3) := by decide +kernel
theorem dX3_takeFirst_38 : decode cX3_takeFirst 38 = .ok (.iload_n 1, 1) := by decide +kernel
theorem dX3_takeFirst_39 : decode cX3_takeFirst 39 = .ok (.dup2, 1) := by decide +kernel
theorem dX3_takeFirst_40 : decode cX3_takeFirst 40 = .ok (.iaload, 1) := by decide +kernel
theorem dX3_takeFirst_41 : decode cX3_takeFirst 41 = .ok (.iconst 1, 1) := by decide +kernel
theorem dX3_takeFirst_42 : decode cX3_takeFirst 42 = .ok (.isub, 1) := by decide +kernel
theorem dX3_takeFirst_43 : decode cX3_takeFirst 43 = .ok (.iastore, 1) := by decide +kernel
theorem dX3_takeFirst_44 : decode cX3_takeFirst 44 = .ok (.aload_n 0, 1) := by decide +kernel
theorem dX3_takeFirst_45 : decode cX3_takeFirst 45 = .ok (.getfield 21, 3) := by decide +kernel
theorem dX3_takeFirst_48 : decode cX3_takeFirst 48 = .ok (.iload_n 1, 1) := by decide +kernel
theorem dX3_takeFirst_49 : decode cX3_takeFirst 49 = .ok (.iaload, 1) := by decide +kernel
theorem dX3_takeFirst_50 : decode cX3_takeFirst 50 = .ok (.ifCond .ne 8, 3) := by decide +kernel
theorem dX3_takeFirst_53 : decode cX3_takeFirst 53 = .ok (.aload_n 0, 1) := by decide +kernel
theorem dX3_takeFirst_54 : decode cX3_takeFirst 54 = .ok (.iload_n 1, 1) := by decide +kernel
theorem dX3_takeFirst_55 : decode cX3_takeFirst 55 = .ok (.invokevirtual 27, 3) := by decide +kernel
theorem dX3_takeFirst_58 : decode cX3_takeFirst 58 = .ok (.iload_n 2, 1) := by decide +kernel
theorem dX3_takeFirst_59 : decode cX3_takeFirst 59 = .ok (.ireturn, 1) := by decide +kernel
theorem hyX3_takeFirst : yX3_takeFirst.cls ≠ "java/lang/invoke/MethodHandle" ∧ yX3_takeFirst.cls ≠ "java/lang/invoke/VarHandle" ∧ (parseMethodDescriptor yX3_takeFirst.desc).map (fun d => d.parameters.length) = some 1 := ⟨by decide +kernel, by decide +kernel, by decide +kernel⟩
def fX3_takeFirst (σ : zS) (x0 : Nat) (x1 : Int32) : Option (zS × Int32) :=
  (zck 3 σ x0 (fX3_firstOf σ x0 x1)).bind fun c1 => (fX3_isList c1.1 x1).bind fun c2 => (if c2.2 = 0 then some (c2.1, (-1)) else (fX3_isRecord c2.1 c1.2).bind fun c3 => (if c3.2 = 0 then some (c3.1, (-1)) else (zgR 3 1 c3.1 x0).bind fun v4 => (zgR 3 0 c3.1 x0).bind fun v5 => (zaI c3.1 v5 c1.2).bind fun v6 => (zsI c3.1 v4 x1 v6).bind fun σ7 => (zgR 3 3 σ7 x0).bind fun v8 => (zaI σ7 v8 x1).bind fun v9 => (zsI σ7 v8 x1 (v9 - 1)).bind fun σ10 => (zgR 3 3 σ10 x0).bind fun v11 => (zaI σ10 v11 x1).bind fun v12 => (if v12 = 0 then (zck 3 σ10 x0 (fX3_clear σ10 x0 x1)).bind fun c13 => some (c13, c1.2) else some (σ10, c1.2))))
set_option maxRecDepth 100000 in
set_option maxHeartbeats 4000000 in
theorem wfX3_takeFirst (C : zC p s m args meth c cX3_takeFirst RX3 3 D Ca B En) (hRm : zRm R 2 41 cells slots) (σ : zS) (x0 : Nat) (x1 : Int32) (τ : zS) (r : Int32) (hf : fX3_takeFirst σ x0 x1 = some (τ, r)) (hq : ∀ (pc : Nat) (lv : List (Nat × Value)), decode cX3_takeFirst pc = .ok (.ireturn, 1) → zW p l e R s m args below meth c cells slots Q D Ca B 3 τ N pc lv [.int r]) : zW p l e R s m args below meth c cells slots Q D Ca B 3 σ N 0 [(0, .ref x0), (1, .int x1)] [] := by
  unfold fX3_takeFirst at hf
  refine z_aload_n C dX3_takeFirst_0 rfl 0 rfl ?_
  refine z_iload_n C dX3_takeFirst_1 rfl 1 rfl ?_
  obtain ⟨c1, hc1, hf⟩ := zbind hf
  obtain ⟨kc1, hc1⟩ := zck_ok hc1
  refine z_callVi (As := [.int x1]) (F0 := 2) (L0 := 41) C (mX3_firstOf l D Ca B En C.2.2.2.2.2.2.2.1 σ N x0 x1 _ hc1) hRm kc1 rfl kw_338 kw_9 kw_814 kw_336 kw_337 hyX3_firstOf (Nat.le_of_ble_eq_true rfl) (Nat.le_of_ble_eq_true rfl) rfl rfl (Nat.le_of_ble_eq_true rfl) dX3_takeFirst_2 ?_
  refine z_istore_n (lv2 := [(2, .int c1.2), (0, .ref x0), (1, .int x1)]) C dX3_takeFirst_5 rfl (by decide) rfl ?_
  refine z_iload_n C dX3_takeFirst_6 rfl 2 rfl ?_
  obtain ⟨c2, hc2, hf⟩ := zbind hf
  refine z_callSi (As := [.int x1]) (F0 := 2) (L0 := 41) C (mX3_isList l D Ca B En C.2.2.2.2.2.2.2.1 c1.1 N x1 _ hc2) hRm kw_325 kw_9 kw_323 kw_324 hyX3_isList (Nat.le_of_ble_eq_true rfl) (Nat.le_of_ble_eq_true rfl) rfl rfl (Nat.le_of_ble_eq_true rfl) dX3_takeFirst_7 ?_
  refine z_if_eq C 20 dX3_takeFirst_10 (by decide) (fun q16 => ?_) (fun q16 => ?_)
  · rw [if_pos q16] at hf
    refine z_iconst C (-1) dX3_takeFirst_20 (by decide) ?_
    cases hf
    exact hq _ _ dX3_takeFirst_21
  · rw [if_neg q16] at hf
    refine z_iload_n C dX3_takeFirst_13 rfl 0 rfl ?_
    obtain ⟨c3, hc3, hf⟩ := zbind hf
    refine z_callSi (As := [.int c1.2]) (F0 := 2) (L0 := 41) C (mX3_isRecord l D Ca B En C.2.2.2.2.2.2.2.1 c2.1 N c1.2 _ hc3) hRm kw_328 kw_9 kw_326 kw_327 hyX3_isRecord (Nat.le_of_ble_eq_true rfl) (Nat.le_of_ble_eq_true rfl) rfl rfl (Nat.le_of_ble_eq_true rfl) dX3_takeFirst_14 ?_
    refine z_if_ne C 22 dX3_takeFirst_17 (by decide) (fun q15 => ?_) (fun q15 => ?_)
    · rw [if_neg q15] at hf
      refine z_aload_n C dX3_takeFirst_22 rfl 1 rfl ?_
      obtain ⟨v4, hv4, hf⟩ := zbind hf
      refine gf_RX3_15 C hv4 dX3_takeFirst_23 ?_
      refine z_iload_n C dX3_takeFirst_26 rfl 2 rfl ?_
      refine z_aload_n C dX3_takeFirst_27 rfl 1 rfl ?_
      obtain ⟨v5, hv5, hf⟩ := zbind hf
      refine gf_RX3_9 C hv5 dX3_takeFirst_28 ?_
      refine z_iload_n C dX3_takeFirst_31 rfl 0 rfl ?_
      obtain ⟨v6, hv6, hf⟩ := zbind hf
      refine z_aI C hv6 dX3_takeFirst_32 ?_
      obtain ⟨σ7, hσ7, hf⟩ := zbind hf
      refine z_sI C hσ7 dX3_takeFirst_33 ?_
      refine z_aload_n C dX3_takeFirst_34 rfl 1 rfl ?_
      obtain ⟨v8, hv8, hf⟩ := zbind hf
      refine gf_RX3_21 C hv8 dX3_takeFirst_35 ?_
      refine z_iload_n C dX3_takeFirst_38 rfl 2 rfl ?_
      refine z_dup2 C dX3_takeFirst_39 rfl rfl ?_
      obtain ⟨v9, hv9, hf⟩ := zbind hf
      refine z_aI C hv9 dX3_takeFirst_40 ?_
      refine z_iconst C 1 dX3_takeFirst_41 (by decide) ?_
      refine z_isub C dX3_takeFirst_42 ?_
      obtain ⟨σ10, hσ10, hf⟩ := zbind hf
      refine z_sI C hσ10 dX3_takeFirst_43 ?_
      refine z_aload_n C dX3_takeFirst_44 rfl 1 rfl ?_
      obtain ⟨v11, hv11, hf⟩ := zbind hf
      refine gf_RX3_21 C hv11 dX3_takeFirst_45 ?_
      refine z_iload_n C dX3_takeFirst_48 rfl 2 rfl ?_
      obtain ⟨v12, hv12, hf⟩ := zbind hf
      refine z_aI C hv12 dX3_takeFirst_49 ?_
      refine z_if_ne C 58 dX3_takeFirst_50 (by decide) (fun q14 => ?_) (fun q14 => ?_)
      · rw [if_neg q14] at hf
        refine z_iload_n C dX3_takeFirst_58 rfl 0 rfl ?_
        cases hf
        exact hq _ _ dX3_takeFirst_59
      · rw [if_pos q14] at hf
        refine z_aload_n C dX3_takeFirst_53 rfl 1 rfl ?_
        refine z_iload_n C dX3_takeFirst_54 rfl 2 rfl ?_
        obtain ⟨c13, hc13, hf⟩ := zbind hf
        obtain ⟨kc13, hc13⟩ := zck_ok hc13
        refine z_callVv (As := [.int x1]) (F0 := 2) (L0 := 41) C (mX3_clear l D Ca B En C.2.2.2.2.2.2.2.1 σ10 N x0 x1 _ hc13) hRm kc13 rfl kw_208 kw_9 kw_205 kw_206 kw_207 hyX3_clear (Nat.le_of_ble_eq_true rfl) (Nat.le_of_ble_eq_true rfl) rfl rfl (Nat.le_of_ble_eq_true rfl) dX3_takeFirst_55 ?_
        refine z_iload_n C dX3_takeFirst_58 rfl 0 rfl ?_
        cases hf
        exact hq _ _ dX3_takeFirst_59
    · rw [if_pos q15] at hf
      refine z_iconst C (-1) dX3_takeFirst_20 (by decide) ?_
      cases hf
      exact hq _ _ dX3_takeFirst_21

theorem mX3_takeFirst (l : Launch) (D : va_G) (Ca : Nat → ClassId) (B : Nat) (En : State → Prop) (hE : zEk B En) (σ : zS) (N : Nat) (x0 : Nat) (x1 : Int32) (X : zS × Int32) (hf : fX3_takeFirst σ x0 x1 = some X) : zMi l D Ca B En yX3_takeFirst cX3_takeFirst 3 (Option.some Jvm.ClassFile.FieldType.int) 2 41 [.ref x0, .int x1] σ N X.1 X.2 :=
  zMet_i (own := RX3) hE (by decide +kernel) rfl (Nat.le_of_ble_eq_true rfl) (fun p e s m args below meth c C hr hRm => wfX3_takeFirst C hRm σ x0 x1 X.1 X.2 hf (fun pc lv hd => zfin_i C hr hd))
theorem dX3_behind_0 : decode cX3_behind 0 = .ok (.iload_n 1, 1) := by decide +kernel
theorem dX3_behind_1 : decode cX3_behind 1 = .ok (.invokestatic 39, 3) := by decide +kernel
theorem dX3_behind_4 : decode cX3_behind 4 = .ok (.ifCond .eq 12, 3) := by decide +kernel
theorem dX3_behind_7 : decode cX3_behind 7 = .ok (.aload_n 0, 1) := by decide +kernel
theorem dX3_behind_8 : decode cX3_behind 8 = .ok (.getfield 9, 3) := by decide +kernel
theorem dX3_behind_11 : decode cX3_behind 11 = .ok (.iload_n 1, 1) := by decide +kernel
theorem dX3_behind_12 : decode cX3_behind 12 = .ok (.iaload, 1) := by decide +kernel
theorem dX3_behind_13 : decode cX3_behind 13 = .ok (.goto 4, 3) := by decide +kernel
theorem dX3_behind_16 : decode cX3_behind 16 = .ok (.iconst (-1), 1) := by decide +kernel
theorem dX3_behind_17 : decode cX3_behind 17 = .ok (.ireturn, 1) := by decide +kernel
theorem hyX3_behind : yX3_behind.cls ≠ "java/lang/invoke/MethodHandle" ∧ yX3_behind.cls ≠ "java/lang/invoke/VarHandle" ∧ (parseMethodDescriptor yX3_behind.desc).map (fun d => d.parameters.length) = some 1 := ⟨by decide +kernel, by decide +kernel, by decide +kernel⟩
def fX3_behind (σ : zS) (x0 : Nat) (x1 : Int32) : Option (zS × Int32) :=
  (fX3_isRecord σ x1).bind fun c1 => (if c1.2 = 0 then some (c1.1, (-1)) else (zgR 3 0 c1.1 x0).bind fun v2 => (zaI c1.1 v2 x1).bind fun v3 => some (c1.1, v3))
set_option maxRecDepth 100000 in
set_option maxHeartbeats 4000000 in
theorem wfX3_behind (C : zC p s m args meth c cX3_behind RX3 2 D Ca B En) (hRm : zRm R 1 20 cells slots) (σ : zS) (x0 : Nat) (x1 : Int32) (τ : zS) (r : Int32) (hf : fX3_behind σ x0 x1 = some (τ, r)) (hq : ∀ (pc : Nat) (lv : List (Nat × Value)), decode cX3_behind pc = .ok (.ireturn, 1) → zW p l e R s m args below meth c cells slots Q D Ca B 2 τ N pc lv [.int r]) : zW p l e R s m args below meth c cells slots Q D Ca B 2 σ N 0 [(0, .ref x0), (1, .int x1)] [] := by
  unfold fX3_behind at hf
  refine z_iload_n C dX3_behind_0 rfl 1 rfl ?_
  obtain ⟨c1, hc1, hf⟩ := zbind hf
  refine z_callSi (As := [.int x1]) (F0 := 1) (L0 := 20) C (mX3_isRecord l D Ca B En C.2.2.2.2.2.2.2.1 σ N x1 _ hc1) hRm kw_328 kw_9 kw_326 kw_327 hyX3_isRecord (Nat.le_of_ble_eq_true rfl) (Nat.le_of_ble_eq_true rfl) rfl rfl (Nat.le_of_ble_eq_true rfl) dX3_behind_1 ?_
  refine z_if_eq C 16 dX3_behind_4 (by decide) (fun q4 => ?_) (fun q4 => ?_)
  · rw [if_pos q4] at hf
    refine z_iconst C (-1) dX3_behind_16 (by decide) ?_
    cases hf
    exact hq _ _ dX3_behind_17
  · rw [if_neg q4] at hf
    refine z_aload_n C dX3_behind_7 rfl 0 rfl ?_
    obtain ⟨v2, hv2, hf⟩ := zbind hf
    refine gf_RX3_9 C hv2 dX3_behind_8 ?_
    refine z_iload_n C dX3_behind_11 rfl 1 rfl ?_
    obtain ⟨v3, hv3, hf⟩ := zbind hf
    refine z_aI C hv3 dX3_behind_12 ?_
    refine z_goto C 17 dX3_behind_13 (by decide) ?_
    cases hf
    exact hq _ _ dX3_behind_17

theorem mX3_behind (l : Launch) (D : va_G) (Ca : Nat → ClassId) (B : Nat) (En : State → Prop) (hE : zEk B En) (σ : zS) (N : Nat) (x0 : Nat) (x1 : Int32) (X : zS × Int32) (hf : fX3_behind σ x0 x1 = some X) : zMi l D Ca B En yX3_behind cX3_behind 2 (Option.some Jvm.ClassFile.FieldType.int) 1 20 [.ref x0, .int x1] σ N X.1 X.2 :=
  zMet_i (own := RX3) hE (by decide +kernel) rfl (Nat.le_of_ble_eq_true rfl) (fun p e s m args below meth c C hr hRm => wfX3_behind C hRm σ x0 x1 X.1 X.2 hf (fun pc lv hd => zfin_i C hr hd))
theorem dX3_at_0 : decode cX3_at 0 = .ok (.iload_n 2, 1) := by decide +kernel
theorem dX3_at_1 : decode cX3_at 1 = .ok (.ifCond .lt 12, 3) := by decide +kernel
theorem dX3_at_4 : decode cX3_at 4 = .ok (.iload_n 2, 1) := by decide +kernel
theorem dX3_at_5 : decode cX3_at 5 = .ok (.aload_n 0, 1) := by decide +kernel
theorem dX3_at_6 : decode cX3_at 6 = .ok (.iload_n 1, 1) := by decide +kernel
theorem dX3_at_7 : decode cX3_at 7 = .ok (.invokevirtual 42, 3) := by decide +kernel
theorem dX3_at_10 : decode cX3_at 10 = .ok (.if_icmp .lt 5, 3) := by decide +kernel
theorem dX3_at_13 : decode cX3_at 13 = .ok (.iconst (-1), 1) := by decide +kernel
theorem dX3_at_14 : decode cX3_at 14 = .ok (.ireturn, 1) := by decide +kernel
theorem dX3_at_15 : decode cX3_at 15 = .ok (.aload_n 0, 1) := by decide +kernel
theorem dX3_at_16 : decode cX3_at 16 = .ok (.iload_n 1, 1) := by decide +kernel
theorem dX3_at_17 : decode cX3_at 17 = .ok (.invokevirtual 46, 3) := by decide +kernel
theorem dX3_at_20 : decode cX3_at 20 = .ok (.istore_n 3, 1) := by decide +kernel
theorem dX3_at_21 : decode cX3_at 21 = .ok (.iconst 0, 1) := by decide +kernel
theorem dX3_at_22 : decode cX3_at 22 = .ok (.istore 4, 2) := by decide +kernel
theorem dX3_at_24 : decode cX3_at 24 = .ok (.iload 4, 2) := by decide +kernel
theorem dX3_at_26 : decode cX3_at 26 = .ok (.iload_n 2, 1) := by decide +kernel
theorem dX3_at_27 : decode cX3_at 27 = .ok (.if_icmp .ge 15, 3) := by decide +kernel
theorem dX3_at_30 : decode cX3_at 30 = .ok (.aload_n 0, 1) := by decide +kernel
theorem dX3_at_31 : decode cX3_at 31 = .ok (.iload_n 3, 1) := by decide +kernel
theorem dX3_at_32 : decode cX3_at 32 = .ok (.invokevirtual 49, 3) := by decide +kernel
theorem dX3_at_35 : decode cX3_at 35 = .ok (.istore_n 3, 1) := by decide +kernel
theorem dX3_at_36 : decode cX3_at 36 = .ok (.iinc 4 1, 3) := by decide +kernel
theorem dX3_at_39 : decode cX3_at 39 = .ok (.goto (-15), 3) := by decide +kernel
theorem dX3_at_42 : decode cX3_at 42 = .ok (.iload_n 3, 1) := by decide +kernel
theorem dX3_at_43 : decode cX3_at 43 = .ok (.ireturn, 1) := by decide +kernel
theorem hyX3_at : yX3_at.cls ≠ "java/lang/invoke/MethodHandle" ∧ yX3_at.cls ≠ "java/lang/invoke/VarHandle" ∧ (parseMethodDescriptor yX3_at.desc).map (fun d => d.parameters.length) = some 2 := ⟨by decide +kernel, by decide +kernel, by decide +kernel⟩
def sX3_at_24b (x0 : Nat) (x2 : Int32) (σ : zS) (u3 : Int32) (u4 : Int32) : Option ((zS × Int32 × Int32) ⊕ (zS × Int32)) :=
  (if x2 ≤ u4 then some (.inr (σ, u3)) else (zck 3 σ x0 (fX3_behind σ x0 u3)).bind fun c3 => some (.inl (c3.1, c3.2, u4 + 1)))
def sX3_at_24 (x0 : Nat) (x2 : Int32) (z : (zS × Int32 × Int32)) : Option ((zS × Int32 × Int32) ⊕ (zS × Int32)) := sX3_at_24b x0 x2 z.1 z.2.1 z.2.2
set_option maxRecDepth 100000 in
set_option maxHeartbeats 4000000 in
theorem wsX3_at_24b (C : zC p s m args meth c cX3_at RX3 5 D Ca B En) (hRm : zRm R 2 41 cells slots) (x0 : Nat) (x2 : Int32) (σ : zS) (u3 : Int32) (u4 : Int32) (y : (zS × Int32 × Int32) ⊕ (zS × Int32)) (hf : sX3_at_24b x0 x2 σ u3 u4 = some y) (hk : (∀ z : (zS × Int32 × Int32), y = .inl z → zW p l e R s m args below meth c cells slots Q D Ca B 5 z.1 N 24 [(0, .ref x0), (2, .int x2), (3, .int z.2.1), (4, .int z.2.2)] []) ∧ (∀ z : (zS × Int32), y = .inr z → zW p l e R s m args below meth c cells slots Q D Ca B 5 z.1 N 42 [(3, .int z.2)] [])) : zW p l e R s m args below meth c cells slots Q D Ca B 5 σ N 24 [(0, .ref x0), (2, .int x2), (3, .int u3), (4, .int u4)] [] := by
  unfold sX3_at_24b at hf
  refine z_iload C dX3_at_24 3 rfl ?_
  refine z_iload_n C dX3_at_26 rfl 1 rfl ?_
  refine z_icmp_ge C 42 dX3_at_27 (by decide) (fun q4 => ?_) (fun q4 => ?_)
  · rw [if_pos q4] at hf
    cases hf
    refine z_sub [2] rfl ?_
    exact hk.2 _ rfl
  · rw [if_neg q4] at hf
    refine z_aload_n C dX3_at_30 rfl 0 rfl ?_
    refine z_iload_n C dX3_at_31 rfl 2 rfl ?_
    obtain ⟨c3, hc3, hf⟩ := zbind hf
    obtain ⟨kc3, hc3⟩ := zck_ok hc3
    refine z_callVi (As := [.int u3]) (F0 := 2) (L0 := 41) C (mX3_behind l D Ca B En C.2.2.2.2.2.2.2.1 σ N x0 u3 _ hc3) hRm kc3 rfl kw_350 kw_9 kw_1028 kw_348 kw_349 hyX3_behind (Nat.le_of_ble_eq_true rfl) (Nat.le_of_ble_eq_true rfl) rfl rfl (Nat.le_of_ble_eq_true rfl) dX3_at_32 ?_
    refine z_istore_n (lv2 := [(3, .int c3.2), (0, .ref x0), (2, .int x2), (4, .int u4)]) C dX3_at_35 rfl (by decide) rfl ?_
    refine z_iinc (lv2 := [(4, .int (u4 + 1)), (3, .int c3.2), (0, .ref x0), (2, .int x2)]) C (u4 + 1) dX3_at_36 3 rfl rfl (by decide) rfl ?_
    refine z_goto C 24 dX3_at_39 (by decide) ?_
    cases hf
    refine z_sub [2, 3, 1, 0] rfl ?_
    exact hk.1 _ rfl

theorem wsX3_at_24 (C : zC p s m args meth c cX3_at RX3 5 D Ca B En) (hRm : zRm R 2 41 cells slots) (x0 : Nat) (x2 : Int32) (n : Nat) (z : (zS × Int32 × Int32)) (x : (zS × Int32)) (hf : zloop (sX3_at_24 x0 x2) n z = some x) (hk : (∀ o : (zS × Int32), x = o → zW p l e R s m args below meth c cells slots Q D Ca B 5 o.1 N 42 [(3, .int o.2)] [])) : zW p l e R s m args below meth c cells slots Q D Ca B 5 z.1 N 24 [(0, .ref x0), (2, .int x2), (3, .int z.2.1), (4, .int z.2.2)] [] := by
  refine zloop_W (P := fun z : (zS × Int32 × Int32) => zW p l e R s m args below meth c cells slots Q D Ca B 5 z.1 N 24 [(0, .ref x0), (2, .int x2), (3, .int z.2.1), (4, .int z.2.2)] []) (K := fun x : (zS × Int32) => (∀ o : (zS × Int32), x = o → zW p l e R s m args below meth c cells slots Q D Ca B 5 o.1 N 42 [(3, .int o.2)] [])) ?_ n z x hf hk
  intro z y hy h1 h2
  refine wsX3_at_24b C hRm x0 x2 z.1 z.2.1 z.2.2 y hy ⟨fun z2 e => h1 z2 e, fun o e => (h2 _ e) o rfl⟩
def fX3_at (σ : zS) (x0 : Nat) (x1 : Int32) (x2 : Int32) : Option (zS × Int32) :=
  (if x2 < 0 then some (σ, (-1)) else (zck 3 σ x0 (fX3_sizeOf σ x0 x1)).bind fun c1 => (if x2 < c1.2 then (zck 3 c1.1 x0 (fX3_firstOf c1.1 x0 x1)).bind fun c2 => (zloop (sX3_at_24 x0 x2) zfuel (c2.1, c2.2, 0)).bind fun o5 => some (o5.1, o5.2) else some (c1.1, (-1))))
set_option maxRecDepth 100000 in
set_option maxHeartbeats 4000000 in
theorem wfX3_at (C : zC p s m args meth c cX3_at RX3 5 D Ca B En) (hRm : zRm R 2 41 cells slots) (σ : zS) (x0 : Nat) (x1 : Int32) (x2 : Int32) (τ : zS) (r : Int32) (hf : fX3_at σ x0 x1 x2 = some (τ, r)) (hq : ∀ (pc : Nat) (lv : List (Nat × Value)), decode cX3_at pc = .ok (.ireturn, 1) → zW p l e R s m args below meth c cells slots Q D Ca B 5 τ N pc lv [.int r]) : zW p l e R s m args below meth c cells slots Q D Ca B 5 σ N 0 [(0, .ref x0), (1, .int x1), (2, .int x2)] [] := by
  unfold fX3_at at hf
  refine z_iload_n C dX3_at_0 rfl 2 rfl ?_
  refine z_if_lt C 13 dX3_at_1 (by decide) (fun q7 => ?_) (fun q7 => ?_)
  · rw [if_pos q7] at hf
    refine z_iconst C (-1) dX3_at_13 (by decide) ?_
    cases hf
    exact hq _ _ dX3_at_14
  · rw [if_neg q7] at hf
    refine z_iload_n C dX3_at_4 rfl 2 rfl ?_
    refine z_aload_n C dX3_at_5 rfl 0 rfl ?_
    refine z_iload_n C dX3_at_6 rfl 1 rfl ?_
    obtain ⟨c1, hc1, hf⟩ := zbind hf
    obtain ⟨kc1, hc1⟩ := zck_ok hc1
    refine z_callVi (As := [.int x1]) (F0 := 2) (L0 := 41) C (mX3_sizeOf l D Ca B En C.2.2.2.2.2.2.2.1 σ N x0 x1 _ hc1) hRm kc1 rfl kw_342 kw_9 kw_1027 kw_340 kw_341 hyX3_sizeOf (Nat.le_of_ble_eq_true rfl) (Nat.le_of_ble_eq_true rfl) rfl rfl (Nat.le_of_ble_eq_true rfl) dX3_at_7 ?_
    refine z_icmp_lt C 15 dX3_at_10 (by decide) (fun q6 => ?_) (fun q6 => ?_)
    · rw [if_pos q6] at hf
      refine z_aload_n C dX3_at_15 rfl 0 rfl ?_
      refine z_iload_n C dX3_at_16 rfl 1 rfl ?_
      obtain ⟨c2, hc2, hf⟩ := zbind hf
      obtain ⟨kc2, hc2⟩ := zck_ok hc2
      refine z_callVi (As := [.int x1]) (F0 := 2) (L0 := 41) C (mX3_firstOf l D Ca B En C.2.2.2.2.2.2.2.1 c1.1 N x0 x1 _ hc2) hRm kc2 rfl kw_338 kw_9 kw_814 kw_336 kw_337 hyX3_firstOf (Nat.le_of_ble_eq_true rfl) (Nat.le_of_ble_eq_true rfl) rfl rfl (Nat.le_of_ble_eq_true rfl) dX3_at_17 ?_
      refine z_istore_n (lv2 := [(3, .int c2.2), (0, .ref x0), (1, .int x1), (2, .int x2)]) C dX3_at_20 rfl (by decide) rfl ?_
      refine z_iconst C 0 dX3_at_21 (by decide) ?_
      refine z_istore (lv2 := [(4, .int 0), (3, .int c2.2), (0, .ref x0), (1, .int x1), (2, .int x2)]) C dX3_at_22 (by decide) rfl ?_
      obtain ⟨o5, ho5, hf⟩ := zbind hf
      refine z_sub [2, 4, 1, 0] rfl ?_
      refine wsX3_at_24 C hRm _ _ zfuel (c2.1, c2.2, 0) o5 ho5 ?_
      intro z9 e9
      subst e9
      refine z_iload_n C dX3_at_42 rfl 0 rfl ?_
      cases hf
      exact hq _ _ dX3_at_43
    · rw [if_neg q6] at hf
      refine z_iconst C (-1) dX3_at_13 (by decide) ?_
      cases hf
      exact hq _ _ dX3_at_14

theorem mX3_at (l : Launch) (D : va_G) (Ca : Nat → ClassId) (B : Nat) (En : State → Prop) (hE : zEk B En) (σ : zS) (N : Nat) (x0 : Nat) (x1 : Int32) (x2 : Int32) (X : zS × Int32) (hf : fX3_at σ x0 x1 x2 = some X) : zMi l D Ca B En yX3_at cX3_at 5 (Option.some Jvm.ClassFile.FieldType.int) 2 41 [.ref x0, .int x1, .int x2] σ N X.1 X.2 :=
  zMet_i (own := RX3) hE (by decide +kernel) rfl (Nat.le_of_ble_eq_true rfl) (fun p e s m args below meth c C hr hRm => wfX3_at C hRm σ x0 x1 x2 X.1 X.2 hf (fun pc lv hd => zfin_i C hr hd))
end ZM
