/-! The law's wrappers. -/
section ZM
variable {p : Program} {l : Launch} {e : Env} {R : Room} {s : State} {m : MethodId} {args : Array Value} {below : List Frame} {meth : Method} {c : Code} {cells slots : Nat} {Q : State → Prop} {D : va_G} {Ca : Nat → ClassId} {B : Nat} {En : State → Prop} {N : Nat}
theorem dL_source_0 : decode cL_source 0 = .ok (.aload_n 3, 1) := by decide +kernel
theorem dL_source_1 : decode cL_source 1 = .ok (.iconst 0, 1) := by decide +kernel
theorem dL_source_2 : decode cL_source 2 = .ok (.aload_n 0, 1) := by decide +kernel
theorem dL_source_3 : decode cL_source 3 = .ok (.iload_n 1, 1) := by decide +kernel
theorem dL_source_4 : decode cL_source 4 = .ok (.iload_n 2, 1) := by decide +kernel
theorem dL_source_5 : decode cL_source 5 = .ok (.invokevirtual 7, 3) := by decide +kernel
theorem dL_source_8 : decode cL_source 8 = .ok (.i2l, 1) := by decide +kernel
theorem dL_source_9 : decode cL_source 9 = .ok (.lastore, 1) := by decide +kernel
theorem dL_source_10 : decode cL_source 10 = .ok (.goto 7, 3) := by decide +kernel
theorem dL_source_13 : decode cL_source 13 = .ok (.astore 4, 2) := by decide +kernel
theorem dL_source_15 : decode cL_source 15 = .ok (.iconst 1, 1) := by decide +kernel
theorem dL_source_16 : decode cL_source 16 = .ok (.ireturn, 1) := by decide +kernel
theorem dL_source_17 : decode cL_source 17 = .ok (.iconst 0, 1) := by decide +kernel
theorem dL_source_18 : decode cL_source 18 = .ok (.ireturn, 1) := by decide +kernel
theorem hyL_source : yL_source.cls ≠ "java/lang/invoke/MethodHandle" ∧ yL_source.cls ≠ "java/lang/invoke/VarHandle" ∧ (parseMethodDescriptor yL_source.desc).map (fun d => d.parameters.length) = some 4 := ⟨by decide +kernel, by decide +kernel, by decide +kernel⟩
set_option maxRecDepth 100000 in
set_option maxHeartbeats 4000000 in
theorem wfL_source (C : zC p s m args meth c cL_source RL 5 D Ca B En) (hRm : zRm R 2 43 cells slots) (σ : zS) (x0 : Nat) (x1 : Int32) (x2 : Int32) (x3 : Nat) (τ : zS) (r : Int32) (hf : fL_source σ x0 x1 x2 x3 = some (τ, r)) (hq : ∀ (pc : Nat) (lv : List (Nat × Value)), decode cL_source pc = .ok (.ireturn, 1) → zW p l e R s m args below meth c cells slots Q D Ca B 5 τ N pc lv [.int r]) : zW p l e R s m args below meth c cells slots Q D Ca B 5 σ N 0 [(0, .ref x0), (1, .int x1), (2, .int x2), (3, .ref x3)] [] := by
  unfold fL_source at hf
  refine z_aload_n C dL_source_0 rfl 3 rfl ?_
  refine z_iconst C (zi 0) dL_source_1 (by decide) ?_
  refine z_aload_n C dL_source_2 rfl 0 rfl ?_
  refine z_iload_n C dL_source_3 rfl 1 rfl ?_
  refine z_iload_n C dL_source_4 rfl 2 rfl ?_
  obtain ⟨c1, hc1, hf⟩ := zbind hf
  obtain ⟨kc1, hc1⟩ := zck_ok hc1
  refine z_callVi (As := [.int x1, .int x2]) (F0 := 2) (L0 := 43) C (mX9_source l D Ca B En C.2.2.2.2.2.2.2.1 σ N x0 x1 x2 _ hc1) hRm kc1 rfl kw_869 kw_1 kw_866 kw_867 kw_868 hyX9_source (Nat.le_of_ble_eq_true rfl) (Nat.le_of_ble_eq_true rfl) rfl rfl (Nat.le_of_ble_eq_true rfl) dL_source_5 ?_
  refine z_i2l C dL_source_8 ?_
  obtain ⟨σ2, hσ2, hf⟩ := zbind hf
  refine z_sJ C hσ2 dL_source_9 ?_
  refine z_goto C 17 dL_source_10 (by decide) ?_
  refine z_iconst C (zi 0) dL_source_17 (by decide) ?_
  cases hf
  exact hq _ _ dL_source_18

theorem mL_source (l : Launch) (D : va_G) (Ca : Nat → ClassId) (B : Nat) (En : State → Prop) (hE : zEk B En) (σ : zS) (N : Nat) (x0 : Nat) (x1 : Int32) (x2 : Int32) (x3 : Nat) (X : zS × Int32) (hf : fL_source σ x0 x1 x2 x3 = some X) : zMiH l D Ca B En yL_source cL_source 5 (Option.some Jvm.ClassFile.FieldType.int) [((0 : Nat), (10 : Nat), (13 : Nat), (13 : Nat))] 2 43 [.ref x0, .int x1, .int x2, .ref x3] σ N X.1 X.2 :=
  zMet_H (own := RL) hE (by decide +kernel) rfl (Nat.le_of_ble_eq_true rfl) (fun p e s m args below meth c C hr ht hRm => wfL_source C hRm σ x0 x1 x2 x3 X.1 X.2 hf (fun pc lv hd => zfin_H C hr (Nat.le_refl _) (by omega) (by omega) hd))
set_option maxRecDepth 100000 in
set_option maxHeartbeats 4000000 in
theorem mxL_source_1 (l : Launch) (D : va_G) (Ca : Nat → ClassId) (B : Nat) (En : State → Prop) (hE : zEk B En) (hT : ∀ U, En U → zThr B U) (hT2 : ∀ U, En U → va_Nc (zEx 4) (zEx 1) U ∧ va_Nc (zEx 2) (zEx 1) U) (hl0 : l.stackTraces = false) (σ : zS) (N : Nat) (x0 : Nat) (x1 : Int32) (x2 : Int32) (x3 : Nat) (h13 : (σ.1 x0).1 = 13) (hf : tX9_source σ x0 x1 x2 = some 1) : zMiH l D Ca B En yL_source cL_source 5 (Option.some Jvm.ClassFile.FieldType.int) [((0 : Nat), (10 : Nat), (13 : Nat), (13 : Nat))] 8 124 [.ref x0, .int x1, .int x2, .ref x3] σ N σ (zi 1) := by
  refine zMet_H (own := RL) hE (by decide +kernel) rfl (Nat.le_of_ble_eq_true rfl) (fun p e s m args below meth c C hr ht hRm => ?_)
  refine z_aload_n C dL_source_0 rfl 3 rfl ?_
  refine z_iconst C (zi 0) dL_source_1 (by decide) ?_
  refine z_aload_n C dL_source_2 rfl 0 rfl ?_
  refine z_iload_n C dL_source_3 rfl 1 rfl ?_
  refine z_iload_n C dL_source_4 rfl 2 rfl ?_
  refine z_catchV (As := [.int x1, .int x2]) (F0 := 8) (L0 := 124) C hT (mtX9_source l D Ca B En hE hT hl0 σ N x0 x1 x2 h13 1 hf) hRm h13 rfl kw_869 kw_1 kw_866 kw_867 kw_868 hyX9_source (Nat.le_of_ble_eq_true rfl) (Nat.le_of_ble_eq_true rfl) rfl rfl (Nat.le_of_ble_eq_true rfl) dL_source_5 (Nat.le_of_ble_eq_true rfl) (Nat.le_of_ble_eq_true rfl) [] ⟨0, 10, 13, 13⟩ [] (ht.trans rfl) (fun z hz => nomatch hz) (by decide) (by decide) kw_865 (zEcm 1 (by omega)) (fun N2 q hN => ?_)
  refine z_sub [] rfl ?_
  refine z_astore (lv2 := [(4, .ref q)]) C dL_source_13 (by decide) rfl ?_
  refine z_iconst C (zi 1) dL_source_15 (by decide) ?_
  exact zfin_H C hr hN (by omega) (by omega) dL_source_16
theorem dL_record_0 : decode cL_record 0 = .ok (.aload 4, 2) := by decide +kernel
theorem dL_record_2 : decode cL_record 2 = .ok (.iconst 0, 1) := by decide +kernel
theorem dL_record_3 : decode cL_record 3 = .ok (.aload_n 0, 1) := by decide +kernel
theorem dL_record_4 : decode cL_record 4 = .ok (.iload_n 1, 1) := by decide +kernel
theorem dL_record_5 : decode cL_record 5 = .ok (.iload_n 2, 1) := by decide +kernel
theorem dL_record_6 : decode cL_record 6 = .ok (.iload_n 3, 1) := by decide +kernel
theorem dL_record_7 : decode cL_record 7 = .ok (.invokevirtual 15, 3) := by decide +kernel
theorem dL_record_10 : decode cL_record 10 = .ok (.i2l, 1) := by decide +kernel
theorem dL_record_11 : decode cL_record 11 = .ok (.lastore, 1) := by decide +kernel
theorem dL_record_12 : decode cL_record 12 = .ok (.goto 7, 3) := by decide +kernel
theorem dL_record_15 : decode cL_record 15 = .ok (.astore 5, 2) := by decide +kernel
theorem dL_record_17 : decode cL_record 17 = .ok (.iconst 1, 1) := by decide +kernel
theorem dL_record_18 : decode cL_record 18 = .ok (.ireturn, 1) := by decide +kernel
theorem dL_record_19 : decode cL_record 19 = .ok (.iconst 0, 1) := by decide +kernel
theorem dL_record_20 : decode cL_record 20 = .ok (.ireturn, 1) := by decide +kernel
theorem hyL_record : yL_record.cls ≠ "java/lang/invoke/MethodHandle" ∧ yL_record.cls ≠ "java/lang/invoke/VarHandle" ∧ (parseMethodDescriptor yL_record.desc).map (fun d => d.parameters.length) = some 5 := ⟨by decide +kernel, by decide +kernel, by decide +kernel⟩
set_option maxRecDepth 100000 in
set_option maxHeartbeats 4000000 in
theorem wfL_record (C : zC p s m args meth c cL_record RL 6 D Ca B En) (hRm : zRm R 2 45 cells slots) (σ : zS) (x0 : Nat) (x1 : Int32) (x2 : Int32) (x3 : Int32) (x4 : Nat) (τ : zS) (r : Int32) (hf : fL_record σ x0 x1 x2 x3 x4 = some (τ, r)) (hq : ∀ (pc : Nat) (lv : List (Nat × Value)), decode cL_record pc = .ok (.ireturn, 1) → zW p l e R s m args below meth c cells slots Q D Ca B 6 τ N pc lv [.int r]) : zW p l e R s m args below meth c cells slots Q D Ca B 6 σ N 0 [(0, .ref x0), (1, .int x1), (2, .int x2), (3, .int x3), (4, .ref x4)] [] := by
  unfold fL_record at hf
  refine z_aload C dL_record_0 4 rfl ?_
  refine z_iconst C (zi 0) dL_record_2 (by decide) ?_
  refine z_aload_n C dL_record_3 rfl 0 rfl ?_
  refine z_iload_n C dL_record_4 rfl 1 rfl ?_
  refine z_iload_n C dL_record_5 rfl 2 rfl ?_
  refine z_iload_n C dL_record_6 rfl 3 rfl ?_
  obtain ⟨c1, hc1, hf⟩ := zbind hf
  obtain ⟨kc1, hc1⟩ := zck_ok hc1
  refine z_callVi (As := [.int x1, .int x2, .int x3]) (F0 := 2) (L0 := 45) C (mX9_record l D Ca B En C.2.2.2.2.2.2.2.1 σ N x0 x1 x2 x3 _ hc1) hRm kc1 rfl kw_944 kw_1 kw_941 kw_942 kw_943 hyX9_record (Nat.le_of_ble_eq_true rfl) (Nat.le_of_ble_eq_true rfl) rfl rfl (Nat.le_of_ble_eq_true rfl) dL_record_7 ?_
  refine z_i2l C dL_record_10 ?_
  obtain ⟨σ2, hσ2, hf⟩ := zbind hf
  refine z_sJ C hσ2 dL_record_11 ?_
  refine z_goto C 19 dL_record_12 (by decide) ?_
  refine z_iconst C (zi 0) dL_record_19 (by decide) ?_
  cases hf
  exact hq _ _ dL_record_20

theorem mL_record (l : Launch) (D : va_G) (Ca : Nat → ClassId) (B : Nat) (En : State → Prop) (hE : zEk B En) (σ : zS) (N : Nat) (x0 : Nat) (x1 : Int32) (x2 : Int32) (x3 : Int32) (x4 : Nat) (X : zS × Int32) (hf : fL_record σ x0 x1 x2 x3 x4 = some X) : zMiH l D Ca B En yL_record cL_record 6 (Option.some Jvm.ClassFile.FieldType.int) [((0 : Nat), (12 : Nat), (15 : Nat), (13 : Nat))] 2 45 [.ref x0, .int x1, .int x2, .int x3, .ref x4] σ N X.1 X.2 :=
  zMet_H (own := RL) hE (by decide +kernel) rfl (Nat.le_of_ble_eq_true rfl) (fun p e s m args below meth c C hr ht hRm => wfL_record C hRm σ x0 x1 x2 x3 x4 X.1 X.2 hf (fun pc lv hd => zfin_H C hr (Nat.le_refl _) (by omega) (by omega) hd))
set_option maxRecDepth 100000 in
set_option maxHeartbeats 4000000 in
theorem mxL_record_1 (l : Launch) (D : va_G) (Ca : Nat → ClassId) (B : Nat) (En : State → Prop) (hE : zEk B En) (hT : ∀ U, En U → zThr B U) (hT2 : ∀ U, En U → va_Nc (zEx 4) (zEx 1) U ∧ va_Nc (zEx 2) (zEx 1) U) (hl0 : l.stackTraces = false) (σ : zS) (N : Nat) (x0 : Nat) (x1 : Int32) (x2 : Int32) (x3 : Int32) (x4 : Nat) (h13 : (σ.1 x0).1 = 13) (hf : tX9_record σ x0 x1 x2 x3 = some 1) : zMiH l D Ca B En yL_record cL_record 6 (Option.some Jvm.ClassFile.FieldType.int) [((0 : Nat), (12 : Nat), (15 : Nat), (13 : Nat))] 8 126 [.ref x0, .int x1, .int x2, .int x3, .ref x4] σ N σ (zi 1) := by
  refine zMet_H (own := RL) hE (by decide +kernel) rfl (Nat.le_of_ble_eq_true rfl) (fun p e s m args below meth c C hr ht hRm => ?_)
  refine z_aload C dL_record_0 4 rfl ?_
  refine z_iconst C (zi 0) dL_record_2 (by decide) ?_
  refine z_aload_n C dL_record_3 rfl 0 rfl ?_
  refine z_iload_n C dL_record_4 rfl 1 rfl ?_
  refine z_iload_n C dL_record_5 rfl 2 rfl ?_
  refine z_iload_n C dL_record_6 rfl 3 rfl ?_
  refine z_catchV (As := [.int x1, .int x2, .int x3]) (F0 := 8) (L0 := 126) C hT (mtX9_record l D Ca B En hE hT hl0 σ N x0 x1 x2 x3 h13 1 hf) hRm h13 rfl kw_944 kw_1 kw_941 kw_942 kw_943 hyX9_record (Nat.le_of_ble_eq_true rfl) (Nat.le_of_ble_eq_true rfl) rfl rfl (Nat.le_of_ble_eq_true rfl) dL_record_7 (Nat.le_of_ble_eq_true rfl) (Nat.le_of_ble_eq_true rfl) [] ⟨0, 12, 15, 13⟩ [] (ht.trans rfl) (fun z hz => nomatch hz) (by decide) (by decide) kw_865 (zEcm 1 (by omega)) (fun N2 q hN => ?_)
  refine z_sub [] rfl ?_
  refine z_astore (lv2 := [(5, .ref q)]) C dL_record_15 (by decide) rfl ?_
  refine z_iconst C (zi 1) dL_record_17 (by decide) ?_
  exact zfin_H C hr hN (by omega) (by omega) dL_record_18
theorem dL_owner_0 : decode cL_owner 0 = .ok (.aload_n 2, 1) := by decide +kernel
theorem dL_owner_1 : decode cL_owner 1 = .ok (.iconst 0, 1) := by decide +kernel
theorem dL_owner_2 : decode cL_owner 2 = .ok (.aload_n 0, 1) := by decide +kernel
theorem dL_owner_3 : decode cL_owner 3 = .ok (.iload_n 1, 1) := by decide +kernel
theorem dL_owner_4 : decode cL_owner 4 = .ok (.invokevirtual 19, 3) := by decide +kernel
theorem dL_owner_7 : decode cL_owner 7 = .ok (.i2l, 1) := by decide +kernel
theorem dL_owner_8 : decode cL_owner 8 = .ok (.lastore, 1) := by decide +kernel
theorem dL_owner_9 : decode cL_owner 9 = .ok (.goto 6, 3) := by decide +kernel
theorem dL_owner_12 : decode cL_owner 12 = .ok (.astore_n 3, 1) := by decide +kernel
theorem dL_owner_13 : decode cL_owner 13 = .ok (.iconst 1, 1) := by decide +kernel
theorem dL_owner_14 : decode cL_owner 14 = .ok (.ireturn, 1) := by decide +kernel
theorem dL_owner_15 : decode cL_owner 15 = .ok (.iconst 0, 1) := by decide +kernel
theorem dL_owner_16 : decode cL_owner 16 = .ok (.ireturn, 1) := by decide +kernel
theorem hyL_owner : yL_owner.cls ≠ "java/lang/invoke/MethodHandle" ∧ yL_owner.cls ≠ "java/lang/invoke/VarHandle" ∧ (parseMethodDescriptor yL_owner.desc).map (fun d => d.parameters.length) = some 3 := ⟨by decide +kernel, by decide +kernel, by decide +kernel⟩
set_option maxRecDepth 100000 in
set_option maxHeartbeats 4000000 in
theorem wfL_owner (C : zC p s m args meth c cL_owner RL 4 D Ca B En) (hRm : zRm R 2 42 cells slots) (σ : zS) (x0 : Nat) (x1 : Int32) (x2 : Nat) (τ : zS) (r : Int32) (hf : fL_owner σ x0 x1 x2 = some (τ, r)) (hq : ∀ (pc : Nat) (lv : List (Nat × Value)), decode cL_owner pc = .ok (.ireturn, 1) → zW p l e R s m args below meth c cells slots Q D Ca B 4 τ N pc lv [.int r]) : zW p l e R s m args below meth c cells slots Q D Ca B 4 σ N 0 [(0, .ref x0), (1, .int x1), (2, .ref x2)] [] := by
  unfold fL_owner at hf
  refine z_aload_n C dL_owner_0 rfl 2 rfl ?_
  refine z_iconst C (zi 0) dL_owner_1 (by decide) ?_
  refine z_aload_n C dL_owner_2 rfl 0 rfl ?_
  refine z_iload_n C dL_owner_3 rfl 1 rfl ?_
  obtain ⟨c1, hc1, hf⟩ := zbind hf
  obtain ⟨kc1, hc1⟩ := zck_ok hc1
  refine z_callVi (As := [.int x1]) (F0 := 2) (L0 := 42) C (mX9_owner l D Ca B En C.2.2.2.2.2.2.2.1 σ N x0 x1 _ hc1) hRm kc1 rfl kw_955 kw_1 kw_952 kw_953 kw_954 hyX9_owner (Nat.le_of_ble_eq_true rfl) (Nat.le_of_ble_eq_true rfl) rfl rfl (Nat.le_of_ble_eq_true rfl) dL_owner_4 ?_
  refine z_i2l C dL_owner_7 ?_
  obtain ⟨σ2, hσ2, hf⟩ := zbind hf
  refine z_sJ C hσ2 dL_owner_8 ?_
  refine z_goto C 15 dL_owner_9 (by decide) ?_
  refine z_iconst C (zi 0) dL_owner_15 (by decide) ?_
  cases hf
  exact hq _ _ dL_owner_16

theorem mL_owner (l : Launch) (D : va_G) (Ca : Nat → ClassId) (B : Nat) (En : State → Prop) (hE : zEk B En) (σ : zS) (N : Nat) (x0 : Nat) (x1 : Int32) (x2 : Nat) (X : zS × Int32) (hf : fL_owner σ x0 x1 x2 = some X) : zMiH l D Ca B En yL_owner cL_owner 4 (Option.some Jvm.ClassFile.FieldType.int) [((0 : Nat), (9 : Nat), (12 : Nat), (23 : Nat))] 2 42 [.ref x0, .int x1, .ref x2] σ N X.1 X.2 :=
  zMet_H (own := RL) hE (by decide +kernel) rfl (Nat.le_of_ble_eq_true rfl) (fun p e s m args below meth c C hr ht hRm => wfL_owner C hRm σ x0 x1 x2 X.1 X.2 hf (fun pc lv hd => zfin_H C hr (Nat.le_refl _) (by omega) (by omega) hd))
set_option maxRecDepth 100000 in
set_option maxHeartbeats 4000000 in
theorem mxL_owner_2 (l : Launch) (D : va_G) (Ca : Nat → ClassId) (B : Nat) (En : State → Prop) (hE : zEk B En) (hT : ∀ U, En U → zThr B U) (hT2 : ∀ U, En U → va_Nc (zEx 4) (zEx 1) U ∧ va_Nc (zEx 2) (zEx 1) U) (hl0 : l.stackTraces = false) (σ : zS) (N : Nat) (x0 : Nat) (x1 : Int32) (x2 : Nat) (h13 : (σ.1 x0).1 = 13) (hf : tX9_owner σ x0 x1 = some 2) : zMiH l D Ca B En yL_owner cL_owner 4 (Option.some Jvm.ClassFile.FieldType.int) [((0 : Nat), (9 : Nat), (12 : Nat), (23 : Nat))] 8 122 [.ref x0, .int x1, .ref x2] σ N σ (zi 1) := by
  refine zMet_H (own := RL) hE (by decide +kernel) rfl (Nat.le_of_ble_eq_true rfl) (fun p e s m args below meth c C hr ht hRm => ?_)
  refine z_aload_n C dL_owner_0 rfl 2 rfl ?_
  refine z_iconst C (zi 0) dL_owner_1 (by decide) ?_
  refine z_aload_n C dL_owner_2 rfl 0 rfl ?_
  refine z_iload_n C dL_owner_3 rfl 1 rfl ?_
  refine z_catchV (As := [.int x1]) (F0 := 8) (L0 := 122) C hT (mtX9_owner l D Ca B En hE hT hl0 σ N x0 x1 h13 2 hf) hRm h13 rfl kw_955 kw_1 kw_952 kw_953 kw_954 hyX9_owner (Nat.le_of_ble_eq_true rfl) (Nat.le_of_ble_eq_true rfl) rfl rfl (Nat.le_of_ble_eq_true rfl) dL_owner_4 (Nat.le_of_ble_eq_true rfl) (Nat.le_of_ble_eq_true rfl) [] ⟨0, 9, 12, 23⟩ [] (ht.trans rfl) (fun z hz => nomatch hz) (by decide) (by decide) kw_951 (zEcm 2 (by omega)) (fun N2 q hN => ?_)
  refine z_sub [] rfl ?_
  refine z_astore_n (lv2 := [(3, .ref q)]) C dL_owner_12 rfl (by decide) rfl ?_
  refine z_iconst C (zi 1) dL_owner_13 (by decide) ?_
  exact zfin_H C hr hN (by omega) (by omega) dL_owner_14
theorem dL_sum_0 : decode cL_sum 0 = .ok (.aload_n 2, 1) := by decide +kernel
theorem dL_sum_1 : decode cL_sum 1 = .ok (.iconst 0, 1) := by decide +kernel
theorem dL_sum_2 : decode cL_sum 2 = .ok (.aload_n 0, 1) := by decide +kernel
theorem dL_sum_3 : decode cL_sum 3 = .ok (.iload_n 1, 1) := by decide +kernel
theorem dL_sum_4 : decode cL_sum 4 = .ok (.invokevirtual 25, 3) := by decide +kernel
theorem dL_sum_7 : decode cL_sum 7 = .ok (.i2l, 1) := by decide +kernel
theorem dL_sum_8 : decode cL_sum 8 = .ok (.lastore, 1) := by decide +kernel
theorem dL_sum_9 : decode cL_sum 9 = .ok (.goto 6, 3) := by decide +kernel
theorem dL_sum_12 : decode cL_sum 12 = .ok (.astore_n 3, 1) := by decide +kernel
theorem dL_sum_13 : decode cL_sum 13 = .ok (.iconst 1, 1) := by decide +kernel
theorem dL_sum_14 : decode cL_sum 14 = .ok (.ireturn, 1) := by decide +kernel
theorem dL_sum_15 : decode cL_sum 15 = .ok (.iconst 0, 1) := by decide +kernel
theorem dL_sum_16 : decode cL_sum 16 = .ok (.ireturn, 1) := by decide +kernel
theorem hyL_sum : yL_sum.cls ≠ "java/lang/invoke/MethodHandle" ∧ yL_sum.cls ≠ "java/lang/invoke/VarHandle" ∧ (parseMethodDescriptor yL_sum.desc).map (fun d => d.parameters.length) = some 3 := ⟨by decide +kernel, by decide +kernel, by decide +kernel⟩
set_option maxRecDepth 100000 in
set_option maxHeartbeats 4000000 in
theorem wfL_sum (C : zC p s m args meth c cL_sum RL 4 D Ca B En) (hRm : zRm R 2 41 cells slots) (σ : zS) (x0 : Nat) (x1 : Int32) (x2 : Nat) (τ : zS) (r : Int32) (hf : fL_sum σ x0 x1 x2 = some (τ, r)) (hq : ∀ (pc : Nat) (lv : List (Nat × Value)), decode cL_sum pc = .ok (.ireturn, 1) → zW p l e R s m args below meth c cells slots Q D Ca B 4 τ N pc lv [.int r]) : zW p l e R s m args below meth c cells slots Q D Ca B 4 σ N 0 [(0, .ref x0), (1, .int x1), (2, .ref x2)] [] := by
  unfold fL_sum at hf
  refine z_aload_n C dL_sum_0 rfl 2 rfl ?_
  refine z_iconst C (zi 0) dL_sum_1 (by decide) ?_
  refine z_aload_n C dL_sum_2 rfl 0 rfl ?_
  refine z_iload_n C dL_sum_3 rfl 1 rfl ?_
  obtain ⟨c1, hc1, hf⟩ := zbind hf
  obtain ⟨kc1, hc1⟩ := zck_ok hc1
  refine z_callVi (As := [.int x1]) (F0 := 2) (L0 := 41) C (mX9_sum l D Ca B En C.2.2.2.2.2.2.2.1 σ N x0 x1 _ hc1) hRm kc1 rfl kw_981 kw_1 kw_978 kw_979 kw_980 hyX9_sum (Nat.le_of_ble_eq_true rfl) (Nat.le_of_ble_eq_true rfl) rfl rfl (Nat.le_of_ble_eq_true rfl) dL_sum_4 ?_
  refine z_i2l C dL_sum_7 ?_
  obtain ⟨σ2, hσ2, hf⟩ := zbind hf
  refine z_sJ C hσ2 dL_sum_8 ?_
  refine z_goto C 15 dL_sum_9 (by decide) ?_
  refine z_iconst C (zi 0) dL_sum_15 (by decide) ?_
  cases hf
  exact hq _ _ dL_sum_16

theorem mL_sum (l : Launch) (D : va_G) (Ca : Nat → ClassId) (B : Nat) (En : State → Prop) (hE : zEk B En) (σ : zS) (N : Nat) (x0 : Nat) (x1 : Int32) (x2 : Nat) (X : zS × Int32) (hf : fL_sum σ x0 x1 x2 = some X) : zMiH l D Ca B En yL_sum cL_sum 4 (Option.some Jvm.ClassFile.FieldType.int) [((0 : Nat), (9 : Nat), (12 : Nat), (23 : Nat))] 2 41 [.ref x0, .int x1, .ref x2] σ N X.1 X.2 :=
  zMet_H (own := RL) hE (by decide +kernel) rfl (Nat.le_of_ble_eq_true rfl) (fun p e s m args below meth c C hr ht hRm => wfL_sum C hRm σ x0 x1 x2 X.1 X.2 hf (fun pc lv hd => zfin_H C hr (Nat.le_refl _) (by omega) (by omega) hd))
set_option maxRecDepth 100000 in
set_option maxHeartbeats 4000000 in
theorem mxL_sum_2 (l : Launch) (D : va_G) (Ca : Nat → ClassId) (B : Nat) (En : State → Prop) (hE : zEk B En) (hT : ∀ U, En U → zThr B U) (hT2 : ∀ U, En U → va_Nc (zEx 4) (zEx 1) U ∧ va_Nc (zEx 2) (zEx 1) U) (hl0 : l.stackTraces = false) (σ : zS) (N : Nat) (x0 : Nat) (x1 : Int32) (x2 : Nat) (h13 : (σ.1 x0).1 = 13) (hf : tX9_sum σ x0 x1 = some 2) : zMiH l D Ca B En yL_sum cL_sum 4 (Option.some Jvm.ClassFile.FieldType.int) [((0 : Nat), (9 : Nat), (12 : Nat), (23 : Nat))] 8 122 [.ref x0, .int x1, .ref x2] σ N σ (zi 1) := by
  refine zMet_H (own := RL) hE (by decide +kernel) rfl (Nat.le_of_ble_eq_true rfl) (fun p e s m args below meth c C hr ht hRm => ?_)
  refine z_aload_n C dL_sum_0 rfl 2 rfl ?_
  refine z_iconst C (zi 0) dL_sum_1 (by decide) ?_
  refine z_aload_n C dL_sum_2 rfl 0 rfl ?_
  refine z_iload_n C dL_sum_3 rfl 1 rfl ?_
  refine z_catchV (As := [.int x1]) (F0 := 8) (L0 := 122) C hT (mtX9_sum l D Ca B En hE hT hl0 σ N x0 x1 h13 2 hf) hRm h13 rfl kw_981 kw_1 kw_978 kw_979 kw_980 hyX9_sum (Nat.le_of_ble_eq_true rfl) (Nat.le_of_ble_eq_true rfl) rfl rfl (Nat.le_of_ble_eq_true rfl) dL_sum_4 (Nat.le_of_ble_eq_true rfl) (Nat.le_of_ble_eq_true rfl) [] ⟨0, 9, 12, 23⟩ [] (ht.trans rfl) (fun z hz => nomatch hz) (by decide) (by decide) kw_951 (zEcm 2 (by omega)) (fun N2 q hN => ?_)
  refine z_sub [] rfl ?_
  refine z_astore_n (lv2 := [(3, .ref q)]) C dL_sum_12 rfl (by decide) rfl ?_
  refine z_iconst C (zi 1) dL_sum_13 (by decide) ?_
  exact zfin_H C hr hN (by omega) (by omega) dL_sum_14
theorem dL_instance_0 : decode cL_instance 0 = .ok (.aload_n 3, 1) := by decide +kernel
theorem dL_instance_1 : decode cL_instance 1 = .ok (.iconst 0, 1) := by decide +kernel
theorem dL_instance_2 : decode cL_instance 2 = .ok (.aload_n 0, 1) := by decide +kernel
theorem dL_instance_3 : decode cL_instance 3 = .ok (.iload_n 1, 1) := by decide +kernel
theorem dL_instance_4 : decode cL_instance 4 = .ok (.iload_n 2, 1) := by decide +kernel
theorem dL_instance_5 : decode cL_instance 5 = .ok (.invokevirtual 28, 3) := by decide +kernel
theorem dL_instance_8 : decode cL_instance 8 = .ok (.i2l, 1) := by decide +kernel
theorem dL_instance_9 : decode cL_instance 9 = .ok (.lastore, 1) := by decide +kernel
theorem dL_instance_10 : decode cL_instance 10 = .ok (.goto 7, 3) := by decide +kernel
theorem dL_instance_13 : decode cL_instance 13 = .ok (.astore 4, 2) := by decide +kernel
theorem dL_instance_15 : decode cL_instance 15 = .ok (.iconst 1, 1) := by decide +kernel
theorem dL_instance_16 : decode cL_instance 16 = .ok (.ireturn, 1) := by decide +kernel
theorem dL_instance_17 : decode cL_instance 17 = .ok (.iconst 0, 1) := by decide +kernel
theorem dL_instance_18 : decode cL_instance 18 = .ok (.ireturn, 1) := by decide +kernel
theorem hyL_instance : yL_instance.cls ≠ "java/lang/invoke/MethodHandle" ∧ yL_instance.cls ≠ "java/lang/invoke/VarHandle" ∧ (parseMethodDescriptor yL_instance.desc).map (fun d => d.parameters.length) = some 4 := ⟨by decide +kernel, by decide +kernel, by decide +kernel⟩
set_option maxRecDepth 100000 in
set_option maxHeartbeats 4000000 in
theorem wfL_instance (C : zC p s m args meth c cL_instance RL 5 D Ca B En) (hRm : zRm R 4 86 cells slots) (σ : zS) (x0 : Nat) (x1 : Int32) (x2 : Int32) (x3 : Nat) (τ : zS) (r : Int32) (hf : fL_instance σ x0 x1 x2 x3 = some (τ, r)) (hq : ∀ (pc : Nat) (lv : List (Nat × Value)), decode cL_instance pc = .ok (.ireturn, 1) → zW p l e R s m args below meth c cells slots Q D Ca B 5 τ N pc lv [.int r]) : zW p l e R s m args below meth c cells slots Q D Ca B 5 σ N 0 [(0, .ref x0), (1, .int x1), (2, .int x2), (3, .ref x3)] [] := by
  unfold fL_instance at hf
  refine z_aload_n C dL_instance_0 rfl 3 rfl ?_
  refine z_iconst C (zi 0) dL_instance_1 (by decide) ?_
  refine z_aload_n C dL_instance_2 rfl 0 rfl ?_
  refine z_iload_n C dL_instance_3 rfl 1 rfl ?_
  refine z_iload_n C dL_instance_4 rfl 2 rfl ?_
  obtain ⟨c1, hc1, hf⟩ := zbind hf
  obtain ⟨kc1, hc1⟩ := zck_ok hc1
  refine z_callVi (As := [.int x1, .int x2]) (F0 := 4) (L0 := 86) C (mX9_instance l D Ca B En C.2.2.2.2.2.2.2.1 σ N x0 x1 x2 _ hc1) hRm kc1 rfl kw_988 kw_1 kw_985 kw_986 kw_987 hyX9_instance (Nat.le_of_ble_eq_true rfl) (Nat.le_of_ble_eq_true rfl) rfl rfl (Nat.le_of_ble_eq_true rfl) dL_instance_5 ?_
  refine z_i2l C dL_instance_8 ?_
  obtain ⟨σ2, hσ2, hf⟩ := zbind hf
  refine z_sJ C hσ2 dL_instance_9 ?_
  refine z_goto C 17 dL_instance_10 (by decide) ?_
  refine z_iconst C (zi 0) dL_instance_17 (by decide) ?_
  cases hf
  exact hq _ _ dL_instance_18

theorem mL_instance (l : Launch) (D : va_G) (Ca : Nat → ClassId) (B : Nat) (En : State → Prop) (hE : zEk B En) (σ : zS) (N : Nat) (x0 : Nat) (x1 : Int32) (x2 : Int32) (x3 : Nat) (X : zS × Int32) (hf : fL_instance σ x0 x1 x2 x3 = some X) : zMiH l D Ca B En yL_instance cL_instance 5 (Option.some Jvm.ClassFile.FieldType.int) [((0 : Nat), (10 : Nat), (13 : Nat), (13 : Nat))] 4 86 [.ref x0, .int x1, .int x2, .ref x3] σ N X.1 X.2 :=
  zMet_H (own := RL) hE (by decide +kernel) rfl (Nat.le_of_ble_eq_true rfl) (fun p e s m args below meth c C hr ht hRm => wfL_instance C hRm σ x0 x1 x2 x3 X.1 X.2 hf (fun pc lv hd => zfin_H C hr (Nat.le_refl _) (by omega) (by omega) hd))
set_option maxRecDepth 100000 in
set_option maxHeartbeats 4000000 in
theorem mxL_instance_1 (l : Launch) (D : va_G) (Ca : Nat → ClassId) (B : Nat) (En : State → Prop) (hE : zEk B En) (hT : ∀ U, En U → zThr B U) (hT2 : ∀ U, En U → va_Nc (zEx 4) (zEx 1) U ∧ va_Nc (zEx 2) (zEx 1) U) (hl0 : l.stackTraces = false) (σ : zS) (N : Nat) (x0 : Nat) (x1 : Int32) (x2 : Int32) (x3 : Nat) (h13 : (σ.1 x0).1 = 13) (hf : tX9_instance σ x0 x1 x2 = some 1) : zMiH l D Ca B En yL_instance cL_instance 5 (Option.some Jvm.ClassFile.FieldType.int) [((0 : Nat), (10 : Nat), (13 : Nat), (13 : Nat))] 8 124 [.ref x0, .int x1, .int x2, .ref x3] σ N σ (zi 1) := by
  refine zMet_H (own := RL) hE (by decide +kernel) rfl (Nat.le_of_ble_eq_true rfl) (fun p e s m args below meth c C hr ht hRm => ?_)
  refine z_aload_n C dL_instance_0 rfl 3 rfl ?_
  refine z_iconst C (zi 0) dL_instance_1 (by decide) ?_
  refine z_aload_n C dL_instance_2 rfl 0 rfl ?_
  refine z_iload_n C dL_instance_3 rfl 1 rfl ?_
  refine z_iload_n C dL_instance_4 rfl 2 rfl ?_
  refine z_catchV (As := [.int x1, .int x2]) (F0 := 8) (L0 := 124) C hT (mtX9_instance l D Ca B En hE hT hl0 σ N x0 x1 x2 h13 1 hf) hRm h13 rfl kw_988 kw_1 kw_985 kw_986 kw_987 hyX9_instance (Nat.le_of_ble_eq_true rfl) (Nat.le_of_ble_eq_true rfl) rfl rfl (Nat.le_of_ble_eq_true rfl) dL_instance_5 (Nat.le_of_ble_eq_true rfl) (Nat.le_of_ble_eq_true rfl) [] ⟨0, 10, 13, 13⟩ [] (ht.trans rfl) (fun z hz => nomatch hz) (by decide) (by decide) kw_865 (zEcm 1 (by omega)) (fun N2 q hN => ?_)
  refine z_sub [] rfl ?_
  refine z_astore (lv2 := [(4, .ref q)]) C dL_instance_13 (by decide) rfl ?_
  refine z_iconst C (zi 1) dL_instance_15 (by decide) ?_
  exact zfin_H C hr hN (by omega) (by omega) dL_instance_16
theorem dL_sink_0 : decode cL_sink 0 = .ok (.aload_n 3, 1) := by decide +kernel
theorem dL_sink_1 : decode cL_sink 1 = .ok (.iconst 0, 1) := by decide +kernel
theorem dL_sink_2 : decode cL_sink 2 = .ok (.aload_n 0, 1) := by decide +kernel
theorem dL_sink_3 : decode cL_sink 3 = .ok (.iload_n 1, 1) := by decide +kernel
theorem dL_sink_4 : decode cL_sink 4 = .ok (.iload_n 2, 1) := by decide +kernel
theorem dL_sink_5 : decode cL_sink 5 = .ok (.invokevirtual 31, 3) := by decide +kernel
theorem dL_sink_8 : decode cL_sink 8 = .ok (.i2l, 1) := by decide +kernel
theorem dL_sink_9 : decode cL_sink 9 = .ok (.lastore, 1) := by decide +kernel
theorem dL_sink_10 : decode cL_sink 10 = .ok (.goto 7, 3) := by decide +kernel
theorem dL_sink_13 : decode cL_sink 13 = .ok (.astore 4, 2) := by decide +kernel
theorem dL_sink_15 : decode cL_sink 15 = .ok (.iconst 1, 1) := by decide +kernel
theorem dL_sink_16 : decode cL_sink 16 = .ok (.ireturn, 1) := by decide +kernel
theorem dL_sink_17 : decode cL_sink 17 = .ok (.iconst 0, 1) := by decide +kernel
theorem dL_sink_18 : decode cL_sink 18 = .ok (.ireturn, 1) := by decide +kernel
theorem hyL_sink : yL_sink.cls ≠ "java/lang/invoke/MethodHandle" ∧ yL_sink.cls ≠ "java/lang/invoke/VarHandle" ∧ (parseMethodDescriptor yL_sink.desc).map (fun d => d.parameters.length) = some 4 := ⟨by decide +kernel, by decide +kernel, by decide +kernel⟩
set_option maxRecDepth 100000 in
set_option maxHeartbeats 4000000 in
theorem wfL_sink (C : zC p s m args meth c cL_sink RL 5 D Ca B En) (hRm : zRm R 3 63 cells slots) (σ : zS) (x0 : Nat) (x1 : Int32) (x2 : Int32) (x3 : Nat) (τ : zS) (r : Int32) (hf : fL_sink σ x0 x1 x2 x3 = some (τ, r)) (hq : ∀ (pc : Nat) (lv : List (Nat × Value)), decode cL_sink pc = .ok (.ireturn, 1) → zW p l e R s m args below meth c cells slots Q D Ca B 5 τ N pc lv [.int r]) : zW p l e R s m args below meth c cells slots Q D Ca B 5 σ N 0 [(0, .ref x0), (1, .int x1), (2, .int x2), (3, .ref x3)] [] := by
  unfold fL_sink at hf
  refine z_aload_n C dL_sink_0 rfl 3 rfl ?_
  refine z_iconst C (zi 0) dL_sink_1 (by decide) ?_
  refine z_aload_n C dL_sink_2 rfl 0 rfl ?_
  refine z_iload_n C dL_sink_3 rfl 1 rfl ?_
  refine z_iload_n C dL_sink_4 rfl 2 rfl ?_
  obtain ⟨c1, hc1, hf⟩ := zbind hf
  obtain ⟨kc1, hc1⟩ := zck_ok hc1
  refine z_callVi (As := [.int x1, .int x2]) (F0 := 3) (L0 := 63) C (mX9_sink l D Ca B En C.2.2.2.2.2.2.2.1 σ N x0 x1 x2 _ hc1) hRm kc1 rfl kw_1010 kw_1 kw_1007 kw_1008 kw_1009 hyX9_sink (Nat.le_of_ble_eq_true rfl) (Nat.le_of_ble_eq_true rfl) rfl rfl (Nat.le_of_ble_eq_true rfl) dL_sink_5 ?_
  refine z_i2l C dL_sink_8 ?_
  obtain ⟨σ2, hσ2, hf⟩ := zbind hf
  refine z_sJ C hσ2 dL_sink_9 ?_
  refine z_goto C 17 dL_sink_10 (by decide) ?_
  refine z_iconst C (zi 0) dL_sink_17 (by decide) ?_
  cases hf
  exact hq _ _ dL_sink_18

theorem mL_sink (l : Launch) (D : va_G) (Ca : Nat → ClassId) (B : Nat) (En : State → Prop) (hE : zEk B En) (σ : zS) (N : Nat) (x0 : Nat) (x1 : Int32) (x2 : Int32) (x3 : Nat) (X : zS × Int32) (hf : fL_sink σ x0 x1 x2 x3 = some X) : zMiH l D Ca B En yL_sink cL_sink 5 (Option.some Jvm.ClassFile.FieldType.int) [((0 : Nat), (10 : Nat), (13 : Nat), (13 : Nat))] 3 63 [.ref x0, .int x1, .int x2, .ref x3] σ N X.1 X.2 :=
  zMet_H (own := RL) hE (by decide +kernel) rfl (Nat.le_of_ble_eq_true rfl) (fun p e s m args below meth c C hr ht hRm => wfL_sink C hRm σ x0 x1 x2 x3 X.1 X.2 hf (fun pc lv hd => zfin_H C hr (Nat.le_refl _) (by omega) (by omega) hd))
set_option maxRecDepth 100000 in
set_option maxHeartbeats 4000000 in
theorem mxL_sink_1 (l : Launch) (D : va_G) (Ca : Nat → ClassId) (B : Nat) (En : State → Prop) (hE : zEk B En) (hT : ∀ U, En U → zThr B U) (hT2 : ∀ U, En U → va_Nc (zEx 4) (zEx 1) U ∧ va_Nc (zEx 2) (zEx 1) U) (hl0 : l.stackTraces = false) (σ : zS) (N : Nat) (x0 : Nat) (x1 : Int32) (x2 : Int32) (x3 : Nat) (h13 : (σ.1 x0).1 = 13) (hf : tX9_sink σ x0 x1 x2 = some 1) : zMiH l D Ca B En yL_sink cL_sink 5 (Option.some Jvm.ClassFile.FieldType.int) [((0 : Nat), (10 : Nat), (13 : Nat), (13 : Nat))] 8 124 [.ref x0, .int x1, .int x2, .ref x3] σ N σ (zi 1) := by
  refine zMet_H (own := RL) hE (by decide +kernel) rfl (Nat.le_of_ble_eq_true rfl) (fun p e s m args below meth c C hr ht hRm => ?_)
  refine z_aload_n C dL_sink_0 rfl 3 rfl ?_
  refine z_iconst C (zi 0) dL_sink_1 (by decide) ?_
  refine z_aload_n C dL_sink_2 rfl 0 rfl ?_
  refine z_iload_n C dL_sink_3 rfl 1 rfl ?_
  refine z_iload_n C dL_sink_4 rfl 2 rfl ?_
  refine z_catchV (As := [.int x1, .int x2]) (F0 := 8) (L0 := 124) C hT (mtX9_sink l D Ca B En hE hT hl0 σ N x0 x1 x2 h13 1 hf) hRm h13 rfl kw_1010 kw_1 kw_1007 kw_1008 kw_1009 hyX9_sink (Nat.le_of_ble_eq_true rfl) (Nat.le_of_ble_eq_true rfl) rfl rfl (Nat.le_of_ble_eq_true rfl) dL_sink_5 (Nat.le_of_ble_eq_true rfl) (Nat.le_of_ble_eq_true rfl) [] ⟨0, 10, 13, 13⟩ [] (ht.trans rfl) (fun z hz => nomatch hz) (by decide) (by decide) kw_865 (zEcm 1 (by omega)) (fun N2 q hN => ?_)
  refine z_sub [] rfl ?_
  refine z_astore (lv2 := [(4, .ref q)]) C dL_sink_13 (by decide) rfl ?_
  refine z_iconst C (zi 1) dL_sink_15 (by decide) ?_
  exact zfin_H C hr hN (by omega) (by omega) dL_sink_16
theorem dL_shown_0 : decode cL_shown 0 = .ok (.aload 4, 2) := by decide +kernel
theorem dL_shown_2 : decode cL_shown 2 = .ok (.iconst 0, 1) := by decide +kernel
theorem dL_shown_3 : decode cL_shown 3 = .ok (.aload_n 0, 1) := by decide +kernel
theorem dL_shown_4 : decode cL_shown 4 = .ok (.iload_n 1, 1) := by decide +kernel
theorem dL_shown_5 : decode cL_shown 5 = .ok (.iload_n 2, 1) := by decide +kernel
theorem dL_shown_6 : decode cL_shown 6 = .ok (.iload_n 3, 1) := by decide +kernel
theorem dL_shown_7 : decode cL_shown 7 = .ok (.invokevirtual 34, 3) := by decide +kernel
theorem dL_shown_10 : decode cL_shown 10 = .ok (.i2l, 1) := by decide +kernel
theorem dL_shown_11 : decode cL_shown 11 = .ok (.lastore, 1) := by decide +kernel
theorem dL_shown_12 : decode cL_shown 12 = .ok (.goto 11, 3) := by decide +kernel
theorem dL_shown_15 : decode cL_shown 15 = .ok (.astore 5, 2) := by decide +kernel
theorem dL_shown_17 : decode cL_shown 17 = .ok (.iconst 1, 1) := by decide +kernel
theorem dL_shown_18 : decode cL_shown 18 = .ok (.ireturn, 1) := by decide +kernel
theorem dL_shown_19 : decode cL_shown 19 = .ok (.astore 5, 2) := by decide +kernel
theorem dL_shown_21 : decode cL_shown 21 = .ok (.iconst 2, 1) := by decide +kernel
theorem dL_shown_22 : decode cL_shown 22 = .ok (.ireturn, 1) := by decide +kernel
theorem dL_shown_23 : decode cL_shown 23 = .ok (.iconst 0, 1) := by decide +kernel
theorem dL_shown_24 : decode cL_shown 24 = .ok (.ireturn, 1) := by decide +kernel
theorem hyL_shown : yL_shown.cls ≠ "java/lang/invoke/MethodHandle" ∧ yL_shown.cls ≠ "java/lang/invoke/VarHandle" ∧ (parseMethodDescriptor yL_shown.desc).map (fun d => d.parameters.length) = some 5 := ⟨by decide +kernel, by decide +kernel, by decide +kernel⟩
set_option maxRecDepth 100000 in
set_option maxHeartbeats 4000000 in
theorem wfL_shown (C : zC p s m args meth c cL_shown RL 6 D Ca B En) (hRm : zRm R 4 89 cells slots) (σ : zS) (x0 : Nat) (x1 : Int32) (x2 : Int32) (x3 : Int32) (x4 : Nat) (τ : zS) (r : Int32) (hf : fL_shown σ x0 x1 x2 x3 x4 = some (τ, r)) (hq : ∀ (pc : Nat) (lv : List (Nat × Value)), decode cL_shown pc = .ok (.ireturn, 1) → zW p l e R s m args below meth c cells slots Q D Ca B 6 τ N pc lv [.int r]) : zW p l e R s m args below meth c cells slots Q D Ca B 6 σ N 0 [(0, .ref x0), (1, .int x1), (2, .int x2), (3, .int x3), (4, .ref x4)] [] := by
  unfold fL_shown at hf
  refine z_aload C dL_shown_0 4 rfl ?_
  refine z_iconst C (zi 0) dL_shown_2 (by decide) ?_
  refine z_aload_n C dL_shown_3 rfl 0 rfl ?_
  refine z_iload_n C dL_shown_4 rfl 1 rfl ?_
  refine z_iload_n C dL_shown_5 rfl 2 rfl ?_
  refine z_iload_n C dL_shown_6 rfl 3 rfl ?_
  obtain ⟨c1, hc1, hf⟩ := zbind hf
  obtain ⟨kc1, hc1⟩ := zck_ok hc1
  refine z_callVi (As := [.int x1, .int x2, .int x3]) (F0 := 4) (L0 := 89) C (mX9_shown l D Ca B En C.2.2.2.2.2.2.2.1 σ N x0 x1 x2 x3 _ hc1) hRm kc1 rfl kw_1022 kw_1 kw_1019 kw_1020 kw_1021 hyX9_shown (Nat.le_of_ble_eq_true rfl) (Nat.le_of_ble_eq_true rfl) rfl rfl (Nat.le_of_ble_eq_true rfl) dL_shown_7 ?_
  refine z_i2l C dL_shown_10 ?_
  obtain ⟨σ2, hσ2, hf⟩ := zbind hf
  refine z_sJ C hσ2 dL_shown_11 ?_
  refine z_goto C 23 dL_shown_12 (by decide) ?_
  refine z_iconst C (zi 0) dL_shown_23 (by decide) ?_
  cases hf
  exact hq _ _ dL_shown_24

theorem mL_shown (l : Launch) (D : va_G) (Ca : Nat → ClassId) (B : Nat) (En : State → Prop) (hE : zEk B En) (σ : zS) (N : Nat) (x0 : Nat) (x1 : Int32) (x2 : Int32) (x3 : Int32) (x4 : Nat) (X : zS × Int32) (hf : fL_shown σ x0 x1 x2 x3 x4 = some X) : zMiH l D Ca B En yL_shown cL_shown 6 (Option.some Jvm.ClassFile.FieldType.int) [((0 : Nat), (12 : Nat), (15 : Nat), (13 : Nat)), ((0 : Nat), (12 : Nat), (19 : Nat), (37 : Nat))] 4 89 [.ref x0, .int x1, .int x2, .int x3, .ref x4] σ N X.1 X.2 :=
  zMet_H (own := RL) hE (by decide +kernel) rfl (Nat.le_of_ble_eq_true rfl) (fun p e s m args below meth c C hr ht hRm => wfL_shown C hRm σ x0 x1 x2 x3 x4 X.1 X.2 hf (fun pc lv hd => zfin_H C hr (Nat.le_refl _) (by omega) (by omega) hd))
set_option maxRecDepth 100000 in
set_option maxHeartbeats 4000000 in
theorem mxL_shown_1 (l : Launch) (D : va_G) (Ca : Nat → ClassId) (B : Nat) (En : State → Prop) (hE : zEk B En) (hT : ∀ U, En U → zThr B U) (hT2 : ∀ U, En U → va_Nc (zEx 4) (zEx 1) U ∧ va_Nc (zEx 2) (zEx 1) U) (hl0 : l.stackTraces = false) (σ : zS) (N : Nat) (x0 : Nat) (x1 : Int32) (x2 : Int32) (x3 : Int32) (x4 : Nat) (h13 : (σ.1 x0).1 = 13) (hf : tX9_shown σ x0 x1 x2 x3 = some 1) : zMiH l D Ca B En yL_shown cL_shown 6 (Option.some Jvm.ClassFile.FieldType.int) [((0 : Nat), (12 : Nat), (15 : Nat), (13 : Nat)), ((0 : Nat), (12 : Nat), (19 : Nat), (37 : Nat))] 8 126 [.ref x0, .int x1, .int x2, .int x3, .ref x4] σ N σ (zi 1) := by
  refine zMet_H (own := RL) hE (by decide +kernel) rfl (Nat.le_of_ble_eq_true rfl) (fun p e s m args below meth c C hr ht hRm => ?_)
  refine z_aload C dL_shown_0 4 rfl ?_
  refine z_iconst C (zi 0) dL_shown_2 (by decide) ?_
  refine z_aload_n C dL_shown_3 rfl 0 rfl ?_
  refine z_iload_n C dL_shown_4 rfl 1 rfl ?_
  refine z_iload_n C dL_shown_5 rfl 2 rfl ?_
  refine z_iload_n C dL_shown_6 rfl 3 rfl ?_
  refine z_catchV (As := [.int x1, .int x2, .int x3]) (F0 := 8) (L0 := 126) C hT (mtX9_shown l D Ca B En hE hT hl0 σ N x0 x1 x2 x3 h13 1 hf) hRm h13 rfl kw_1022 kw_1 kw_1019 kw_1020 kw_1021 hyX9_shown (Nat.le_of_ble_eq_true rfl) (Nat.le_of_ble_eq_true rfl) rfl rfl (Nat.le_of_ble_eq_true rfl) dL_shown_7 (Nat.le_of_ble_eq_true rfl) (Nat.le_of_ble_eq_true rfl) [] ⟨0, 12, 15, 13⟩ [⟨0, 12, 19, 37⟩] (ht.trans rfl) (fun z hz => nomatch hz) (by decide) (by decide) kw_865 (zEcm 1 (by omega)) (fun N2 q hN => ?_)
  refine z_sub [] rfl ?_
  refine z_astore (lv2 := [(5, .ref q)]) C dL_shown_15 (by decide) rfl ?_
  refine z_iconst C (zi 1) dL_shown_17 (by decide) ?_
  exact zfin_H C hr hN (by omega) (by omega) dL_shown_18
set_option maxRecDepth 100000 in
set_option maxHeartbeats 4000000 in
theorem mxL_shown_4 (l : Launch) (D : va_G) (Ca : Nat → ClassId) (B : Nat) (En : State → Prop) (hE : zEk B En) (hT : ∀ U, En U → zThr B U) (hT2 : ∀ U, En U → va_Nc (zEx 4) (zEx 1) U ∧ va_Nc (zEx 2) (zEx 1) U) (hl0 : l.stackTraces = false) (σ : zS) (N : Nat) (x0 : Nat) (x1 : Int32) (x2 : Int32) (x3 : Int32) (x4 : Nat) (h13 : (σ.1 x0).1 = 13) (hf : tX9_shown σ x0 x1 x2 x3 = some 4) : zMiH l D Ca B En yL_shown cL_shown 6 (Option.some Jvm.ClassFile.FieldType.int) [((0 : Nat), (12 : Nat), (15 : Nat), (13 : Nat)), ((0 : Nat), (12 : Nat), (19 : Nat), (37 : Nat))] 8 126 [.ref x0, .int x1, .int x2, .int x3, .ref x4] σ N σ (zi 2) := by
  refine zMet_H (own := RL) hE (by decide +kernel) rfl (Nat.le_of_ble_eq_true rfl) (fun p e s m args below meth c C hr ht hRm => ?_)
  refine z_aload C dL_shown_0 4 rfl ?_
  refine z_iconst C (zi 0) dL_shown_2 (by decide) ?_
  refine z_aload_n C dL_shown_3 rfl 0 rfl ?_
  refine z_iload_n C dL_shown_4 rfl 1 rfl ?_
  refine z_iload_n C dL_shown_5 rfl 2 rfl ?_
  refine z_iload_n C dL_shown_6 rfl 3 rfl ?_
  refine z_catchV (As := [.int x1, .int x2, .int x3]) (F0 := 8) (L0 := 126) C hT (mtX9_shown l D Ca B En hE hT hl0 σ N x0 x1 x2 x3 h13 4 hf) hRm h13 rfl kw_1022 kw_1 kw_1019 kw_1020 kw_1021 hyX9_shown (Nat.le_of_ble_eq_true rfl) (Nat.le_of_ble_eq_true rfl) rfl rfl (Nat.le_of_ble_eq_true rfl) dL_shown_7 (Nat.le_of_ble_eq_true rfl) (Nat.le_of_ble_eq_true rfl) [⟨0, 12, 15, 13⟩] ⟨0, 12, 19, 37⟩ [] (ht.trans rfl) (fun z hz => by
    rcases List.mem_singleton.mp hz with rfl
    exact Or.inr ⟨by decide, zEx 1, C.2.2.2.1 _ kw_865, (hT2 s C.2.2.2.2.2.2.1).1⟩) (by decide) (by decide) kw_1018 (zEcm 4 (by omega)) (fun N2 q hN => ?_)
  refine z_sub [] rfl ?_
  refine z_astore (lv2 := [(5, .ref q)]) C dL_shown_19 (by decide) rfl ?_
  refine z_iconst C (zi 2) dL_shown_21 (by decide) ?_
  exact zfin_H C hr hN (by omega) (by omega) dL_shown_22
theorem dL_inChannel_0 : decode cL_inChannel 0 = .ok (.aload 4, 2) := by decide +kernel
theorem dL_inChannel_2 : decode cL_inChannel 2 = .ok (.iconst 0, 1) := by decide +kernel
theorem dL_inChannel_3 : decode cL_inChannel 3 = .ok (.aload_n 0, 1) := by decide +kernel
theorem dL_inChannel_4 : decode cL_inChannel 4 = .ok (.iload_n 1, 1) := by decide +kernel
theorem dL_inChannel_5 : decode cL_inChannel 5 = .ok (.iload_n 2, 1) := by decide +kernel
theorem dL_inChannel_6 : decode cL_inChannel 6 = .ok (.iload_n 3, 1) := by decide +kernel
theorem dL_inChannel_7 : decode cL_inChannel 7 = .ok (.invokevirtual 39, 3) := by decide +kernel
theorem dL_inChannel_10 : decode cL_inChannel 10 = .ok (.i2l, 1) := by decide +kernel
theorem dL_inChannel_11 : decode cL_inChannel 11 = .ok (.lastore, 1) := by decide +kernel
theorem dL_inChannel_12 : decode cL_inChannel 12 = .ok (.goto 7, 3) := by decide +kernel
theorem dL_inChannel_15 : decode cL_inChannel 15 = .ok (.astore 5, 2) := by decide +kernel
theorem dL_inChannel_17 : decode cL_inChannel 17 = .ok (.iconst 1, 1) := by decide +kernel
theorem dL_inChannel_18 : decode cL_inChannel 18 = .ok (.ireturn, 1) := by decide +kernel
theorem dL_inChannel_19 : decode cL_inChannel 19 = .ok (.iconst 0, 1) := by decide +kernel
theorem dL_inChannel_20 : decode cL_inChannel 20 = .ok (.ireturn, 1) := by decide +kernel
theorem hyL_inChannel : yL_inChannel.cls ≠ "java/lang/invoke/MethodHandle" ∧ yL_inChannel.cls ≠ "java/lang/invoke/VarHandle" ∧ (parseMethodDescriptor yL_inChannel.desc).map (fun d => d.parameters.length) = some 5 := ⟨by decide +kernel, by decide +kernel, by decide +kernel⟩
set_option maxRecDepth 100000 in
set_option maxHeartbeats 4000000 in
theorem wfL_inChannel (C : zC p s m args meth c cL_inChannel RL 6 D Ca B En) (hRm : zRm R 4 86 cells slots) (σ : zS) (x0 : Nat) (x1 : Int32) (x2 : Int32) (x3 : Int32) (x4 : Nat) (τ : zS) (r : Int32) (hf : fL_inChannel σ x0 x1 x2 x3 x4 = some (τ, r)) (hq : ∀ (pc : Nat) (lv : List (Nat × Value)), decode cL_inChannel pc = .ok (.ireturn, 1) → zW p l e R s m args below meth c cells slots Q D Ca B 6 τ N pc lv [.int r]) : zW p l e R s m args below meth c cells slots Q D Ca B 6 σ N 0 [(0, .ref x0), (1, .int x1), (2, .int x2), (3, .int x3), (4, .ref x4)] [] := by
  unfold fL_inChannel at hf
  refine z_aload C dL_inChannel_0 4 rfl ?_
  refine z_iconst C (zi 0) dL_inChannel_2 (by decide) ?_
  refine z_aload_n C dL_inChannel_3 rfl 0 rfl ?_
  refine z_iload_n C dL_inChannel_4 rfl 1 rfl ?_
  refine z_iload_n C dL_inChannel_5 rfl 2 rfl ?_
  refine z_iload_n C dL_inChannel_6 rfl 3 rfl ?_
  obtain ⟨c1, hc1, hf⟩ := zbind hf
  obtain ⟨kc1, hc1⟩ := zck_ok hc1
  refine z_callVi (As := [.int x1, .int x2, .int x3]) (F0 := 4) (L0 := 86) C (mX9_inChannel l D Ca B En C.2.2.2.2.2.2.2.1 σ N x0 x1 x2 x3 _ hc1) hRm kc1 rfl kw_1054 kw_1 kw_1051 kw_1052 kw_1053 hyX9_inChannel (Nat.le_of_ble_eq_true rfl) (Nat.le_of_ble_eq_true rfl) rfl rfl (Nat.le_of_ble_eq_true rfl) dL_inChannel_7 ?_
  refine z_i2l C dL_inChannel_10 ?_
  obtain ⟨σ2, hσ2, hf⟩ := zbind hf
  refine z_sJ C hσ2 dL_inChannel_11 ?_
  refine z_goto C 19 dL_inChannel_12 (by decide) ?_
  refine z_iconst C (zi 0) dL_inChannel_19 (by decide) ?_
  cases hf
  exact hq _ _ dL_inChannel_20

theorem mL_inChannel (l : Launch) (D : va_G) (Ca : Nat → ClassId) (B : Nat) (En : State → Prop) (hE : zEk B En) (σ : zS) (N : Nat) (x0 : Nat) (x1 : Int32) (x2 : Int32) (x3 : Int32) (x4 : Nat) (X : zS × Int32) (hf : fL_inChannel σ x0 x1 x2 x3 x4 = some X) : zMiH l D Ca B En yL_inChannel cL_inChannel 6 (Option.some Jvm.ClassFile.FieldType.int) [((0 : Nat), (12 : Nat), (15 : Nat), (13 : Nat))] 4 86 [.ref x0, .int x1, .int x2, .int x3, .ref x4] σ N X.1 X.2 :=
  zMet_H (own := RL) hE (by decide +kernel) rfl (Nat.le_of_ble_eq_true rfl) (fun p e s m args below meth c C hr ht hRm => wfL_inChannel C hRm σ x0 x1 x2 x3 x4 X.1 X.2 hf (fun pc lv hd => zfin_H C hr (Nat.le_refl _) (by omega) (by omega) hd))
set_option maxRecDepth 100000 in
set_option maxHeartbeats 4000000 in
theorem mxL_inChannel_1 (l : Launch) (D : va_G) (Ca : Nat → ClassId) (B : Nat) (En : State → Prop) (hE : zEk B En) (hT : ∀ U, En U → zThr B U) (hT2 : ∀ U, En U → va_Nc (zEx 4) (zEx 1) U ∧ va_Nc (zEx 2) (zEx 1) U) (hl0 : l.stackTraces = false) (σ : zS) (N : Nat) (x0 : Nat) (x1 : Int32) (x2 : Int32) (x3 : Int32) (x4 : Nat) (h13 : (σ.1 x0).1 = 13) (hf : tX9_inChannel σ x0 x1 x2 x3 = some 1) : zMiH l D Ca B En yL_inChannel cL_inChannel 6 (Option.some Jvm.ClassFile.FieldType.int) [((0 : Nat), (12 : Nat), (15 : Nat), (13 : Nat))] 8 125 [.ref x0, .int x1, .int x2, .int x3, .ref x4] σ N σ (zi 1) := by
  refine zMet_H (own := RL) hE (by decide +kernel) rfl (Nat.le_of_ble_eq_true rfl) (fun p e s m args below meth c C hr ht hRm => ?_)
  refine z_aload C dL_inChannel_0 4 rfl ?_
  refine z_iconst C (zi 0) dL_inChannel_2 (by decide) ?_
  refine z_aload_n C dL_inChannel_3 rfl 0 rfl ?_
  refine z_iload_n C dL_inChannel_4 rfl 1 rfl ?_
  refine z_iload_n C dL_inChannel_5 rfl 2 rfl ?_
  refine z_iload_n C dL_inChannel_6 rfl 3 rfl ?_
  refine z_catchV (As := [.int x1, .int x2, .int x3]) (F0 := 8) (L0 := 125) C hT (mtX9_inChannel l D Ca B En hE hT hl0 σ N x0 x1 x2 x3 h13 1 hf) hRm h13 rfl kw_1054 kw_1 kw_1051 kw_1052 kw_1053 hyX9_inChannel (Nat.le_of_ble_eq_true rfl) (Nat.le_of_ble_eq_true rfl) rfl rfl (Nat.le_of_ble_eq_true rfl) dL_inChannel_7 (Nat.le_of_ble_eq_true rfl) (Nat.le_of_ble_eq_true rfl) [] ⟨0, 12, 15, 13⟩ [] (ht.trans rfl) (fun z hz => nomatch hz) (by decide) (by decide) kw_865 (zEcm 1 (by omega)) (fun N2 q hN => ?_)
  refine z_sub [] rfl ?_
  refine z_astore (lv2 := [(5, .ref q)]) C dL_inChannel_15 (by decide) rfl ?_
  refine z_iconst C (zi 1) dL_inChannel_17 (by decide) ?_
  exact zfin_H C hr hN (by omega) (by omega) dL_inChannel_18
theorem dL_outChannel_0 : decode cL_outChannel 0 = .ok (.aload 4, 2) := by decide +kernel
theorem dL_outChannel_2 : decode cL_outChannel 2 = .ok (.iconst 0, 1) := by decide +kernel
theorem dL_outChannel_3 : decode cL_outChannel 3 = .ok (.aload_n 0, 1) := by decide +kernel
theorem dL_outChannel_4 : decode cL_outChannel 4 = .ok (.iload_n 1, 1) := by decide +kernel
theorem dL_outChannel_5 : decode cL_outChannel 5 = .ok (.iload_n 2, 1) := by decide +kernel
theorem dL_outChannel_6 : decode cL_outChannel 6 = .ok (.iload_n 3, 1) := by decide +kernel
theorem dL_outChannel_7 : decode cL_outChannel 7 = .ok (.invokevirtual 43, 3) := by decide +kernel
theorem dL_outChannel_10 : decode cL_outChannel 10 = .ok (.i2l, 1) := by decide +kernel
theorem dL_outChannel_11 : decode cL_outChannel 11 = .ok (.lastore, 1) := by decide +kernel
theorem dL_outChannel_12 : decode cL_outChannel 12 = .ok (.goto 7, 3) := by decide +kernel
theorem dL_outChannel_15 : decode cL_outChannel 15 = .ok (.astore 5, 2) := by decide +kernel
theorem dL_outChannel_17 : decode cL_outChannel 17 = .ok (.iconst 1, 1) := by decide +kernel
theorem dL_outChannel_18 : decode cL_outChannel 18 = .ok (.ireturn, 1) := by decide +kernel
theorem dL_outChannel_19 : decode cL_outChannel 19 = .ok (.iconst 0, 1) := by decide +kernel
theorem dL_outChannel_20 : decode cL_outChannel 20 = .ok (.ireturn, 1) := by decide +kernel
theorem hyL_outChannel : yL_outChannel.cls ≠ "java/lang/invoke/MethodHandle" ∧ yL_outChannel.cls ≠ "java/lang/invoke/VarHandle" ∧ (parseMethodDescriptor yL_outChannel.desc).map (fun d => d.parameters.length) = some 5 := ⟨by decide +kernel, by decide +kernel, by decide +kernel⟩
set_option maxRecDepth 100000 in
set_option maxHeartbeats 4000000 in
theorem wfL_outChannel (C : zC p s m args meth c cL_outChannel RL 6 D Ca B En) (hRm : zRm R 4 86 cells slots) (σ : zS) (x0 : Nat) (x1 : Int32) (x2 : Int32) (x3 : Int32) (x4 : Nat) (τ : zS) (r : Int32) (hf : fL_outChannel σ x0 x1 x2 x3 x4 = some (τ, r)) (hq : ∀ (pc : Nat) (lv : List (Nat × Value)), decode cL_outChannel pc = .ok (.ireturn, 1) → zW p l e R s m args below meth c cells slots Q D Ca B 6 τ N pc lv [.int r]) : zW p l e R s m args below meth c cells slots Q D Ca B 6 σ N 0 [(0, .ref x0), (1, .int x1), (2, .int x2), (3, .int x3), (4, .ref x4)] [] := by
  unfold fL_outChannel at hf
  refine z_aload C dL_outChannel_0 4 rfl ?_
  refine z_iconst C (zi 0) dL_outChannel_2 (by decide) ?_
  refine z_aload_n C dL_outChannel_3 rfl 0 rfl ?_
  refine z_iload_n C dL_outChannel_4 rfl 1 rfl ?_
  refine z_iload_n C dL_outChannel_5 rfl 2 rfl ?_
  refine z_iload_n C dL_outChannel_6 rfl 3 rfl ?_
  obtain ⟨c1, hc1, hf⟩ := zbind hf
  obtain ⟨kc1, hc1⟩ := zck_ok hc1
  refine z_callVi (As := [.int x1, .int x2, .int x3]) (F0 := 4) (L0 := 86) C (mX9_outChannel l D Ca B En C.2.2.2.2.2.2.2.1 σ N x0 x1 x2 x3 _ hc1) hRm kc1 rfl kw_1065 kw_1 kw_1062 kw_1063 kw_1064 hyX9_outChannel (Nat.le_of_ble_eq_true rfl) (Nat.le_of_ble_eq_true rfl) rfl rfl (Nat.le_of_ble_eq_true rfl) dL_outChannel_7 ?_
  refine z_i2l C dL_outChannel_10 ?_
  obtain ⟨σ2, hσ2, hf⟩ := zbind hf
  refine z_sJ C hσ2 dL_outChannel_11 ?_
  refine z_goto C 19 dL_outChannel_12 (by decide) ?_
  refine z_iconst C (zi 0) dL_outChannel_19 (by decide) ?_
  cases hf
  exact hq _ _ dL_outChannel_20

theorem mL_outChannel (l : Launch) (D : va_G) (Ca : Nat → ClassId) (B : Nat) (En : State → Prop) (hE : zEk B En) (σ : zS) (N : Nat) (x0 : Nat) (x1 : Int32) (x2 : Int32) (x3 : Int32) (x4 : Nat) (X : zS × Int32) (hf : fL_outChannel σ x0 x1 x2 x3 x4 = some X) : zMiH l D Ca B En yL_outChannel cL_outChannel 6 (Option.some Jvm.ClassFile.FieldType.int) [((0 : Nat), (12 : Nat), (15 : Nat), (13 : Nat))] 4 86 [.ref x0, .int x1, .int x2, .int x3, .ref x4] σ N X.1 X.2 :=
  zMet_H (own := RL) hE (by decide +kernel) rfl (Nat.le_of_ble_eq_true rfl) (fun p e s m args below meth c C hr ht hRm => wfL_outChannel C hRm σ x0 x1 x2 x3 x4 X.1 X.2 hf (fun pc lv hd => zfin_H C hr (Nat.le_refl _) (by omega) (by omega) hd))
set_option maxRecDepth 100000 in
set_option maxHeartbeats 4000000 in
theorem mxL_outChannel_1 (l : Launch) (D : va_G) (Ca : Nat → ClassId) (B : Nat) (En : State → Prop) (hE : zEk B En) (hT : ∀ U, En U → zThr B U) (hT2 : ∀ U, En U → va_Nc (zEx 4) (zEx 1) U ∧ va_Nc (zEx 2) (zEx 1) U) (hl0 : l.stackTraces = false) (σ : zS) (N : Nat) (x0 : Nat) (x1 : Int32) (x2 : Int32) (x3 : Int32) (x4 : Nat) (h13 : (σ.1 x0).1 = 13) (hf : tX9_outChannel σ x0 x1 x2 x3 = some 1) : zMiH l D Ca B En yL_outChannel cL_outChannel 6 (Option.some Jvm.ClassFile.FieldType.int) [((0 : Nat), (12 : Nat), (15 : Nat), (13 : Nat))] 8 125 [.ref x0, .int x1, .int x2, .int x3, .ref x4] σ N σ (zi 1) := by
  refine zMet_H (own := RL) hE (by decide +kernel) rfl (Nat.le_of_ble_eq_true rfl) (fun p e s m args below meth c C hr ht hRm => ?_)
  refine z_aload C dL_outChannel_0 4 rfl ?_
  refine z_iconst C (zi 0) dL_outChannel_2 (by decide) ?_
  refine z_aload_n C dL_outChannel_3 rfl 0 rfl ?_
  refine z_iload_n C dL_outChannel_4 rfl 1 rfl ?_
  refine z_iload_n C dL_outChannel_5 rfl 2 rfl ?_
  refine z_iload_n C dL_outChannel_6 rfl 3 rfl ?_
  refine z_catchV (As := [.int x1, .int x2, .int x3]) (F0 := 8) (L0 := 125) C hT (mtX9_outChannel l D Ca B En hE hT hl0 σ N x0 x1 x2 x3 h13 1 hf) hRm h13 rfl kw_1065 kw_1 kw_1062 kw_1063 kw_1064 hyX9_outChannel (Nat.le_of_ble_eq_true rfl) (Nat.le_of_ble_eq_true rfl) rfl rfl (Nat.le_of_ble_eq_true rfl) dL_outChannel_7 (Nat.le_of_ble_eq_true rfl) (Nat.le_of_ble_eq_true rfl) [] ⟨0, 12, 15, 13⟩ [] (ht.trans rfl) (fun z hz => nomatch hz) (by decide) (by decide) kw_865 (zEcm 1 (by omega)) (fun N2 q hN => ?_)
  refine z_sub [] rfl ?_
  refine z_astore (lv2 := [(5, .ref q)]) C dL_outChannel_15 (by decide) rfl ?_
  refine z_iconst C (zi 1) dL_outChannel_17 (by decide) ?_
  exact zfin_H C hr hN (by omega) (by omega) dL_outChannel_18
theorem dL_progress_0 : decode cL_progress 0 = .ok (.aload_n 2, 1) := by decide +kernel
theorem dL_progress_1 : decode cL_progress 1 = .ok (.iconst 0, 1) := by decide +kernel
theorem dL_progress_2 : decode cL_progress 2 = .ok (.aload_n 0, 1) := by decide +kernel
theorem dL_progress_3 : decode cL_progress 3 = .ok (.iload_n 1, 1) := by decide +kernel
theorem dL_progress_4 : decode cL_progress 4 = .ok (.invokevirtual 46, 3) := by decide +kernel
theorem dL_progress_7 : decode cL_progress 7 = .ok (.i2l, 1) := by decide +kernel
theorem dL_progress_8 : decode cL_progress 8 = .ok (.lastore, 1) := by decide +kernel
theorem dL_progress_9 : decode cL_progress 9 = .ok (.goto 6, 3) := by decide +kernel
theorem dL_progress_12 : decode cL_progress 12 = .ok (.astore_n 3, 1) := by decide +kernel
theorem dL_progress_13 : decode cL_progress 13 = .ok (.iconst 1, 1) := by decide +kernel
theorem dL_progress_14 : decode cL_progress 14 = .ok (.ireturn, 1) := by decide +kernel
theorem dL_progress_15 : decode cL_progress 15 = .ok (.iconst 0, 1) := by decide +kernel
theorem dL_progress_16 : decode cL_progress 16 = .ok (.ireturn, 1) := by decide +kernel
theorem hyL_progress : yL_progress.cls ≠ "java/lang/invoke/MethodHandle" ∧ yL_progress.cls ≠ "java/lang/invoke/VarHandle" ∧ (parseMethodDescriptor yL_progress.desc).map (fun d => d.parameters.length) = some 3 := ⟨by decide +kernel, by decide +kernel, by decide +kernel⟩
set_option maxRecDepth 100000 in
set_option maxHeartbeats 4000000 in
theorem wfL_progress (C : zC p s m args meth c cL_progress RL 4 D Ca B En) (hRm : zRm R 3 66 cells slots) (σ : zS) (x0 : Nat) (x1 : Int32) (x2 : Nat) (τ : zS) (r : Int32) (hf : fL_progress σ x0 x1 x2 = some (τ, r)) (hq : ∀ (pc : Nat) (lv : List (Nat × Value)), decode cL_progress pc = .ok (.ireturn, 1) → zW p l e R s m args below meth c cells slots Q D Ca B 4 τ N pc lv [.int r]) : zW p l e R s m args below meth c cells slots Q D Ca B 4 σ N 0 [(0, .ref x0), (1, .int x1), (2, .ref x2)] [] := by
  unfold fL_progress at hf
  refine z_aload_n C dL_progress_0 rfl 2 rfl ?_
  refine z_iconst C (zi 0) dL_progress_1 (by decide) ?_
  refine z_aload_n C dL_progress_2 rfl 0 rfl ?_
  refine z_iload_n C dL_progress_3 rfl 1 rfl ?_
  obtain ⟨c1, hc1, hf⟩ := zbind hf
  obtain ⟨kc1, hc1⟩ := zck_ok hc1
  refine z_callVi (As := [.int x1]) (F0 := 3) (L0 := 66) C (mX9_progress l D Ca B En C.2.2.2.2.2.2.2.1 σ N x0 x1 _ hc1) hRm kc1 rfl kw_1072 kw_1 kw_1069 kw_1070 kw_1071 hyX9_progress (Nat.le_of_ble_eq_true rfl) (Nat.le_of_ble_eq_true rfl) rfl rfl (Nat.le_of_ble_eq_true rfl) dL_progress_4 ?_
  refine z_i2l C dL_progress_7 ?_
  obtain ⟨σ2, hσ2, hf⟩ := zbind hf
  refine z_sJ C hσ2 dL_progress_8 ?_
  refine z_goto C 15 dL_progress_9 (by decide) ?_
  refine z_iconst C (zi 0) dL_progress_15 (by decide) ?_
  cases hf
  exact hq _ _ dL_progress_16

theorem mL_progress (l : Launch) (D : va_G) (Ca : Nat → ClassId) (B : Nat) (En : State → Prop) (hE : zEk B En) (σ : zS) (N : Nat) (x0 : Nat) (x1 : Int32) (x2 : Nat) (X : zS × Int32) (hf : fL_progress σ x0 x1 x2 = some X) : zMiH l D Ca B En yL_progress cL_progress 4 (Option.some Jvm.ClassFile.FieldType.int) [((0 : Nat), (9 : Nat), (12 : Nat), (23 : Nat))] 3 66 [.ref x0, .int x1, .ref x2] σ N X.1 X.2 :=
  zMet_H (own := RL) hE (by decide +kernel) rfl (Nat.le_of_ble_eq_true rfl) (fun p e s m args below meth c C hr ht hRm => wfL_progress C hRm σ x0 x1 x2 X.1 X.2 hf (fun pc lv hd => zfin_H C hr (Nat.le_refl _) (by omega) (by omega) hd))
set_option maxRecDepth 100000 in
set_option maxHeartbeats 4000000 in
theorem mxL_progress_2 (l : Launch) (D : va_G) (Ca : Nat → ClassId) (B : Nat) (En : State → Prop) (hE : zEk B En) (hT : ∀ U, En U → zThr B U) (hT2 : ∀ U, En U → va_Nc (zEx 4) (zEx 1) U ∧ va_Nc (zEx 2) (zEx 1) U) (hl0 : l.stackTraces = false) (σ : zS) (N : Nat) (x0 : Nat) (x1 : Int32) (x2 : Nat) (h13 : (σ.1 x0).1 = 13) (hf : tX9_progress σ x0 x1 = some 2) : zMiH l D Ca B En yL_progress cL_progress 4 (Option.some Jvm.ClassFile.FieldType.int) [((0 : Nat), (9 : Nat), (12 : Nat), (23 : Nat))] 7 103 [.ref x0, .int x1, .ref x2] σ N σ (zi 1) := by
  refine zMet_H (own := RL) hE (by decide +kernel) rfl (Nat.le_of_ble_eq_true rfl) (fun p e s m args below meth c C hr ht hRm => ?_)
  refine z_aload_n C dL_progress_0 rfl 2 rfl ?_
  refine z_iconst C (zi 0) dL_progress_1 (by decide) ?_
  refine z_aload_n C dL_progress_2 rfl 0 rfl ?_
  refine z_iload_n C dL_progress_3 rfl 1 rfl ?_
  refine z_catchV (As := [.int x1]) (F0 := 7) (L0 := 103) C hT (mtX9_progress l D Ca B En hE hT hl0 σ N x0 x1 h13 2 hf) hRm h13 rfl kw_1072 kw_1 kw_1069 kw_1070 kw_1071 hyX9_progress (Nat.le_of_ble_eq_true rfl) (Nat.le_of_ble_eq_true rfl) rfl rfl (Nat.le_of_ble_eq_true rfl) dL_progress_4 (Nat.le_of_ble_eq_true rfl) (Nat.le_of_ble_eq_true rfl) [] ⟨0, 9, 12, 23⟩ [] (ht.trans rfl) (fun z hz => nomatch hz) (by decide) (by decide) kw_951 (zEcm 2 (by omega)) (fun N2 q hN => ?_)
  refine z_sub [] rfl ?_
  refine z_astore_n (lv2 := [(3, .ref q)]) C dL_progress_12 rfl (by decide) rfl ?_
  refine z_iconst C (zi 1) dL_progress_13 (by decide) ?_
  exact zfin_H C hr hN (by omega) (by omega) dL_progress_14
theorem dL_completed_0 : decode cL_completed 0 = .ok (.aload_n 2, 1) := by decide +kernel
theorem dL_completed_1 : decode cL_completed 1 = .ok (.iconst 0, 1) := by decide +kernel
theorem dL_completed_2 : decode cL_completed 2 = .ok (.aload_n 0, 1) := by decide +kernel
theorem dL_completed_3 : decode cL_completed 3 = .ok (.iload_n 1, 1) := by decide +kernel
theorem dL_completed_4 : decode cL_completed 4 = .ok (.invokevirtual 49, 3) := by decide +kernel
theorem dL_completed_7 : decode cL_completed 7 = .ok (.i2l, 1) := by decide +kernel
theorem dL_completed_8 : decode cL_completed 8 = .ok (.lastore, 1) := by decide +kernel
theorem dL_completed_9 : decode cL_completed 9 = .ok (.goto 6, 3) := by decide +kernel
theorem dL_completed_12 : decode cL_completed 12 = .ok (.astore_n 3, 1) := by decide +kernel
theorem dL_completed_13 : decode cL_completed 13 = .ok (.iconst 1, 1) := by decide +kernel
theorem dL_completed_14 : decode cL_completed 14 = .ok (.ireturn, 1) := by decide +kernel
theorem dL_completed_15 : decode cL_completed 15 = .ok (.iconst 0, 1) := by decide +kernel
theorem dL_completed_16 : decode cL_completed 16 = .ok (.ireturn, 1) := by decide +kernel
theorem hyL_completed : yL_completed.cls ≠ "java/lang/invoke/MethodHandle" ∧ yL_completed.cls ≠ "java/lang/invoke/VarHandle" ∧ (parseMethodDescriptor yL_completed.desc).map (fun d => d.parameters.length) = some 3 := ⟨by decide +kernel, by decide +kernel, by decide +kernel⟩
set_option maxRecDepth 100000 in
set_option maxHeartbeats 4000000 in
theorem wfL_completed (C : zC p s m args meth c cL_completed RL 4 D Ca B En) (hRm : zRm R 2 42 cells slots) (σ : zS) (x0 : Nat) (x1 : Int32) (x2 : Nat) (τ : zS) (r : Int32) (hf : fL_completed σ x0 x1 x2 = some (τ, r)) (hq : ∀ (pc : Nat) (lv : List (Nat × Value)), decode cL_completed pc = .ok (.ireturn, 1) → zW p l e R s m args below meth c cells slots Q D Ca B 4 τ N pc lv [.int r]) : zW p l e R s m args below meth c cells slots Q D Ca B 4 σ N 0 [(0, .ref x0), (1, .int x1), (2, .ref x2)] [] := by
  unfold fL_completed at hf
  refine z_aload_n C dL_completed_0 rfl 2 rfl ?_
  refine z_iconst C (zi 0) dL_completed_1 (by decide) ?_
  refine z_aload_n C dL_completed_2 rfl 0 rfl ?_
  refine z_iload_n C dL_completed_3 rfl 1 rfl ?_
  obtain ⟨c1, hc1, hf⟩ := zbind hf
  obtain ⟨kc1, hc1⟩ := zck_ok hc1
  refine z_callVi (As := [.int x1]) (F0 := 2) (L0 := 42) C (mX9_completed l D Ca B En C.2.2.2.2.2.2.2.1 σ N x0 x1 _ hc1) hRm kc1 rfl kw_1081 kw_1 kw_1078 kw_1079 kw_1080 hyX9_completed (Nat.le_of_ble_eq_true rfl) (Nat.le_of_ble_eq_true rfl) rfl rfl (Nat.le_of_ble_eq_true rfl) dL_completed_4 ?_
  refine z_i2l C dL_completed_7 ?_
  obtain ⟨σ2, hσ2, hf⟩ := zbind hf
  refine z_sJ C hσ2 dL_completed_8 ?_
  refine z_goto C 15 dL_completed_9 (by decide) ?_
  refine z_iconst C (zi 0) dL_completed_15 (by decide) ?_
  cases hf
  exact hq _ _ dL_completed_16

theorem mL_completed (l : Launch) (D : va_G) (Ca : Nat → ClassId) (B : Nat) (En : State → Prop) (hE : zEk B En) (σ : zS) (N : Nat) (x0 : Nat) (x1 : Int32) (x2 : Nat) (X : zS × Int32) (hf : fL_completed σ x0 x1 x2 = some X) : zMiH l D Ca B En yL_completed cL_completed 4 (Option.some Jvm.ClassFile.FieldType.int) [((0 : Nat), (9 : Nat), (12 : Nat), (23 : Nat))] 2 42 [.ref x0, .int x1, .ref x2] σ N X.1 X.2 :=
  zMet_H (own := RL) hE (by decide +kernel) rfl (Nat.le_of_ble_eq_true rfl) (fun p e s m args below meth c C hr ht hRm => wfL_completed C hRm σ x0 x1 x2 X.1 X.2 hf (fun pc lv hd => zfin_H C hr (Nat.le_refl _) (by omega) (by omega) hd))
set_option maxRecDepth 100000 in
set_option maxHeartbeats 4000000 in
theorem mxL_completed_2 (l : Launch) (D : va_G) (Ca : Nat → ClassId) (B : Nat) (En : State → Prop) (hE : zEk B En) (hT : ∀ U, En U → zThr B U) (hT2 : ∀ U, En U → va_Nc (zEx 4) (zEx 1) U ∧ va_Nc (zEx 2) (zEx 1) U) (hl0 : l.stackTraces = false) (σ : zS) (N : Nat) (x0 : Nat) (x1 : Int32) (x2 : Nat) (h13 : (σ.1 x0).1 = 13) (hf : tX9_completed σ x0 x1 = some 2) : zMiH l D Ca B En yL_completed cL_completed 4 (Option.some Jvm.ClassFile.FieldType.int) [((0 : Nat), (9 : Nat), (12 : Nat), (23 : Nat))] 7 103 [.ref x0, .int x1, .ref x2] σ N σ (zi 1) := by
  refine zMet_H (own := RL) hE (by decide +kernel) rfl (Nat.le_of_ble_eq_true rfl) (fun p e s m args below meth c C hr ht hRm => ?_)
  refine z_aload_n C dL_completed_0 rfl 2 rfl ?_
  refine z_iconst C (zi 0) dL_completed_1 (by decide) ?_
  refine z_aload_n C dL_completed_2 rfl 0 rfl ?_
  refine z_iload_n C dL_completed_3 rfl 1 rfl ?_
  refine z_catchV (As := [.int x1]) (F0 := 7) (L0 := 103) C hT (mtX9_completed l D Ca B En hE hT hl0 σ N x0 x1 h13 2 hf) hRm h13 rfl kw_1081 kw_1 kw_1078 kw_1079 kw_1080 hyX9_completed (Nat.le_of_ble_eq_true rfl) (Nat.le_of_ble_eq_true rfl) rfl rfl (Nat.le_of_ble_eq_true rfl) dL_completed_4 (Nat.le_of_ble_eq_true rfl) (Nat.le_of_ble_eq_true rfl) [] ⟨0, 9, 12, 23⟩ [] (ht.trans rfl) (fun z hz => nomatch hz) (by decide) (by decide) kw_951 (zEcm 2 (by omega)) (fun N2 q hN => ?_)
  refine z_sub [] rfl ?_
  refine z_astore_n (lv2 := [(3, .ref q)]) C dL_completed_12 rfl (by decide) rfl ?_
  refine z_iconst C (zi 1) dL_completed_13 (by decide) ?_
  exact zfin_H C hr hN (by omega) (by omega) dL_completed_14
theorem dL_notedPosition_0 : decode cL_notedPosition 0 = .ok (.aload_n 2, 1) := by decide +kernel
theorem dL_notedPosition_1 : decode cL_notedPosition 1 = .ok (.iconst 0, 1) := by decide +kernel
theorem dL_notedPosition_2 : decode cL_notedPosition 2 = .ok (.aload_n 0, 1) := by decide +kernel
theorem dL_notedPosition_3 : decode cL_notedPosition 3 = .ok (.iload_n 1, 1) := by decide +kernel
theorem dL_notedPosition_4 : decode cL_notedPosition 4 = .ok (.invokevirtual 52, 3) := by decide +kernel
theorem dL_notedPosition_7 : decode cL_notedPosition 7 = .ok (.i2l, 1) := by decide +kernel
theorem dL_notedPosition_8 : decode cL_notedPosition 8 = .ok (.lastore, 1) := by decide +kernel
theorem dL_notedPosition_9 : decode cL_notedPosition 9 = .ok (.goto 6, 3) := by decide +kernel
theorem dL_notedPosition_12 : decode cL_notedPosition 12 = .ok (.astore_n 3, 1) := by decide +kernel
theorem dL_notedPosition_13 : decode cL_notedPosition 13 = .ok (.iconst 1, 1) := by decide +kernel
theorem dL_notedPosition_14 : decode cL_notedPosition 14 = .ok (.ireturn, 1) := by decide +kernel
theorem dL_notedPosition_15 : decode cL_notedPosition 15 = .ok (.iconst 0, 1) := by decide +kernel
theorem dL_notedPosition_16 : decode cL_notedPosition 16 = .ok (.ireturn, 1) := by decide +kernel
theorem hyL_notedPosition : yL_notedPosition.cls ≠ "java/lang/invoke/MethodHandle" ∧ yL_notedPosition.cls ≠ "java/lang/invoke/VarHandle" ∧ (parseMethodDescriptor yL_notedPosition.desc).map (fun d => d.parameters.length) = some 3 := ⟨by decide +kernel, by decide +kernel, by decide +kernel⟩
set_option maxRecDepth 100000 in
set_option maxHeartbeats 4000000 in
theorem wfL_notedPosition (C : zC p s m args meth c cL_notedPosition RL 4 D Ca B En) (hRm : zRm R 2 42 cells slots) (σ : zS) (x0 : Nat) (x1 : Int32) (x2 : Nat) (τ : zS) (r : Int32) (hf : fL_notedPosition σ x0 x1 x2 = some (τ, r)) (hq : ∀ (pc : Nat) (lv : List (Nat × Value)), decode cL_notedPosition pc = .ok (.ireturn, 1) → zW p l e R s m args below meth c cells slots Q D Ca B 4 τ N pc lv [.int r]) : zW p l e R s m args below meth c cells slots Q D Ca B 4 σ N 0 [(0, .ref x0), (1, .int x1), (2, .ref x2)] [] := by
  unfold fL_notedPosition at hf
  refine z_aload_n C dL_notedPosition_0 rfl 2 rfl ?_
  refine z_iconst C (zi 0) dL_notedPosition_1 (by decide) ?_
  refine z_aload_n C dL_notedPosition_2 rfl 0 rfl ?_
  refine z_iload_n C dL_notedPosition_3 rfl 1 rfl ?_
  obtain ⟨c1, hc1, hf⟩ := zbind hf
  obtain ⟨kc1, hc1⟩ := zck_ok hc1
  refine z_callVi (As := [.int x1]) (F0 := 2) (L0 := 42) C (mX9_notedPosition l D Ca B En C.2.2.2.2.2.2.2.1 σ N x0 x1 _ hc1) hRm kc1 rfl kw_1088 kw_1 kw_1085 kw_1086 kw_1087 hyX9_notedPosition (Nat.le_of_ble_eq_true rfl) (Nat.le_of_ble_eq_true rfl) rfl rfl (Nat.le_of_ble_eq_true rfl) dL_notedPosition_4 ?_
  refine z_i2l C dL_notedPosition_7 ?_
  obtain ⟨σ2, hσ2, hf⟩ := zbind hf
  refine z_sJ C hσ2 dL_notedPosition_8 ?_
  refine z_goto C 15 dL_notedPosition_9 (by decide) ?_
  refine z_iconst C (zi 0) dL_notedPosition_15 (by decide) ?_
  cases hf
  exact hq _ _ dL_notedPosition_16

theorem mL_notedPosition (l : Launch) (D : va_G) (Ca : Nat → ClassId) (B : Nat) (En : State → Prop) (hE : zEk B En) (σ : zS) (N : Nat) (x0 : Nat) (x1 : Int32) (x2 : Nat) (X : zS × Int32) (hf : fL_notedPosition σ x0 x1 x2 = some X) : zMiH l D Ca B En yL_notedPosition cL_notedPosition 4 (Option.some Jvm.ClassFile.FieldType.int) [((0 : Nat), (9 : Nat), (12 : Nat), (13 : Nat))] 2 42 [.ref x0, .int x1, .ref x2] σ N X.1 X.2 :=
  zMet_H (own := RL) hE (by decide +kernel) rfl (Nat.le_of_ble_eq_true rfl) (fun p e s m args below meth c C hr ht hRm => wfL_notedPosition C hRm σ x0 x1 x2 X.1 X.2 hf (fun pc lv hd => zfin_H C hr (Nat.le_refl _) (by omega) (by omega) hd))
set_option maxRecDepth 100000 in
set_option maxHeartbeats 4000000 in
theorem mxL_notedPosition_1 (l : Launch) (D : va_G) (Ca : Nat → ClassId) (B : Nat) (En : State → Prop) (hE : zEk B En) (hT : ∀ U, En U → zThr B U) (hT2 : ∀ U, En U → va_Nc (zEx 4) (zEx 1) U ∧ va_Nc (zEx 2) (zEx 1) U) (hl0 : l.stackTraces = false) (σ : zS) (N : Nat) (x0 : Nat) (x1 : Int32) (x2 : Nat) (h13 : (σ.1 x0).1 = 13) (hf : tX9_notedPosition σ x0 x1 = some 1) : zMiH l D Ca B En yL_notedPosition cL_notedPosition 4 (Option.some Jvm.ClassFile.FieldType.int) [((0 : Nat), (9 : Nat), (12 : Nat), (13 : Nat))] 8 123 [.ref x0, .int x1, .ref x2] σ N σ (zi 1) := by
  refine zMet_H (own := RL) hE (by decide +kernel) rfl (Nat.le_of_ble_eq_true rfl) (fun p e s m args below meth c C hr ht hRm => ?_)
  refine z_aload_n C dL_notedPosition_0 rfl 2 rfl ?_
  refine z_iconst C (zi 0) dL_notedPosition_1 (by decide) ?_
  refine z_aload_n C dL_notedPosition_2 rfl 0 rfl ?_
  refine z_iload_n C dL_notedPosition_3 rfl 1 rfl ?_
  refine z_catchV (As := [.int x1]) (F0 := 8) (L0 := 123) C hT (mtX9_notedPosition l D Ca B En hE hT hl0 σ N x0 x1 h13 1 hf) hRm h13 rfl kw_1088 kw_1 kw_1085 kw_1086 kw_1087 hyX9_notedPosition (Nat.le_of_ble_eq_true rfl) (Nat.le_of_ble_eq_true rfl) rfl rfl (Nat.le_of_ble_eq_true rfl) dL_notedPosition_4 (Nat.le_of_ble_eq_true rfl) (Nat.le_of_ble_eq_true rfl) [] ⟨0, 9, 12, 13⟩ [] (ht.trans rfl) (fun z hz => nomatch hz) (by decide) (by decide) kw_865 (zEcm 1 (by omega)) (fun N2 q hN => ?_)
  refine z_sub [] rfl ?_
  refine z_astore_n (lv2 := [(3, .ref q)]) C dL_notedPosition_12 rfl (by decide) rfl ?_
  refine z_iconst C (zi 1) dL_notedPosition_13 (by decide) ?_
  exact zfin_H C hr hN (by omega) (by omega) dL_notedPosition_14
theorem dL_notedSum_0 : decode cL_notedSum 0 = .ok (.aload_n 2, 1) := by decide +kernel
theorem dL_notedSum_1 : decode cL_notedSum 1 = .ok (.iconst 0, 1) := by decide +kernel
theorem dL_notedSum_2 : decode cL_notedSum 2 = .ok (.aload_n 0, 1) := by decide +kernel
theorem dL_notedSum_3 : decode cL_notedSum 3 = .ok (.iload_n 1, 1) := by decide +kernel
theorem dL_notedSum_4 : decode cL_notedSum 4 = .ok (.invokevirtual 55, 3) := by decide +kernel
theorem dL_notedSum_7 : decode cL_notedSum 7 = .ok (.i2l, 1) := by decide +kernel
theorem dL_notedSum_8 : decode cL_notedSum 8 = .ok (.lastore, 1) := by decide +kernel
theorem dL_notedSum_9 : decode cL_notedSum 9 = .ok (.goto 6, 3) := by decide +kernel
theorem dL_notedSum_12 : decode cL_notedSum 12 = .ok (.astore_n 3, 1) := by decide +kernel
theorem dL_notedSum_13 : decode cL_notedSum 13 = .ok (.iconst 1, 1) := by decide +kernel
theorem dL_notedSum_14 : decode cL_notedSum 14 = .ok (.ireturn, 1) := by decide +kernel
theorem dL_notedSum_15 : decode cL_notedSum 15 = .ok (.iconst 0, 1) := by decide +kernel
theorem dL_notedSum_16 : decode cL_notedSum 16 = .ok (.ireturn, 1) := by decide +kernel
theorem hyL_notedSum : yL_notedSum.cls ≠ "java/lang/invoke/MethodHandle" ∧ yL_notedSum.cls ≠ "java/lang/invoke/VarHandle" ∧ (parseMethodDescriptor yL_notedSum.desc).map (fun d => d.parameters.length) = some 3 := ⟨by decide +kernel, by decide +kernel, by decide +kernel⟩
set_option maxRecDepth 100000 in
set_option maxHeartbeats 4000000 in
theorem wfL_notedSum (C : zC p s m args meth c cL_notedSum RL 4 D Ca B En) (hRm : zRm R 2 41 cells slots) (σ : zS) (x0 : Nat) (x1 : Int32) (x2 : Nat) (τ : zS) (r : Int32) (hf : fL_notedSum σ x0 x1 x2 = some (τ, r)) (hq : ∀ (pc : Nat) (lv : List (Nat × Value)), decode cL_notedSum pc = .ok (.ireturn, 1) → zW p l e R s m args below meth c cells slots Q D Ca B 4 τ N pc lv [.int r]) : zW p l e R s m args below meth c cells slots Q D Ca B 4 σ N 0 [(0, .ref x0), (1, .int x1), (2, .ref x2)] [] := by
  unfold fL_notedSum at hf
  refine z_aload_n C dL_notedSum_0 rfl 2 rfl ?_
  refine z_iconst C (zi 0) dL_notedSum_1 (by decide) ?_
  refine z_aload_n C dL_notedSum_2 rfl 0 rfl ?_
  refine z_iload_n C dL_notedSum_3 rfl 1 rfl ?_
  obtain ⟨c1, hc1, hf⟩ := zbind hf
  obtain ⟨kc1, hc1⟩ := zck_ok hc1
  refine z_callVi (As := [.int x1]) (F0 := 2) (L0 := 41) C (mX9_notedSum l D Ca B En C.2.2.2.2.2.2.2.1 σ N x0 x1 _ hc1) hRm kc1 rfl kw_1095 kw_1 kw_1092 kw_1093 kw_1094 hyX9_notedSum (Nat.le_of_ble_eq_true rfl) (Nat.le_of_ble_eq_true rfl) rfl rfl (Nat.le_of_ble_eq_true rfl) dL_notedSum_4 ?_
  refine z_i2l C dL_notedSum_7 ?_
  obtain ⟨σ2, hσ2, hf⟩ := zbind hf
  refine z_sJ C hσ2 dL_notedSum_8 ?_
  refine z_goto C 15 dL_notedSum_9 (by decide) ?_
  refine z_iconst C (zi 0) dL_notedSum_15 (by decide) ?_
  cases hf
  exact hq _ _ dL_notedSum_16

theorem mL_notedSum (l : Launch) (D : va_G) (Ca : Nat → ClassId) (B : Nat) (En : State → Prop) (hE : zEk B En) (σ : zS) (N : Nat) (x0 : Nat) (x1 : Int32) (x2 : Nat) (X : zS × Int32) (hf : fL_notedSum σ x0 x1 x2 = some X) : zMiH l D Ca B En yL_notedSum cL_notedSum 4 (Option.some Jvm.ClassFile.FieldType.int) [((0 : Nat), (9 : Nat), (12 : Nat), (23 : Nat))] 2 41 [.ref x0, .int x1, .ref x2] σ N X.1 X.2 :=
  zMet_H (own := RL) hE (by decide +kernel) rfl (Nat.le_of_ble_eq_true rfl) (fun p e s m args below meth c C hr ht hRm => wfL_notedSum C hRm σ x0 x1 x2 X.1 X.2 hf (fun pc lv hd => zfin_H C hr (Nat.le_refl _) (by omega) (by omega) hd))
set_option maxRecDepth 100000 in
set_option maxHeartbeats 4000000 in
theorem mxL_notedSum_2 (l : Launch) (D : va_G) (Ca : Nat → ClassId) (B : Nat) (En : State → Prop) (hE : zEk B En) (hT : ∀ U, En U → zThr B U) (hT2 : ∀ U, En U → va_Nc (zEx 4) (zEx 1) U ∧ va_Nc (zEx 2) (zEx 1) U) (hl0 : l.stackTraces = false) (σ : zS) (N : Nat) (x0 : Nat) (x1 : Int32) (x2 : Nat) (h13 : (σ.1 x0).1 = 13) (hf : tX9_notedSum σ x0 x1 = some 2) : zMiH l D Ca B En yL_notedSum cL_notedSum 4 (Option.some Jvm.ClassFile.FieldType.int) [((0 : Nat), (9 : Nat), (12 : Nat), (23 : Nat))] 8 122 [.ref x0, .int x1, .ref x2] σ N σ (zi 1) := by
  refine zMet_H (own := RL) hE (by decide +kernel) rfl (Nat.le_of_ble_eq_true rfl) (fun p e s m args below meth c C hr ht hRm => ?_)
  refine z_aload_n C dL_notedSum_0 rfl 2 rfl ?_
  refine z_iconst C (zi 0) dL_notedSum_1 (by decide) ?_
  refine z_aload_n C dL_notedSum_2 rfl 0 rfl ?_
  refine z_iload_n C dL_notedSum_3 rfl 1 rfl ?_
  refine z_catchV (As := [.int x1]) (F0 := 8) (L0 := 122) C hT (mtX9_notedSum l D Ca B En hE hT hl0 σ N x0 x1 h13 2 hf) hRm h13 rfl kw_1095 kw_1 kw_1092 kw_1093 kw_1094 hyX9_notedSum (Nat.le_of_ble_eq_true rfl) (Nat.le_of_ble_eq_true rfl) rfl rfl (Nat.le_of_ble_eq_true rfl) dL_notedSum_4 (Nat.le_of_ble_eq_true rfl) (Nat.le_of_ble_eq_true rfl) [] ⟨0, 9, 12, 23⟩ [] (ht.trans rfl) (fun z hz => nomatch hz) (by decide) (by decide) kw_951 (zEcm 2 (by omega)) (fun N2 q hN => ?_)
  refine z_sub [] rfl ?_
  refine z_astore_n (lv2 := [(3, .ref q)]) C dL_notedSum_12 rfl (by decide) rfl ?_
  refine z_iconst C (zi 1) dL_notedSum_13 (by decide) ?_
  exact zfin_H C hr hN (by omega) (by omega) dL_notedSum_14
theorem dL_shownOf_0 : decode cL_shownOf 0 = .ok (.aload_n 2, 1) := by decide +kernel
theorem dL_shownOf_1 : decode cL_shownOf 1 = .ok (.iconst 0, 1) := by decide +kernel
theorem dL_shownOf_2 : decode cL_shownOf 2 = .ok (.aload_n 0, 1) := by decide +kernel
theorem dL_shownOf_3 : decode cL_shownOf 3 = .ok (.iload_n 1, 1) := by decide +kernel
theorem dL_shownOf_4 : decode cL_shownOf 4 = .ok (.invokevirtual 58, 3) := by decide +kernel
theorem dL_shownOf_7 : decode cL_shownOf 7 = .ok (.i2l, 1) := by decide +kernel
theorem dL_shownOf_8 : decode cL_shownOf 8 = .ok (.lastore, 1) := by decide +kernel
theorem dL_shownOf_9 : decode cL_shownOf 9 = .ok (.goto 6, 3) := by decide +kernel
theorem dL_shownOf_12 : decode cL_shownOf 12 = .ok (.astore_n 3, 1) := by decide +kernel
theorem dL_shownOf_13 : decode cL_shownOf 13 = .ok (.iconst 1, 1) := by decide +kernel
theorem dL_shownOf_14 : decode cL_shownOf 14 = .ok (.ireturn, 1) := by decide +kernel
theorem dL_shownOf_15 : decode cL_shownOf 15 = .ok (.iconst 0, 1) := by decide +kernel
theorem dL_shownOf_16 : decode cL_shownOf 16 = .ok (.ireturn, 1) := by decide +kernel
theorem hyL_shownOf : yL_shownOf.cls ≠ "java/lang/invoke/MethodHandle" ∧ yL_shownOf.cls ≠ "java/lang/invoke/VarHandle" ∧ (parseMethodDescriptor yL_shownOf.desc).map (fun d => d.parameters.length) = some 3 := ⟨by decide +kernel, by decide +kernel, by decide +kernel⟩
set_option maxRecDepth 100000 in
set_option maxHeartbeats 4000000 in
theorem wfL_shownOf (C : zC p s m args meth c cL_shownOf RL 4 D Ca B En) (hRm : zRm R 3 66 cells slots) (σ : zS) (x0 : Nat) (x1 : Int32) (x2 : Nat) (τ : zS) (r : Int32) (hf : fL_shownOf σ x0 x1 x2 = some (τ, r)) (hq : ∀ (pc : Nat) (lv : List (Nat × Value)), decode cL_shownOf pc = .ok (.ireturn, 1) → zW p l e R s m args below meth c cells slots Q D Ca B 4 τ N pc lv [.int r]) : zW p l e R s m args below meth c cells slots Q D Ca B 4 σ N 0 [(0, .ref x0), (1, .int x1), (2, .ref x2)] [] := by
  unfold fL_shownOf at hf
  refine z_aload_n C dL_shownOf_0 rfl 2 rfl ?_
  refine z_iconst C (zi 0) dL_shownOf_1 (by decide) ?_
  refine z_aload_n C dL_shownOf_2 rfl 0 rfl ?_
  refine z_iload_n C dL_shownOf_3 rfl 1 rfl ?_
  obtain ⟨c1, hc1, hf⟩ := zbind hf
  obtain ⟨kc1, hc1⟩ := zck_ok hc1
  refine z_callVi (As := [.int x1]) (F0 := 3) (L0 := 66) C (mX9_shownOf l D Ca B En C.2.2.2.2.2.2.2.1 σ N x0 x1 _ hc1) hRm kc1 rfl kw_1102 kw_1 kw_1099 kw_1100 kw_1101 hyX9_shownOf (Nat.le_of_ble_eq_true rfl) (Nat.le_of_ble_eq_true rfl) rfl rfl (Nat.le_of_ble_eq_true rfl) dL_shownOf_4 ?_
  refine z_i2l C dL_shownOf_7 ?_
  obtain ⟨σ2, hσ2, hf⟩ := zbind hf
  refine z_sJ C hσ2 dL_shownOf_8 ?_
  refine z_goto C 15 dL_shownOf_9 (by decide) ?_
  refine z_iconst C (zi 0) dL_shownOf_15 (by decide) ?_
  cases hf
  exact hq _ _ dL_shownOf_16

theorem mL_shownOf (l : Launch) (D : va_G) (Ca : Nat → ClassId) (B : Nat) (En : State → Prop) (hE : zEk B En) (σ : zS) (N : Nat) (x0 : Nat) (x1 : Int32) (x2 : Nat) (X : zS × Int32) (hf : fL_shownOf σ x0 x1 x2 = some X) : zMiH l D Ca B En yL_shownOf cL_shownOf 4 (Option.some Jvm.ClassFile.FieldType.int) [((0 : Nat), (9 : Nat), (12 : Nat), (23 : Nat))] 3 66 [.ref x0, .int x1, .ref x2] σ N X.1 X.2 :=
  zMet_H (own := RL) hE (by decide +kernel) rfl (Nat.le_of_ble_eq_true rfl) (fun p e s m args below meth c C hr ht hRm => wfL_shownOf C hRm σ x0 x1 x2 X.1 X.2 hf (fun pc lv hd => zfin_H C hr (Nat.le_refl _) (by omega) (by omega) hd))
set_option maxRecDepth 100000 in
set_option maxHeartbeats 4000000 in
theorem mxL_shownOf_2 (l : Launch) (D : va_G) (Ca : Nat → ClassId) (B : Nat) (En : State → Prop) (hE : zEk B En) (hT : ∀ U, En U → zThr B U) (hT2 : ∀ U, En U → va_Nc (zEx 4) (zEx 1) U ∧ va_Nc (zEx 2) (zEx 1) U) (hl0 : l.stackTraces = false) (σ : zS) (N : Nat) (x0 : Nat) (x1 : Int32) (x2 : Nat) (h13 : (σ.1 x0).1 = 13) (hf : tX9_shownOf σ x0 x1 = some 2) : zMiH l D Ca B En yL_shownOf cL_shownOf 4 (Option.some Jvm.ClassFile.FieldType.int) [((0 : Nat), (9 : Nat), (12 : Nat), (23 : Nat))] 8 126 [.ref x0, .int x1, .ref x2] σ N σ (zi 1) := by
  refine zMet_H (own := RL) hE (by decide +kernel) rfl (Nat.le_of_ble_eq_true rfl) (fun p e s m args below meth c C hr ht hRm => ?_)
  refine z_aload_n C dL_shownOf_0 rfl 2 rfl ?_
  refine z_iconst C (zi 0) dL_shownOf_1 (by decide) ?_
  refine z_aload_n C dL_shownOf_2 rfl 0 rfl ?_
  refine z_iload_n C dL_shownOf_3 rfl 1 rfl ?_
  refine z_catchV (As := [.int x1]) (F0 := 8) (L0 := 126) C hT (mtX9_shownOf l D Ca B En hE hT hl0 σ N x0 x1 h13 2 hf) hRm h13 rfl kw_1102 kw_1 kw_1099 kw_1100 kw_1101 hyX9_shownOf (Nat.le_of_ble_eq_true rfl) (Nat.le_of_ble_eq_true rfl) rfl rfl (Nat.le_of_ble_eq_true rfl) dL_shownOf_4 (Nat.le_of_ble_eq_true rfl) (Nat.le_of_ble_eq_true rfl) [] ⟨0, 9, 12, 23⟩ [] (ht.trans rfl) (fun z hz => nomatch hz) (by decide) (by decide) kw_951 (zEcm 2 (by omega)) (fun N2 q hN => ?_)
  refine z_sub [] rfl ?_
  refine z_astore_n (lv2 := [(3, .ref q)]) C dL_shownOf_12 rfl (by decide) rfl ?_
  refine z_iconst C (zi 1) dL_shownOf_13 (by decide) ?_
  exact zfin_H C hr hN (by omega) (by omega) dL_shownOf_14
theorem dL_expected_0 : decode cL_expected 0 = .ok (.aload_n 3, 1) := by decide +kernel
theorem dL_expected_1 : decode cL_expected 1 = .ok (.iconst 0, 1) := by decide +kernel
theorem dL_expected_2 : decode cL_expected 2 = .ok (.aload_n 0, 1) := by decide +kernel
theorem dL_expected_3 : decode cL_expected 3 = .ok (.iload_n 1, 1) := by decide +kernel
theorem dL_expected_4 : decode cL_expected 4 = .ok (.iload_n 2, 1) := by decide +kernel
theorem dL_expected_5 : decode cL_expected 5 = .ok (.invokevirtual 61, 3) := by decide +kernel
theorem dL_expected_8 : decode cL_expected 8 = .ok (.i2l, 1) := by decide +kernel
theorem dL_expected_9 : decode cL_expected 9 = .ok (.lastore, 1) := by decide +kernel
theorem dL_expected_10 : decode cL_expected 10 = .ok (.goto 7, 3) := by decide +kernel
theorem dL_expected_13 : decode cL_expected 13 = .ok (.astore 4, 2) := by decide +kernel
theorem dL_expected_15 : decode cL_expected 15 = .ok (.iconst 1, 1) := by decide +kernel
theorem dL_expected_16 : decode cL_expected 16 = .ok (.ireturn, 1) := by decide +kernel
theorem dL_expected_17 : decode cL_expected 17 = .ok (.iconst 0, 1) := by decide +kernel
theorem dL_expected_18 : decode cL_expected 18 = .ok (.ireturn, 1) := by decide +kernel
theorem hyL_expected : yL_expected.cls ≠ "java/lang/invoke/MethodHandle" ∧ yL_expected.cls ≠ "java/lang/invoke/VarHandle" ∧ (parseMethodDescriptor yL_expected.desc).map (fun d => d.parameters.length) = some 4 := ⟨by decide +kernel, by decide +kernel, by decide +kernel⟩
set_option maxRecDepth 100000 in
set_option maxHeartbeats 4000000 in
theorem wfL_expected (C : zC p s m args meth c cL_expected RL 5 D Ca B En) (hRm : zRm R 3 69 cells slots) (σ : zS) (x0 : Nat) (x1 : Int32) (x2 : Int32) (x3 : Nat) (τ : zS) (r : Int32) (hf : fL_expected σ x0 x1 x2 x3 = some (τ, r)) (hq : ∀ (pc : Nat) (lv : List (Nat × Value)), decode cL_expected pc = .ok (.ireturn, 1) → zW p l e R s m args below meth c cells slots Q D Ca B 5 τ N pc lv [.int r]) : zW p l e R s m args below meth c cells slots Q D Ca B 5 σ N 0 [(0, .ref x0), (1, .int x1), (2, .int x2), (3, .ref x3)] [] := by
  unfold fL_expected at hf
  refine z_aload_n C dL_expected_0 rfl 3 rfl ?_
  refine z_iconst C (zi 0) dL_expected_1 (by decide) ?_
  refine z_aload_n C dL_expected_2 rfl 0 rfl ?_
  refine z_iload_n C dL_expected_3 rfl 1 rfl ?_
  refine z_iload_n C dL_expected_4 rfl 2 rfl ?_
  obtain ⟨c1, hc1, hf⟩ := zbind hf
  obtain ⟨kc1, hc1⟩ := zck_ok hc1
  refine z_callVi (As := [.int x1, .int x2]) (F0 := 3) (L0 := 69) C (mX9_expected l D Ca B En C.2.2.2.2.2.2.2.1 σ N x0 x1 x2 _ hc1) hRm kc1 rfl kw_1112 kw_1 kw_1109 kw_1110 kw_1111 hyX9_expected (Nat.le_of_ble_eq_true rfl) (Nat.le_of_ble_eq_true rfl) rfl rfl (Nat.le_of_ble_eq_true rfl) dL_expected_5 ?_
  refine z_i2l C dL_expected_8 ?_
  obtain ⟨σ2, hσ2, hf⟩ := zbind hf
  refine z_sJ C hσ2 dL_expected_9 ?_
  refine z_goto C 17 dL_expected_10 (by decide) ?_
  refine z_iconst C (zi 0) dL_expected_17 (by decide) ?_
  cases hf
  exact hq _ _ dL_expected_18

theorem mL_expected (l : Launch) (D : va_G) (Ca : Nat → ClassId) (B : Nat) (En : State → Prop) (hE : zEk B En) (σ : zS) (N : Nat) (x0 : Nat) (x1 : Int32) (x2 : Int32) (x3 : Nat) (X : zS × Int32) (hf : fL_expected σ x0 x1 x2 x3 = some X) : zMiH l D Ca B En yL_expected cL_expected 5 (Option.some Jvm.ClassFile.FieldType.int) [((0 : Nat), (10 : Nat), (13 : Nat), (23 : Nat))] 3 69 [.ref x0, .int x1, .int x2, .ref x3] σ N X.1 X.2 :=
  zMet_H (own := RL) hE (by decide +kernel) rfl (Nat.le_of_ble_eq_true rfl) (fun p e s m args below meth c C hr ht hRm => wfL_expected C hRm σ x0 x1 x2 x3 X.1 X.2 hf (fun pc lv hd => zfin_H C hr (Nat.le_refl _) (by omega) (by omega) hd))
set_option maxRecDepth 100000 in
set_option maxHeartbeats 4000000 in
theorem mxL_expected_2 (l : Launch) (D : va_G) (Ca : Nat → ClassId) (B : Nat) (En : State → Prop) (hE : zEk B En) (hT : ∀ U, En U → zThr B U) (hT2 : ∀ U, En U → va_Nc (zEx 4) (zEx 1) U ∧ va_Nc (zEx 2) (zEx 1) U) (hl0 : l.stackTraces = false) (σ : zS) (N : Nat) (x0 : Nat) (x1 : Int32) (x2 : Int32) (x3 : Nat) (h13 : (σ.1 x0).1 = 13) (hf : tX9_expected σ x0 x1 x2 = some 2) : zMiH l D Ca B En yL_expected cL_expected 5 (Option.some Jvm.ClassFile.FieldType.int) [((0 : Nat), (10 : Nat), (13 : Nat), (23 : Nat))] 8 123 [.ref x0, .int x1, .int x2, .ref x3] σ N σ (zi 1) := by
  refine zMet_H (own := RL) hE (by decide +kernel) rfl (Nat.le_of_ble_eq_true rfl) (fun p e s m args below meth c C hr ht hRm => ?_)
  refine z_aload_n C dL_expected_0 rfl 3 rfl ?_
  refine z_iconst C (zi 0) dL_expected_1 (by decide) ?_
  refine z_aload_n C dL_expected_2 rfl 0 rfl ?_
  refine z_iload_n C dL_expected_3 rfl 1 rfl ?_
  refine z_iload_n C dL_expected_4 rfl 2 rfl ?_
  refine z_catchV (As := [.int x1, .int x2]) (F0 := 8) (L0 := 123) C hT (mtX9_expected l D Ca B En hE hT hl0 σ N x0 x1 x2 h13 2 hf) hRm h13 rfl kw_1112 kw_1 kw_1109 kw_1110 kw_1111 hyX9_expected (Nat.le_of_ble_eq_true rfl) (Nat.le_of_ble_eq_true rfl) rfl rfl (Nat.le_of_ble_eq_true rfl) dL_expected_5 (Nat.le_of_ble_eq_true rfl) (Nat.le_of_ble_eq_true rfl) [] ⟨0, 10, 13, 23⟩ [] (ht.trans rfl) (fun z hz => nomatch hz) (by decide) (by decide) kw_951 (zEcm 2 (by omega)) (fun N2 q hN => ?_)
  refine z_sub [] rfl ?_
  refine z_astore (lv2 := [(4, .ref q)]) C dL_expected_13 (by decide) rfl ?_
  refine z_iconst C (zi 1) dL_expected_15 (by decide) ?_
  exact zfin_H C hr hN (by omega) (by omega) dL_expected_16
theorem dL_run_0 : decode cL_run 0 = .ok (.aload_n 2, 1) := by decide +kernel
theorem dL_run_1 : decode cL_run 1 = .ok (.iconst 0, 1) := by decide +kernel
theorem dL_run_2 : decode cL_run 2 = .ok (.aload_n 0, 1) := by decide +kernel
theorem dL_run_3 : decode cL_run 3 = .ok (.iload_n 1, 1) := by decide +kernel
theorem dL_run_4 : decode cL_run 4 = .ok (.invokevirtual 64, 3) := by decide +kernel
theorem dL_run_7 : decode cL_run 7 = .ok (.i2l, 1) := by decide +kernel
theorem dL_run_8 : decode cL_run 8 = .ok (.lastore, 1) := by decide +kernel
theorem dL_run_9 : decode cL_run 9 = .ok (.goto 6, 3) := by decide +kernel
theorem dL_run_12 : decode cL_run 12 = .ok (.astore_n 3, 1) := by decide +kernel
theorem dL_run_13 : decode cL_run 13 = .ok (.iconst 1, 1) := by decide +kernel
theorem dL_run_14 : decode cL_run 14 = .ok (.ireturn, 1) := by decide +kernel
theorem dL_run_15 : decode cL_run 15 = .ok (.iconst 0, 1) := by decide +kernel
theorem dL_run_16 : decode cL_run 16 = .ok (.ireturn, 1) := by decide +kernel
theorem hyL_run : yL_run.cls ≠ "java/lang/invoke/MethodHandle" ∧ yL_run.cls ≠ "java/lang/invoke/VarHandle" ∧ (parseMethodDescriptor yL_run.desc).map (fun d => d.parameters.length) = some 3 := ⟨by decide +kernel, by decide +kernel, by decide +kernel⟩
set_option maxRecDepth 100000 in
set_option maxHeartbeats 4000000 in
theorem wfL_run (C : zC p s m args meth c cL_run RL 4 D Ca B En) (hRm : zRm R 7 193 cells slots) (σ : zS) (x0 : Nat) (x1 : Int32) (x2 : Nat) (τ : zS) (r : Int32) (hf : fL_run σ x0 x1 x2 = some (τ, r)) (hq : ∀ (pc : Nat) (lv : List (Nat × Value)), decode cL_run pc = .ok (.ireturn, 1) → zW p l e R s m args below meth c cells slots Q D Ca B 4 τ N pc lv [.int r]) : zW p l e R s m args below meth c cells slots Q D Ca B 4 σ N 0 [(0, .ref x0), (1, .int x1), (2, .ref x2)] [] := by
  unfold fL_run at hf
  refine z_aload_n C dL_run_0 rfl 2 rfl ?_
  refine z_iconst C (zi 0) dL_run_1 (by decide) ?_
  refine z_aload_n C dL_run_2 rfl 0 rfl ?_
  refine z_iload_n C dL_run_3 rfl 1 rfl ?_
  obtain ⟨c1, hc1, hf⟩ := zbind hf
  obtain ⟨kc1, hc1⟩ := zck_ok hc1
  refine z_callVi (As := [.int x1]) (F0 := 7) (L0 := 193) C (mX9_run l D Ca B En C.2.2.2.2.2.2.2.1 σ N x0 x1 _ hc1) hRm kc1 rfl kw_1125 kw_1 kw_1122 kw_1123 kw_1124 hyX9_run (Nat.le_of_ble_eq_true rfl) (Nat.le_of_ble_eq_true rfl) rfl rfl (Nat.le_of_ble_eq_true rfl) dL_run_4 ?_
  refine z_i2l C dL_run_7 ?_
  obtain ⟨σ2, hσ2, hf⟩ := zbind hf
  refine z_sJ C hσ2 dL_run_8 ?_
  refine z_goto C 15 dL_run_9 (by decide) ?_
  refine z_iconst C (zi 0) dL_run_15 (by decide) ?_
  cases hf
  exact hq _ _ dL_run_16

theorem mL_run (l : Launch) (D : va_G) (Ca : Nat → ClassId) (B : Nat) (En : State → Prop) (hE : zEk B En) (σ : zS) (N : Nat) (x0 : Nat) (x1 : Int32) (x2 : Nat) (X : zS × Int32) (hf : fL_run σ x0 x1 x2 = some X) : zMiH l D Ca B En yL_run cL_run 4 (Option.some Jvm.ClassFile.FieldType.int) [((0 : Nat), (9 : Nat), (12 : Nat), (23 : Nat))] 7 193 [.ref x0, .int x1, .ref x2] σ N X.1 X.2 :=
  zMet_H (own := RL) hE (by decide +kernel) rfl (Nat.le_of_ble_eq_true rfl) (fun p e s m args below meth c C hr ht hRm => wfL_run C hRm σ x0 x1 x2 X.1 X.2 hf (fun pc lv hd => zfin_H C hr (Nat.le_refl _) (by omega) (by omega) hd))
set_option maxRecDepth 100000 in
set_option maxHeartbeats 4000000 in
theorem mxL_run_2 (l : Launch) (D : va_G) (Ca : Nat → ClassId) (B : Nat) (En : State → Prop) (hE : zEk B En) (hT : ∀ U, En U → zThr B U) (hT2 : ∀ U, En U → va_Nc (zEx 4) (zEx 1) U ∧ va_Nc (zEx 2) (zEx 1) U) (hl0 : l.stackTraces = false) (σ : zS) (N : Nat) (x0 : Nat) (x1 : Int32) (x2 : Nat) (h13 : (σ.1 x0).1 = 13) (hf : tX9_run σ x0 x1 = some 2) : zMiH l D Ca B En yL_run cL_run 4 (Option.some Jvm.ClassFile.FieldType.int) [((0 : Nat), (9 : Nat), (12 : Nat), (23 : Nat))] 8 193 [.ref x0, .int x1, .ref x2] σ N σ (zi 1) := by
  refine zMet_H (own := RL) hE (by decide +kernel) rfl (Nat.le_of_ble_eq_true rfl) (fun p e s m args below meth c C hr ht hRm => ?_)
  refine z_aload_n C dL_run_0 rfl 2 rfl ?_
  refine z_iconst C (zi 0) dL_run_1 (by decide) ?_
  refine z_aload_n C dL_run_2 rfl 0 rfl ?_
  refine z_iload_n C dL_run_3 rfl 1 rfl ?_
  refine z_catchV (As := [.int x1]) (F0 := 8) (L0 := 193) C hT (mtX9_run l D Ca B En hE hT hl0 σ N x0 x1 h13 2 hf) hRm h13 rfl kw_1125 kw_1 kw_1122 kw_1123 kw_1124 hyX9_run (Nat.le_of_ble_eq_true rfl) (Nat.le_of_ble_eq_true rfl) rfl rfl (Nat.le_of_ble_eq_true rfl) dL_run_4 (Nat.le_of_ble_eq_true rfl) (Nat.le_of_ble_eq_true rfl) [] ⟨0, 9, 12, 23⟩ [] (ht.trans rfl) (fun z hz => nomatch hz) (by decide) (by decide) kw_951 (zEcm 2 (by omega)) (fun N2 q hN => ?_)
  refine z_sub [] rfl ?_
  refine z_astore_n (lv2 := [(3, .ref q)]) C dL_run_12 rfl (by decide) rfl ?_
  refine z_iconst C (zi 1) dL_run_13 (by decide) ?_
  exact zfin_H C hr hN (by omega) (by omega) dL_run_14
theorem dL_begin_0 : decode cL_begin 0 = .ok (.aload_n 2, 1) := by decide +kernel
theorem dL_begin_1 : decode cL_begin 1 = .ok (.iconst 0, 1) := by decide +kernel
theorem dL_begin_2 : decode cL_begin 2 = .ok (.aload_n 0, 1) := by decide +kernel
theorem dL_begin_3 : decode cL_begin 3 = .ok (.iload_n 1, 1) := by decide +kernel
theorem dL_begin_4 : decode cL_begin 4 = .ok (.invokevirtual 67, 3) := by decide +kernel
theorem dL_begin_7 : decode cL_begin 7 = .ok (.i2l, 1) := by decide +kernel
theorem dL_begin_8 : decode cL_begin 8 = .ok (.lastore, 1) := by decide +kernel
theorem dL_begin_9 : decode cL_begin 9 = .ok (.goto 6, 3) := by decide +kernel
theorem dL_begin_12 : decode cL_begin 12 = .ok (.astore_n 3, 1) := by decide +kernel
theorem dL_begin_13 : decode cL_begin 13 = .ok (.iconst 1, 1) := by decide +kernel
theorem dL_begin_14 : decode cL_begin 14 = .ok (.ireturn, 1) := by decide +kernel
theorem dL_begin_15 : decode cL_begin 15 = .ok (.iconst 0, 1) := by decide +kernel
theorem dL_begin_16 : decode cL_begin 16 = .ok (.ireturn, 1) := by decide +kernel
theorem hyL_begin : yL_begin.cls ≠ "java/lang/invoke/MethodHandle" ∧ yL_begin.cls ≠ "java/lang/invoke/VarHandle" ∧ (parseMethodDescriptor yL_begin.desc).map (fun d => d.parameters.length) = some 3 := ⟨by decide +kernel, by decide +kernel, by decide +kernel⟩
set_option maxRecDepth 100000 in
set_option maxHeartbeats 4000000 in
theorem wfL_begin (C : zC p s m args meth c cL_begin RL 4 D Ca B En) (hRm : zRm R 7 191 cells slots) (σ : zS) (x0 : Nat) (x1 : Int32) (x2 : Nat) (τ : zS) (r : Int32) (hf : fL_begin σ x0 x1 x2 = some (τ, r)) (hq : ∀ (pc : Nat) (lv : List (Nat × Value)), decode cL_begin pc = .ok (.ireturn, 1) → zW p l e R s m args below meth c cells slots Q D Ca B 4 τ N pc lv [.int r]) : zW p l e R s m args below meth c cells slots Q D Ca B 4 σ N 0 [(0, .ref x0), (1, .int x1), (2, .ref x2)] [] := by
  unfold fL_begin at hf
  refine z_aload_n C dL_begin_0 rfl 2 rfl ?_
  refine z_iconst C (zi 0) dL_begin_1 (by decide) ?_
  refine z_aload_n C dL_begin_2 rfl 0 rfl ?_
  refine z_iload_n C dL_begin_3 rfl 1 rfl ?_
  obtain ⟨c1, hc1, hf⟩ := zbind hf
  obtain ⟨kc1, hc1⟩ := zck_ok hc1
  refine z_callVi (As := [.int x1]) (F0 := 7) (L0 := 191) C (mX9_begin l D Ca B En C.2.2.2.2.2.2.2.1 σ N x0 x1 _ hc1) hRm kc1 rfl kw_1136 kw_1 kw_1133 kw_1134 kw_1135 hyX9_begin (Nat.le_of_ble_eq_true rfl) (Nat.le_of_ble_eq_true rfl) rfl rfl (Nat.le_of_ble_eq_true rfl) dL_begin_4 ?_
  refine z_i2l C dL_begin_7 ?_
  obtain ⟨σ2, hσ2, hf⟩ := zbind hf
  refine z_sJ C hσ2 dL_begin_8 ?_
  refine z_goto C 15 dL_begin_9 (by decide) ?_
  refine z_iconst C (zi 0) dL_begin_15 (by decide) ?_
  cases hf
  exact hq _ _ dL_begin_16

theorem mL_begin (l : Launch) (D : va_G) (Ca : Nat → ClassId) (B : Nat) (En : State → Prop) (hE : zEk B En) (σ : zS) (N : Nat) (x0 : Nat) (x1 : Int32) (x2 : Nat) (X : zS × Int32) (hf : fL_begin σ x0 x1 x2 = some X) : zMiH l D Ca B En yL_begin cL_begin 4 (Option.some Jvm.ClassFile.FieldType.int) [((0 : Nat), (9 : Nat), (12 : Nat), (71 : Nat))] 7 191 [.ref x0, .int x1, .ref x2] σ N X.1 X.2 :=
  zMet_H (own := RL) hE (by decide +kernel) rfl (Nat.le_of_ble_eq_true rfl) (fun p e s m args below meth c C hr ht hRm => wfL_begin C hRm σ x0 x1 x2 X.1 X.2 hf (fun pc lv hd => zfin_H C hr (Nat.le_refl _) (by omega) (by omega) hd))
set_option maxRecDepth 100000 in
set_option maxHeartbeats 4000000 in
theorem mxL_begin_3 (l : Launch) (D : va_G) (Ca : Nat → ClassId) (B : Nat) (En : State → Prop) (hE : zEk B En) (hT : ∀ U, En U → zThr B U) (hT2 : ∀ U, En U → va_Nc (zEx 4) (zEx 1) U ∧ va_Nc (zEx 2) (zEx 1) U) (hl0 : l.stackTraces = false) (σ : zS) (N : Nat) (x0 : Nat) (x1 : Int32) (x2 : Nat) (h13 : (σ.1 x0).1 = 13) (hf : tX9_begin σ x0 x1 = some 3) : zMiH l D Ca B En yL_begin cL_begin 4 (Option.some Jvm.ClassFile.FieldType.int) [((0 : Nat), (9 : Nat), (12 : Nat), (71 : Nat))] 7 191 [.ref x0, .int x1, .ref x2] σ N σ (zi 1) := by
  refine zMet_H (own := RL) hE (by decide +kernel) rfl (Nat.le_of_ble_eq_true rfl) (fun p e s m args below meth c C hr ht hRm => ?_)
  refine z_aload_n C dL_begin_0 rfl 2 rfl ?_
  refine z_iconst C (zi 0) dL_begin_1 (by decide) ?_
  refine z_aload_n C dL_begin_2 rfl 0 rfl ?_
  refine z_iload_n C dL_begin_3 rfl 1 rfl ?_
  refine z_catchV (As := [.int x1]) (F0 := 7) (L0 := 191) C hT (mtX9_begin l D Ca B En hE hT hl0 σ N x0 x1 h13 3 hf) hRm h13 rfl kw_1136 kw_1 kw_1133 kw_1134 kw_1135 hyX9_begin (Nat.le_of_ble_eq_true rfl) (Nat.le_of_ble_eq_true rfl) rfl rfl (Nat.le_of_ble_eq_true rfl) dL_begin_4 (Nat.le_of_ble_eq_true rfl) (Nat.le_of_ble_eq_true rfl) [] ⟨0, 9, 12, 71⟩ [] (ht.trans rfl) (fun z hz => nomatch hz) (by decide) (by decide) kw_1132 (zEcm 3 (by omega)) (fun N2 q hN => ?_)
  refine z_sub [] rfl ?_
  refine z_astore_n (lv2 := [(3, .ref q)]) C dL_begin_12 rfl (by decide) rfl ?_
  refine z_iconst C (zi 1) dL_begin_13 (by decide) ?_
  exact zfin_H C hr hN (by omega) (by omega) dL_begin_14
theorem dL_rescale_0 : decode cL_rescale 0 = .ok (.aload_n 2, 1) := by decide +kernel
theorem dL_rescale_1 : decode cL_rescale 1 = .ok (.iconst 0, 1) := by decide +kernel
theorem dL_rescale_2 : decode cL_rescale 2 = .ok (.aload_n 0, 1) := by decide +kernel
theorem dL_rescale_3 : decode cL_rescale 3 = .ok (.iload_n 1, 1) := by decide +kernel
theorem dL_rescale_4 : decode cL_rescale 4 = .ok (.invokevirtual 73, 3) := by decide +kernel
theorem dL_rescale_7 : decode cL_rescale 7 = .ok (.i2l, 1) := by decide +kernel
theorem dL_rescale_8 : decode cL_rescale 8 = .ok (.lastore, 1) := by decide +kernel
theorem dL_rescale_9 : decode cL_rescale 9 = .ok (.goto 6, 3) := by decide +kernel
theorem dL_rescale_12 : decode cL_rescale 12 = .ok (.astore_n 3, 1) := by decide +kernel
theorem dL_rescale_13 : decode cL_rescale 13 = .ok (.iconst 1, 1) := by decide +kernel
theorem dL_rescale_14 : decode cL_rescale 14 = .ok (.ireturn, 1) := by decide +kernel
theorem dL_rescale_15 : decode cL_rescale 15 = .ok (.iconst 0, 1) := by decide +kernel
theorem dL_rescale_16 : decode cL_rescale 16 = .ok (.ireturn, 1) := by decide +kernel
theorem hyL_rescale : yL_rescale.cls ≠ "java/lang/invoke/MethodHandle" ∧ yL_rescale.cls ≠ "java/lang/invoke/VarHandle" ∧ (parseMethodDescriptor yL_rescale.desc).map (fun d => d.parameters.length) = some 3 := ⟨by decide +kernel, by decide +kernel, by decide +kernel⟩
set_option maxRecDepth 100000 in
set_option maxHeartbeats 4000000 in
theorem wfL_rescale (C : zC p s m args meth c cL_rescale RL 4 D Ca B En) (hRm : zRm R 7 192 cells slots) (σ : zS) (x0 : Nat) (x1 : Int32) (x2 : Nat) (τ : zS) (r : Int32) (hf : fL_rescale σ x0 x1 x2 = some (τ, r)) (hq : ∀ (pc : Nat) (lv : List (Nat × Value)), decode cL_rescale pc = .ok (.ireturn, 1) → zW p l e R s m args below meth c cells slots Q D Ca B 4 τ N pc lv [.int r]) : zW p l e R s m args below meth c cells slots Q D Ca B 4 σ N 0 [(0, .ref x0), (1, .int x1), (2, .ref x2)] [] := by
  unfold fL_rescale at hf
  refine z_aload_n C dL_rescale_0 rfl 2 rfl ?_
  refine z_iconst C (zi 0) dL_rescale_1 (by decide) ?_
  refine z_aload_n C dL_rescale_2 rfl 0 rfl ?_
  refine z_iload_n C dL_rescale_3 rfl 1 rfl ?_
  obtain ⟨c1, hc1, hf⟩ := zbind hf
  obtain ⟨kc1, hc1⟩ := zck_ok hc1
  refine z_callVi (As := [.int x1]) (F0 := 7) (L0 := 192) C (mX9_rescale l D Ca B En C.2.2.2.2.2.2.2.1 σ N x0 x1 _ hc1) hRm kc1 rfl kw_1158 kw_1 kw_1155 kw_1156 kw_1157 hyX9_rescale (Nat.le_of_ble_eq_true rfl) (Nat.le_of_ble_eq_true rfl) rfl rfl (Nat.le_of_ble_eq_true rfl) dL_rescale_4 ?_
  refine z_i2l C dL_rescale_7 ?_
  obtain ⟨σ2, hσ2, hf⟩ := zbind hf
  refine z_sJ C hσ2 dL_rescale_8 ?_
  refine z_goto C 15 dL_rescale_9 (by decide) ?_
  refine z_iconst C (zi 0) dL_rescale_15 (by decide) ?_
  cases hf
  exact hq _ _ dL_rescale_16

theorem mL_rescale (l : Launch) (D : va_G) (Ca : Nat → ClassId) (B : Nat) (En : State → Prop) (hE : zEk B En) (σ : zS) (N : Nat) (x0 : Nat) (x1 : Int32) (x2 : Nat) (X : zS × Int32) (hf : fL_rescale σ x0 x1 x2 = some X) : zMiH l D Ca B En yL_rescale cL_rescale 4 (Option.some Jvm.ClassFile.FieldType.int) [((0 : Nat), (9 : Nat), (12 : Nat), (23 : Nat))] 7 192 [.ref x0, .int x1, .ref x2] σ N X.1 X.2 :=
  zMet_H (own := RL) hE (by decide +kernel) rfl (Nat.le_of_ble_eq_true rfl) (fun p e s m args below meth c C hr ht hRm => wfL_rescale C hRm σ x0 x1 x2 X.1 X.2 hf (fun pc lv hd => zfin_H C hr (Nat.le_refl _) (by omega) (by omega) hd))
set_option maxRecDepth 100000 in
set_option maxHeartbeats 4000000 in
theorem mxL_rescale_2 (l : Launch) (D : va_G) (Ca : Nat → ClassId) (B : Nat) (En : State → Prop) (hE : zEk B En) (hT : ∀ U, En U → zThr B U) (hT2 : ∀ U, En U → va_Nc (zEx 4) (zEx 1) U ∧ va_Nc (zEx 2) (zEx 1) U) (hl0 : l.stackTraces = false) (σ : zS) (N : Nat) (x0 : Nat) (x1 : Int32) (x2 : Nat) (h13 : (σ.1 x0).1 = 13) (hf : tX9_rescale σ x0 x1 = some 2) : zMiH l D Ca B En yL_rescale cL_rescale 4 (Option.some Jvm.ClassFile.FieldType.int) [((0 : Nat), (9 : Nat), (12 : Nat), (23 : Nat))] 7 192 [.ref x0, .int x1, .ref x2] σ N σ (zi 1) := by
  refine zMet_H (own := RL) hE (by decide +kernel) rfl (Nat.le_of_ble_eq_true rfl) (fun p e s m args below meth c C hr ht hRm => ?_)
  refine z_aload_n C dL_rescale_0 rfl 2 rfl ?_
  refine z_iconst C (zi 0) dL_rescale_1 (by decide) ?_
  refine z_aload_n C dL_rescale_2 rfl 0 rfl ?_
  refine z_iload_n C dL_rescale_3 rfl 1 rfl ?_
  refine z_catchV (As := [.int x1]) (F0 := 7) (L0 := 192) C hT (mtX9_rescale l D Ca B En hE hT hl0 σ N x0 x1 h13 2 hf) hRm h13 rfl kw_1158 kw_1 kw_1155 kw_1156 kw_1157 hyX9_rescale (Nat.le_of_ble_eq_true rfl) (Nat.le_of_ble_eq_true rfl) rfl rfl (Nat.le_of_ble_eq_true rfl) dL_rescale_4 (Nat.le_of_ble_eq_true rfl) (Nat.le_of_ble_eq_true rfl) [] ⟨0, 9, 12, 23⟩ [] (ht.trans rfl) (fun z hz => nomatch hz) (by decide) (by decide) kw_951 (zEcm 2 (by omega)) (fun N2 q hN => ?_)
  refine z_sub [] rfl ?_
  refine z_astore_n (lv2 := [(3, .ref q)]) C dL_rescale_12 rfl (by decide) rfl ?_
  refine z_iconst C (zi 1) dL_rescale_13 (by decide) ?_
  exact zfin_H C hr hN (by omega) (by omega) dL_rescale_14
theorem dL_setRoom_0 : decode cL_setRoom 0 = .ok (.aload_n 2, 1) := by decide +kernel
theorem dL_setRoom_1 : decode cL_setRoom 1 = .ok (.iconst 0, 1) := by decide +kernel
theorem dL_setRoom_2 : decode cL_setRoom 2 = .ok (.aload_n 0, 1) := by decide +kernel
theorem dL_setRoom_3 : decode cL_setRoom 3 = .ok (.iload_n 1, 1) := by decide +kernel
theorem dL_setRoom_4 : decode cL_setRoom 4 = .ok (.invokevirtual 76, 3) := by decide +kernel
theorem dL_setRoom_7 : decode cL_setRoom 7 = .ok (.i2l, 1) := by decide +kernel
theorem dL_setRoom_8 : decode cL_setRoom 8 = .ok (.lastore, 1) := by decide +kernel
theorem dL_setRoom_9 : decode cL_setRoom 9 = .ok (.goto 6, 3) := by decide +kernel
theorem dL_setRoom_12 : decode cL_setRoom 12 = .ok (.astore_n 3, 1) := by decide +kernel
theorem dL_setRoom_13 : decode cL_setRoom 13 = .ok (.iconst 1, 1) := by decide +kernel
theorem dL_setRoom_14 : decode cL_setRoom 14 = .ok (.ireturn, 1) := by decide +kernel
theorem dL_setRoom_15 : decode cL_setRoom 15 = .ok (.iconst 0, 1) := by decide +kernel
theorem dL_setRoom_16 : decode cL_setRoom 16 = .ok (.ireturn, 1) := by decide +kernel
theorem hyL_setRoom : yL_setRoom.cls ≠ "java/lang/invoke/MethodHandle" ∧ yL_setRoom.cls ≠ "java/lang/invoke/VarHandle" ∧ (parseMethodDescriptor yL_setRoom.desc).map (fun d => d.parameters.length) = some 3 := ⟨by decide +kernel, by decide +kernel, by decide +kernel⟩
set_option maxRecDepth 100000 in
set_option maxHeartbeats 4000000 in
theorem wfL_setRoom (C : zC p s m args meth c cL_setRoom RL 4 D Ca B En) (hRm : zRm R 7 192 cells slots) (σ : zS) (x0 : Nat) (x1 : Int32) (x2 : Nat) (τ : zS) (r : Int32) (hf : fL_setRoom σ x0 x1 x2 = some (τ, r)) (hq : ∀ (pc : Nat) (lv : List (Nat × Value)), decode cL_setRoom pc = .ok (.ireturn, 1) → zW p l e R s m args below meth c cells slots Q D Ca B 4 τ N pc lv [.int r]) : zW p l e R s m args below meth c cells slots Q D Ca B 4 σ N 0 [(0, .ref x0), (1, .int x1), (2, .ref x2)] [] := by
  unfold fL_setRoom at hf
  refine z_aload_n C dL_setRoom_0 rfl 2 rfl ?_
  refine z_iconst C (zi 0) dL_setRoom_1 (by decide) ?_
  refine z_aload_n C dL_setRoom_2 rfl 0 rfl ?_
  refine z_iload_n C dL_setRoom_3 rfl 1 rfl ?_
  obtain ⟨c1, hc1, hf⟩ := zbind hf
  obtain ⟨kc1, hc1⟩ := zck_ok hc1
  refine z_callVi (As := [.int x1]) (F0 := 7) (L0 := 192) C (mX9_setRoom l D Ca B En C.2.2.2.2.2.2.2.1 σ N x0 x1 _ hc1) hRm kc1 rfl kw_1182 kw_1 kw_1179 kw_1180 kw_1181 hyX9_setRoom (Nat.le_of_ble_eq_true rfl) (Nat.le_of_ble_eq_true rfl) rfl rfl (Nat.le_of_ble_eq_true rfl) dL_setRoom_4 ?_
  refine z_i2l C dL_setRoom_7 ?_
  obtain ⟨σ2, hσ2, hf⟩ := zbind hf
  refine z_sJ C hσ2 dL_setRoom_8 ?_
  refine z_goto C 15 dL_setRoom_9 (by decide) ?_
  refine z_iconst C (zi 0) dL_setRoom_15 (by decide) ?_
  cases hf
  exact hq _ _ dL_setRoom_16

theorem mL_setRoom (l : Launch) (D : va_G) (Ca : Nat → ClassId) (B : Nat) (En : State → Prop) (hE : zEk B En) (σ : zS) (N : Nat) (x0 : Nat) (x1 : Int32) (x2 : Nat) (X : zS × Int32) (hf : fL_setRoom σ x0 x1 x2 = some X) : zMiH l D Ca B En yL_setRoom cL_setRoom 4 (Option.some Jvm.ClassFile.FieldType.int) [((0 : Nat), (9 : Nat), (12 : Nat), (23 : Nat))] 7 192 [.ref x0, .int x1, .ref x2] σ N X.1 X.2 :=
  zMet_H (own := RL) hE (by decide +kernel) rfl (Nat.le_of_ble_eq_true rfl) (fun p e s m args below meth c C hr ht hRm => wfL_setRoom C hRm σ x0 x1 x2 X.1 X.2 hf (fun pc lv hd => zfin_H C hr (Nat.le_refl _) (by omega) (by omega) hd))
set_option maxRecDepth 100000 in
set_option maxHeartbeats 4000000 in
theorem mxL_setRoom_2 (l : Launch) (D : va_G) (Ca : Nat → ClassId) (B : Nat) (En : State → Prop) (hE : zEk B En) (hT : ∀ U, En U → zThr B U) (hT2 : ∀ U, En U → va_Nc (zEx 4) (zEx 1) U ∧ va_Nc (zEx 2) (zEx 1) U) (hl0 : l.stackTraces = false) (σ : zS) (N : Nat) (x0 : Nat) (x1 : Int32) (x2 : Nat) (h13 : (σ.1 x0).1 = 13) (hf : tX9_setRoom σ x0 x1 = some 2) : zMiH l D Ca B En yL_setRoom cL_setRoom 4 (Option.some Jvm.ClassFile.FieldType.int) [((0 : Nat), (9 : Nat), (12 : Nat), (23 : Nat))] 7 192 [.ref x0, .int x1, .ref x2] σ N σ (zi 1) := by
  refine zMet_H (own := RL) hE (by decide +kernel) rfl (Nat.le_of_ble_eq_true rfl) (fun p e s m args below meth c C hr ht hRm => ?_)
  refine z_aload_n C dL_setRoom_0 rfl 2 rfl ?_
  refine z_iconst C (zi 0) dL_setRoom_1 (by decide) ?_
  refine z_aload_n C dL_setRoom_2 rfl 0 rfl ?_
  refine z_iload_n C dL_setRoom_3 rfl 1 rfl ?_
  refine z_catchV (As := [.int x1]) (F0 := 7) (L0 := 192) C hT (mtX9_setRoom l D Ca B En hE hT hl0 σ N x0 x1 h13 2 hf) hRm h13 rfl kw_1182 kw_1 kw_1179 kw_1180 kw_1181 hyX9_setRoom (Nat.le_of_ble_eq_true rfl) (Nat.le_of_ble_eq_true rfl) rfl rfl (Nat.le_of_ble_eq_true rfl) dL_setRoom_4 (Nat.le_of_ble_eq_true rfl) (Nat.le_of_ble_eq_true rfl) [] ⟨0, 9, 12, 23⟩ [] (ht.trans rfl) (fun z hz => nomatch hz) (by decide) (by decide) kw_951 (zEcm 2 (by omega)) (fun N2 q hN => ?_)
  refine z_sub [] rfl ?_
  refine z_astore_n (lv2 := [(3, .ref q)]) C dL_setRoom_12 rfl (by decide) rfl ?_
  refine z_iconst C (zi 1) dL_setRoom_13 (by decide) ?_
  exact zfin_H C hr hN (by omega) (by omega) dL_setRoom_14
theorem dL_setLag_0 : decode cL_setLag 0 = .ok (.aload_n 3, 1) := by decide +kernel
theorem dL_setLag_1 : decode cL_setLag 1 = .ok (.iconst 0, 1) := by decide +kernel
theorem dL_setLag_2 : decode cL_setLag 2 = .ok (.aload_n 0, 1) := by decide +kernel
theorem dL_setLag_3 : decode cL_setLag 3 = .ok (.iload_n 1, 1) := by decide +kernel
theorem dL_setLag_4 : decode cL_setLag 4 = .ok (.iload_n 2, 1) := by decide +kernel
theorem dL_setLag_5 : decode cL_setLag 5 = .ok (.invokevirtual 79, 3) := by decide +kernel
theorem dL_setLag_8 : decode cL_setLag 8 = .ok (.i2l, 1) := by decide +kernel
theorem dL_setLag_9 : decode cL_setLag 9 = .ok (.lastore, 1) := by decide +kernel
theorem dL_setLag_10 : decode cL_setLag 10 = .ok (.goto 11, 3) := by decide +kernel
theorem dL_setLag_13 : decode cL_setLag 13 = .ok (.astore 4, 2) := by decide +kernel
theorem dL_setLag_15 : decode cL_setLag 15 = .ok (.iconst 1, 1) := by decide +kernel
theorem dL_setLag_16 : decode cL_setLag 16 = .ok (.ireturn, 1) := by decide +kernel
theorem dL_setLag_17 : decode cL_setLag 17 = .ok (.astore 4, 2) := by decide +kernel
theorem dL_setLag_19 : decode cL_setLag 19 = .ok (.iconst 2, 1) := by decide +kernel
theorem dL_setLag_20 : decode cL_setLag 20 = .ok (.ireturn, 1) := by decide +kernel
theorem dL_setLag_21 : decode cL_setLag 21 = .ok (.iconst 0, 1) := by decide +kernel
theorem dL_setLag_22 : decode cL_setLag 22 = .ok (.ireturn, 1) := by decide +kernel
theorem hyL_setLag : yL_setLag.cls ≠ "java/lang/invoke/MethodHandle" ∧ yL_setLag.cls ≠ "java/lang/invoke/VarHandle" ∧ (parseMethodDescriptor yL_setLag.desc).map (fun d => d.parameters.length) = some 4 := ⟨by decide +kernel, by decide +kernel, by decide +kernel⟩
set_option maxRecDepth 100000 in
set_option maxHeartbeats 4000000 in
theorem wfL_setLag (C : zC p s m args meth c cL_setLag RL 5 D Ca B En) (hRm : zRm R 7 193 cells slots) (σ : zS) (x0 : Nat) (x1 : Int32) (x2 : Int32) (x3 : Nat) (τ : zS) (r : Int32) (hf : fL_setLag σ x0 x1 x2 x3 = some (τ, r)) (hq : ∀ (pc : Nat) (lv : List (Nat × Value)), decode cL_setLag pc = .ok (.ireturn, 1) → zW p l e R s m args below meth c cells slots Q D Ca B 5 τ N pc lv [.int r]) : zW p l e R s m args below meth c cells slots Q D Ca B 5 σ N 0 [(0, .ref x0), (1, .int x1), (2, .int x2), (3, .ref x3)] [] := by
  unfold fL_setLag at hf
  refine z_aload_n C dL_setLag_0 rfl 3 rfl ?_
  refine z_iconst C (zi 0) dL_setLag_1 (by decide) ?_
  refine z_aload_n C dL_setLag_2 rfl 0 rfl ?_
  refine z_iload_n C dL_setLag_3 rfl 1 rfl ?_
  refine z_iload_n C dL_setLag_4 rfl 2 rfl ?_
  obtain ⟨c1, hc1, hf⟩ := zbind hf
  obtain ⟨kc1, hc1⟩ := zck_ok hc1
  refine z_callVi (As := [.int x1, .int x2]) (F0 := 7) (L0 := 193) C (mX9_setLag l D Ca B En C.2.2.2.2.2.2.2.1 σ N x0 x1 x2 _ hc1) hRm kc1 rfl kw_1189 kw_1 kw_1186 kw_1187 kw_1188 hyX9_setLag (Nat.le_of_ble_eq_true rfl) (Nat.le_of_ble_eq_true rfl) rfl rfl (Nat.le_of_ble_eq_true rfl) dL_setLag_5 ?_
  refine z_i2l C dL_setLag_8 ?_
  obtain ⟨σ2, hσ2, hf⟩ := zbind hf
  refine z_sJ C hσ2 dL_setLag_9 ?_
  refine z_goto C 21 dL_setLag_10 (by decide) ?_
  refine z_iconst C (zi 0) dL_setLag_21 (by decide) ?_
  cases hf
  exact hq _ _ dL_setLag_22

theorem mL_setLag (l : Launch) (D : va_G) (Ca : Nat → ClassId) (B : Nat) (En : State → Prop) (hE : zEk B En) (σ : zS) (N : Nat) (x0 : Nat) (x1 : Int32) (x2 : Int32) (x3 : Nat) (X : zS × Int32) (hf : fL_setLag σ x0 x1 x2 x3 = some X) : zMiH l D Ca B En yL_setLag cL_setLag 5 (Option.some Jvm.ClassFile.FieldType.int) [((0 : Nat), (10 : Nat), (13 : Nat), (13 : Nat)), ((0 : Nat), (10 : Nat), (17 : Nat), (23 : Nat))] 7 193 [.ref x0, .int x1, .int x2, .ref x3] σ N X.1 X.2 :=
  zMet_H (own := RL) hE (by decide +kernel) rfl (Nat.le_of_ble_eq_true rfl) (fun p e s m args below meth c C hr ht hRm => wfL_setLag C hRm σ x0 x1 x2 x3 X.1 X.2 hf (fun pc lv hd => zfin_H C hr (Nat.le_refl _) (by omega) (by omega) hd))
set_option maxRecDepth 100000 in
set_option maxHeartbeats 4000000 in
theorem mxL_setLag_1 (l : Launch) (D : va_G) (Ca : Nat → ClassId) (B : Nat) (En : State → Prop) (hE : zEk B En) (hT : ∀ U, En U → zThr B U) (hT2 : ∀ U, En U → va_Nc (zEx 4) (zEx 1) U ∧ va_Nc (zEx 2) (zEx 1) U) (hl0 : l.stackTraces = false) (σ : zS) (N : Nat) (x0 : Nat) (x1 : Int32) (x2 : Int32) (x3 : Nat) (h13 : (σ.1 x0).1 = 13) (hf : tX9_setLag σ x0 x1 x2 = some 1) : zMiH l D Ca B En yL_setLag cL_setLag 5 (Option.some Jvm.ClassFile.FieldType.int) [((0 : Nat), (10 : Nat), (13 : Nat), (13 : Nat)), ((0 : Nat), (10 : Nat), (17 : Nat), (23 : Nat))] 8 193 [.ref x0, .int x1, .int x2, .ref x3] σ N σ (zi 1) := by
  refine zMet_H (own := RL) hE (by decide +kernel) rfl (Nat.le_of_ble_eq_true rfl) (fun p e s m args below meth c C hr ht hRm => ?_)
  refine z_aload_n C dL_setLag_0 rfl 3 rfl ?_
  refine z_iconst C (zi 0) dL_setLag_1 (by decide) ?_
  refine z_aload_n C dL_setLag_2 rfl 0 rfl ?_
  refine z_iload_n C dL_setLag_3 rfl 1 rfl ?_
  refine z_iload_n C dL_setLag_4 rfl 2 rfl ?_
  refine z_catchV (As := [.int x1, .int x2]) (F0 := 8) (L0 := 193) C hT (mtX9_setLag l D Ca B En hE hT hl0 σ N x0 x1 x2 h13 1 hf) hRm h13 rfl kw_1189 kw_1 kw_1186 kw_1187 kw_1188 hyX9_setLag (Nat.le_of_ble_eq_true rfl) (Nat.le_of_ble_eq_true rfl) rfl rfl (Nat.le_of_ble_eq_true rfl) dL_setLag_5 (Nat.le_of_ble_eq_true rfl) (Nat.le_of_ble_eq_true rfl) [] ⟨0, 10, 13, 13⟩ [⟨0, 10, 17, 23⟩] (ht.trans rfl) (fun z hz => nomatch hz) (by decide) (by decide) kw_865 (zEcm 1 (by omega)) (fun N2 q hN => ?_)
  refine z_sub [] rfl ?_
  refine z_astore (lv2 := [(4, .ref q)]) C dL_setLag_13 (by decide) rfl ?_
  refine z_iconst C (zi 1) dL_setLag_15 (by decide) ?_
  exact zfin_H C hr hN (by omega) (by omega) dL_setLag_16
set_option maxRecDepth 100000 in
set_option maxHeartbeats 4000000 in
theorem mxL_setLag_2 (l : Launch) (D : va_G) (Ca : Nat → ClassId) (B : Nat) (En : State → Prop) (hE : zEk B En) (hT : ∀ U, En U → zThr B U) (hT2 : ∀ U, En U → va_Nc (zEx 4) (zEx 1) U ∧ va_Nc (zEx 2) (zEx 1) U) (hl0 : l.stackTraces = false) (σ : zS) (N : Nat) (x0 : Nat) (x1 : Int32) (x2 : Int32) (x3 : Nat) (h13 : (σ.1 x0).1 = 13) (hf : tX9_setLag σ x0 x1 x2 = some 2) : zMiH l D Ca B En yL_setLag cL_setLag 5 (Option.some Jvm.ClassFile.FieldType.int) [((0 : Nat), (10 : Nat), (13 : Nat), (13 : Nat)), ((0 : Nat), (10 : Nat), (17 : Nat), (23 : Nat))] 8 193 [.ref x0, .int x1, .int x2, .ref x3] σ N σ (zi 2) := by
  refine zMet_H (own := RL) hE (by decide +kernel) rfl (Nat.le_of_ble_eq_true rfl) (fun p e s m args below meth c C hr ht hRm => ?_)
  refine z_aload_n C dL_setLag_0 rfl 3 rfl ?_
  refine z_iconst C (zi 0) dL_setLag_1 (by decide) ?_
  refine z_aload_n C dL_setLag_2 rfl 0 rfl ?_
  refine z_iload_n C dL_setLag_3 rfl 1 rfl ?_
  refine z_iload_n C dL_setLag_4 rfl 2 rfl ?_
  refine z_catchV (As := [.int x1, .int x2]) (F0 := 8) (L0 := 193) C hT (mtX9_setLag l D Ca B En hE hT hl0 σ N x0 x1 x2 h13 2 hf) hRm h13 rfl kw_1189 kw_1 kw_1186 kw_1187 kw_1188 hyX9_setLag (Nat.le_of_ble_eq_true rfl) (Nat.le_of_ble_eq_true rfl) rfl rfl (Nat.le_of_ble_eq_true rfl) dL_setLag_5 (Nat.le_of_ble_eq_true rfl) (Nat.le_of_ble_eq_true rfl) [⟨0, 10, 13, 13⟩] ⟨0, 10, 17, 23⟩ [] (ht.trans rfl) (fun z hz => by
    rcases List.mem_singleton.mp hz with rfl
    exact Or.inr ⟨by decide, zEx 1, C.2.2.2.1 _ kw_865, (hT2 s C.2.2.2.2.2.2.1).2⟩) (by decide) (by decide) kw_951 (zEcm 2 (by omega)) (fun N2 q hN => ?_)
  refine z_sub [] rfl ?_
  refine z_astore (lv2 := [(4, .ref q)]) C dL_setLag_17 (by decide) rfl ?_
  refine z_iconst C (zi 2) dL_setLag_19 (by decide) ?_
  exact zfin_H C hr hN (by omega) (by omega) dL_setLag_20
theorem dL_setEvery_0 : decode cL_setEvery 0 = .ok (.aload_n 3, 1) := by decide +kernel
theorem dL_setEvery_1 : decode cL_setEvery 1 = .ok (.iconst 0, 1) := by decide +kernel
theorem dL_setEvery_2 : decode cL_setEvery 2 = .ok (.aload_n 0, 1) := by decide +kernel
theorem dL_setEvery_3 : decode cL_setEvery 3 = .ok (.iload_n 1, 1) := by decide +kernel
theorem dL_setEvery_4 : decode cL_setEvery 4 = .ok (.iload_n 2, 1) := by decide +kernel
theorem dL_setEvery_5 : decode cL_setEvery 5 = .ok (.invokevirtual 82, 3) := by decide +kernel
theorem dL_setEvery_8 : decode cL_setEvery 8 = .ok (.i2l, 1) := by decide +kernel
theorem dL_setEvery_9 : decode cL_setEvery 9 = .ok (.lastore, 1) := by decide +kernel
theorem dL_setEvery_10 : decode cL_setEvery 10 = .ok (.goto 7, 3) := by decide +kernel
theorem dL_setEvery_13 : decode cL_setEvery 13 = .ok (.astore 4, 2) := by decide +kernel
theorem dL_setEvery_15 : decode cL_setEvery 15 = .ok (.iconst 1, 1) := by decide +kernel
theorem dL_setEvery_16 : decode cL_setEvery 16 = .ok (.ireturn, 1) := by decide +kernel
theorem dL_setEvery_17 : decode cL_setEvery 17 = .ok (.iconst 0, 1) := by decide +kernel
theorem dL_setEvery_18 : decode cL_setEvery 18 = .ok (.ireturn, 1) := by decide +kernel
theorem hyL_setEvery : yL_setEvery.cls ≠ "java/lang/invoke/MethodHandle" ∧ yL_setEvery.cls ≠ "java/lang/invoke/VarHandle" ∧ (parseMethodDescriptor yL_setEvery.desc).map (fun d => d.parameters.length) = some 4 := ⟨by decide +kernel, by decide +kernel, by decide +kernel⟩
set_option maxRecDepth 100000 in
set_option maxHeartbeats 4000000 in
theorem wfL_setEvery (C : zC p s m args meth c cL_setEvery RL 5 D Ca B En) (hRm : zRm R 7 193 cells slots) (σ : zS) (x0 : Nat) (x1 : Int32) (x2 : Int32) (x3 : Nat) (τ : zS) (r : Int32) (hf : fL_setEvery σ x0 x1 x2 x3 = some (τ, r)) (hq : ∀ (pc : Nat) (lv : List (Nat × Value)), decode cL_setEvery pc = .ok (.ireturn, 1) → zW p l e R s m args below meth c cells slots Q D Ca B 5 τ N pc lv [.int r]) : zW p l e R s m args below meth c cells slots Q D Ca B 5 σ N 0 [(0, .ref x0), (1, .int x1), (2, .int x2), (3, .ref x3)] [] := by
  unfold fL_setEvery at hf
  refine z_aload_n C dL_setEvery_0 rfl 3 rfl ?_
  refine z_iconst C (zi 0) dL_setEvery_1 (by decide) ?_
  refine z_aload_n C dL_setEvery_2 rfl 0 rfl ?_
  refine z_iload_n C dL_setEvery_3 rfl 1 rfl ?_
  refine z_iload_n C dL_setEvery_4 rfl 2 rfl ?_
  obtain ⟨c1, hc1, hf⟩ := zbind hf
  obtain ⟨kc1, hc1⟩ := zck_ok hc1
  refine z_callVi (As := [.int x1, .int x2]) (F0 := 7) (L0 := 193) C (mX9_setEvery l D Ca B En C.2.2.2.2.2.2.2.1 σ N x0 x1 x2 _ hc1) hRm kc1 rfl kw_1196 kw_1 kw_1193 kw_1194 kw_1195 hyX9_setEvery (Nat.le_of_ble_eq_true rfl) (Nat.le_of_ble_eq_true rfl) rfl rfl (Nat.le_of_ble_eq_true rfl) dL_setEvery_5 ?_
  refine z_i2l C dL_setEvery_8 ?_
  obtain ⟨σ2, hσ2, hf⟩ := zbind hf
  refine z_sJ C hσ2 dL_setEvery_9 ?_
  refine z_goto C 17 dL_setEvery_10 (by decide) ?_
  refine z_iconst C (zi 0) dL_setEvery_17 (by decide) ?_
  cases hf
  exact hq _ _ dL_setEvery_18

theorem mL_setEvery (l : Launch) (D : va_G) (Ca : Nat → ClassId) (B : Nat) (En : State → Prop) (hE : zEk B En) (σ : zS) (N : Nat) (x0 : Nat) (x1 : Int32) (x2 : Int32) (x3 : Nat) (X : zS × Int32) (hf : fL_setEvery σ x0 x1 x2 x3 = some X) : zMiH l D Ca B En yL_setEvery cL_setEvery 5 (Option.some Jvm.ClassFile.FieldType.int) [((0 : Nat), (10 : Nat), (13 : Nat), (23 : Nat))] 7 193 [.ref x0, .int x1, .int x2, .ref x3] σ N X.1 X.2 :=
  zMet_H (own := RL) hE (by decide +kernel) rfl (Nat.le_of_ble_eq_true rfl) (fun p e s m args below meth c C hr ht hRm => wfL_setEvery C hRm σ x0 x1 x2 x3 X.1 X.2 hf (fun pc lv hd => zfin_H C hr (Nat.le_refl _) (by omega) (by omega) hd))
set_option maxRecDepth 100000 in
set_option maxHeartbeats 4000000 in
theorem mxL_setEvery_2 (l : Launch) (D : va_G) (Ca : Nat → ClassId) (B : Nat) (En : State → Prop) (hE : zEk B En) (hT : ∀ U, En U → zThr B U) (hT2 : ∀ U, En U → va_Nc (zEx 4) (zEx 1) U ∧ va_Nc (zEx 2) (zEx 1) U) (hl0 : l.stackTraces = false) (σ : zS) (N : Nat) (x0 : Nat) (x1 : Int32) (x2 : Int32) (x3 : Nat) (h13 : (σ.1 x0).1 = 13) (hf : tX9_setEvery σ x0 x1 x2 = some 2) : zMiH l D Ca B En yL_setEvery cL_setEvery 5 (Option.some Jvm.ClassFile.FieldType.int) [((0 : Nat), (10 : Nat), (13 : Nat), (23 : Nat))] 7 193 [.ref x0, .int x1, .int x2, .ref x3] σ N σ (zi 1) := by
  refine zMet_H (own := RL) hE (by decide +kernel) rfl (Nat.le_of_ble_eq_true rfl) (fun p e s m args below meth c C hr ht hRm => ?_)
  refine z_aload_n C dL_setEvery_0 rfl 3 rfl ?_
  refine z_iconst C (zi 0) dL_setEvery_1 (by decide) ?_
  refine z_aload_n C dL_setEvery_2 rfl 0 rfl ?_
  refine z_iload_n C dL_setEvery_3 rfl 1 rfl ?_
  refine z_iload_n C dL_setEvery_4 rfl 2 rfl ?_
  refine z_catchV (As := [.int x1, .int x2]) (F0 := 7) (L0 := 193) C hT (mtX9_setEvery l D Ca B En hE hT hl0 σ N x0 x1 x2 h13 2 hf) hRm h13 rfl kw_1196 kw_1 kw_1193 kw_1194 kw_1195 hyX9_setEvery (Nat.le_of_ble_eq_true rfl) (Nat.le_of_ble_eq_true rfl) rfl rfl (Nat.le_of_ble_eq_true rfl) dL_setEvery_5 (Nat.le_of_ble_eq_true rfl) (Nat.le_of_ble_eq_true rfl) [] ⟨0, 10, 13, 23⟩ [] (ht.trans rfl) (fun z hz => nomatch hz) (by decide) (by decide) kw_951 (zEcm 2 (by omega)) (fun N2 q hN => ?_)
  refine z_sub [] rfl ?_
  refine z_astore (lv2 := [(4, .ref q)]) C dL_setEvery_13 (by decide) rfl ?_
  refine z_iconst C (zi 1) dL_setEvery_15 (by decide) ?_
  exact zfin_H C hr hN (by omega) (by omega) dL_setEvery_16
theorem dL_undo_0 : decode cL_undo 0 = .ok (.aload_n 1, 1) := by decide +kernel
theorem dL_undo_1 : decode cL_undo 1 = .ok (.iconst 0, 1) := by decide +kernel
theorem dL_undo_2 : decode cL_undo 2 = .ok (.aload_n 0, 1) := by decide +kernel
theorem dL_undo_3 : decode cL_undo 3 = .ok (.invokevirtual 86, 3) := by decide +kernel
theorem dL_undo_6 : decode cL_undo 6 = .ok (.i2l, 1) := by decide +kernel
theorem dL_undo_7 : decode cL_undo 7 = .ok (.lastore, 1) := by decide +kernel
theorem dL_undo_8 : decode cL_undo 8 = .ok (.goto 6, 3) := by decide +kernel
theorem dL_undo_11 : decode cL_undo 11 = .ok (.astore_n 2, 1) := by decide +kernel
theorem dL_undo_12 : decode cL_undo 12 = .ok (.iconst 1, 1) := by decide +kernel
theorem dL_undo_13 : decode cL_undo 13 = .ok (.ireturn, 1) := by decide +kernel
theorem dL_undo_14 : decode cL_undo 14 = .ok (.iconst 0, 1) := by decide +kernel
theorem dL_undo_15 : decode cL_undo 15 = .ok (.ireturn, 1) := by decide +kernel
theorem hyL_undo : yL_undo.cls ≠ "java/lang/invoke/MethodHandle" ∧ yL_undo.cls ≠ "java/lang/invoke/VarHandle" ∧ (parseMethodDescriptor yL_undo.desc).map (fun d => d.parameters.length) = some 2 := ⟨by decide +kernel, by decide +kernel, by decide +kernel⟩
set_option maxRecDepth 100000 in
set_option maxHeartbeats 4000000 in
theorem wfL_undo (C : zC p s m args meth c cL_undo RL 3 D Ca B En) (hRm : zRm R 7 190 cells slots) (σ : zS) (x0 : Nat) (x1 : Nat) (τ : zS) (r : Int32) (hf : fL_undo σ x0 x1 = some (τ, r)) (hq : ∀ (pc : Nat) (lv : List (Nat × Value)), decode cL_undo pc = .ok (.ireturn, 1) → zW p l e R s m args below meth c cells slots Q D Ca B 3 τ N pc lv [.int r]) : zW p l e R s m args below meth c cells slots Q D Ca B 3 σ N 0 [(0, .ref x0), (1, .ref x1)] [] := by
  unfold fL_undo at hf
  refine z_aload_n C dL_undo_0 rfl 1 rfl ?_
  refine z_iconst C (zi 0) dL_undo_1 (by decide) ?_
  refine z_aload_n C dL_undo_2 rfl 0 rfl ?_
  obtain ⟨c1, hc1, hf⟩ := zbind hf
  obtain ⟨kc1, hc1⟩ := zck_ok hc1
  refine z_callVi (As := []) (F0 := 7) (L0 := 190) C (mX9_undo l D Ca B En C.2.2.2.2.2.2.2.1 σ N x0  _ hc1) hRm kc1 rfl kw_1203 kw_1 kw_1200 kw_1201 kw_1202 hyX9_undo (Nat.le_of_ble_eq_true rfl) (Nat.le_of_ble_eq_true rfl) rfl rfl (Nat.le_of_ble_eq_true rfl) dL_undo_3 ?_
  refine z_i2l C dL_undo_6 ?_
  obtain ⟨σ2, hσ2, hf⟩ := zbind hf
  refine z_sJ C hσ2 dL_undo_7 ?_
  refine z_goto C 14 dL_undo_8 (by decide) ?_
  refine z_iconst C (zi 0) dL_undo_14 (by decide) ?_
  cases hf
  exact hq _ _ dL_undo_15

theorem mL_undo (l : Launch) (D : va_G) (Ca : Nat → ClassId) (B : Nat) (En : State → Prop) (hE : zEk B En) (σ : zS) (N : Nat) (x0 : Nat) (x1 : Nat) (X : zS × Int32) (hf : fL_undo σ x0 x1 = some X) : zMiH l D Ca B En yL_undo cL_undo 3 (Option.some Jvm.ClassFile.FieldType.int) [((0 : Nat), (8 : Nat), (11 : Nat), (71 : Nat))] 7 190 [.ref x0, .ref x1] σ N X.1 X.2 :=
  zMet_H (own := RL) hE (by decide +kernel) rfl (Nat.le_of_ble_eq_true rfl) (fun p e s m args below meth c C hr ht hRm => wfL_undo C hRm σ x0 x1 X.1 X.2 hf (fun pc lv hd => zfin_H C hr (Nat.le_refl _) (by omega) (by omega) hd))
set_option maxRecDepth 100000 in
set_option maxHeartbeats 4000000 in
theorem mxL_undo_3 (l : Launch) (D : va_G) (Ca : Nat → ClassId) (B : Nat) (En : State → Prop) (hE : zEk B En) (hT : ∀ U, En U → zThr B U) (hT2 : ∀ U, En U → va_Nc (zEx 4) (zEx 1) U ∧ va_Nc (zEx 2) (zEx 1) U) (hl0 : l.stackTraces = false) (σ : zS) (N : Nat) (x0 : Nat) (x1 : Nat) (h13 : (σ.1 x0).1 = 13) (hf : tX9_undo σ x0  = some 3) : zMiH l D Ca B En yL_undo cL_undo 3 (Option.some Jvm.ClassFile.FieldType.int) [((0 : Nat), (8 : Nat), (11 : Nat), (71 : Nat))] 7 190 [.ref x0, .ref x1] σ N σ (zi 1) := by
  refine zMet_H (own := RL) hE (by decide +kernel) rfl (Nat.le_of_ble_eq_true rfl) (fun p e s m args below meth c C hr ht hRm => ?_)
  refine z_aload_n C dL_undo_0 rfl 1 rfl ?_
  refine z_iconst C (zi 0) dL_undo_1 (by decide) ?_
  refine z_aload_n C dL_undo_2 rfl 0 rfl ?_
  refine z_catchV (As := []) (F0 := 7) (L0 := 190) C hT (mtX9_undo l D Ca B En hE hT hl0 σ N x0  h13 3 hf) hRm h13 rfl kw_1203 kw_1 kw_1200 kw_1201 kw_1202 hyX9_undo (Nat.le_of_ble_eq_true rfl) (Nat.le_of_ble_eq_true rfl) rfl rfl (Nat.le_of_ble_eq_true rfl) dL_undo_3 (Nat.le_of_ble_eq_true rfl) (Nat.le_of_ble_eq_true rfl) [] ⟨0, 8, 11, 71⟩ [] (ht.trans rfl) (fun z hz => nomatch hz) (by decide) (by decide) kw_1132 (zEcm 3 (by omega)) (fun N2 q hN => ?_)
  refine z_sub [] rfl ?_
  refine z_astore_n (lv2 := [(2, .ref q)]) C dL_undo_11 rfl (by decide) rfl ?_
  refine z_iconst C (zi 1) dL_undo_12 (by decide) ?_
  exact zfin_H C hr hN (by omega) (by omega) dL_undo_13
theorem dL_completesIn_0 : decode cL_completesIn 0 = .ok (.aload_n 2, 1) := by decide +kernel
theorem dL_completesIn_1 : decode cL_completesIn 1 = .ok (.iconst 0, 1) := by decide +kernel
theorem dL_completesIn_2 : decode cL_completesIn 2 = .ok (.aload_n 0, 1) := by decide +kernel
theorem dL_completesIn_3 : decode cL_completesIn 3 = .ok (.iload_n 1, 1) := by decide +kernel
theorem dL_completesIn_4 : decode cL_completesIn 4 = .ok (.invokevirtual 90, 3) := by decide +kernel
theorem dL_completesIn_7 : decode cL_completesIn 7 = .ok (.i2l, 1) := by decide +kernel
theorem dL_completesIn_8 : decode cL_completesIn 8 = .ok (.lastore, 1) := by decide +kernel
theorem dL_completesIn_9 : decode cL_completesIn 9 = .ok (.goto 6, 3) := by decide +kernel
theorem dL_completesIn_12 : decode cL_completesIn 12 = .ok (.astore_n 3, 1) := by decide +kernel
theorem dL_completesIn_13 : decode cL_completesIn 13 = .ok (.iconst 1, 1) := by decide +kernel
theorem dL_completesIn_14 : decode cL_completesIn 14 = .ok (.ireturn, 1) := by decide +kernel
theorem dL_completesIn_15 : decode cL_completesIn 15 = .ok (.iconst 0, 1) := by decide +kernel
theorem dL_completesIn_16 : decode cL_completesIn 16 = .ok (.ireturn, 1) := by decide +kernel
theorem hyL_completesIn : yL_completesIn.cls ≠ "java/lang/invoke/MethodHandle" ∧ yL_completesIn.cls ≠ "java/lang/invoke/VarHandle" ∧ (parseMethodDescriptor yL_completesIn.desc).map (fun d => d.parameters.length) = some 3 := ⟨by decide +kernel, by decide +kernel, by decide +kernel⟩
set_option maxRecDepth 100000 in
set_option maxHeartbeats 4000000 in
theorem wfL_completesIn (C : zC p s m args meth c cL_completesIn RL 4 D Ca B En) (hRm : zRm R 8 181 cells slots) (σ : zS) (x0 : Nat) (x1 : Int32) (x2 : Nat) (τ : zS) (r : Int32) (hf : fL_completesIn σ x0 x1 x2 = some (τ, r)) (hq : ∀ (pc : Nat) (lv : List (Nat × Value)), decode cL_completesIn pc = .ok (.ireturn, 1) → zW p l e R s m args below meth c cells slots Q D Ca B 4 τ N pc lv [.int r]) : zW p l e R s m args below meth c cells slots Q D Ca B 4 σ N 0 [(0, .ref x0), (1, .int x1), (2, .ref x2)] [] := by
  unfold fL_completesIn at hf
  refine z_aload_n C dL_completesIn_0 rfl 2 rfl ?_
  refine z_iconst C (zi 0) dL_completesIn_1 (by decide) ?_
  refine z_aload_n C dL_completesIn_2 rfl 0 rfl ?_
  refine z_iload_n C dL_completesIn_3 rfl 1 rfl ?_
  obtain ⟨c1, hc1, hf⟩ := zbind hf
  obtain ⟨kc1, hc1⟩ := zck_ok hc1
  refine z_callVi (As := [.int x1]) (F0 := 8) (L0 := 181) C (mX9_completesIn l D Ca B En C.2.2.2.2.2.2.2.1 σ N x0 x1 _ hc1) hRm kc1 rfl kw_1214 kw_1 kw_1211 kw_1212 kw_1213 hyX9_completesIn (Nat.le_of_ble_eq_true rfl) (Nat.le_of_ble_eq_true rfl) rfl rfl (Nat.le_of_ble_eq_true rfl) dL_completesIn_4 ?_
  refine z_i2l C dL_completesIn_7 ?_
  obtain ⟨σ2, hσ2, hf⟩ := zbind hf
  refine z_sJ C hσ2 dL_completesIn_8 ?_
  refine z_goto C 15 dL_completesIn_9 (by decide) ?_
  refine z_iconst C (zi 0) dL_completesIn_15 (by decide) ?_
  cases hf
  exact hq _ _ dL_completesIn_16

theorem mL_completesIn (l : Launch) (D : va_G) (Ca : Nat → ClassId) (B : Nat) (En : State → Prop) (hE : zEk B En) (σ : zS) (N : Nat) (x0 : Nat) (x1 : Int32) (x2 : Nat) (X : zS × Int32) (hf : fL_completesIn σ x0 x1 x2 = some X) : zMiH l D Ca B En yL_completesIn cL_completesIn 4 (Option.some Jvm.ClassFile.FieldType.int) [((0 : Nat), (9 : Nat), (12 : Nat), (23 : Nat))] 8 181 [.ref x0, .int x1, .ref x2] σ N X.1 X.2 :=
  zMet_H (own := RL) hE (by decide +kernel) rfl (Nat.le_of_ble_eq_true rfl) (fun p e s m args below meth c C hr ht hRm => wfL_completesIn C hRm σ x0 x1 x2 X.1 X.2 hf (fun pc lv hd => zfin_H C hr (Nat.le_refl _) (by omega) (by omega) hd))
set_option maxRecDepth 100000 in
set_option maxHeartbeats 4000000 in
theorem mxL_completesIn_2 (l : Launch) (D : va_G) (Ca : Nat → ClassId) (B : Nat) (En : State → Prop) (hE : zEk B En) (hT : ∀ U, En U → zThr B U) (hT2 : ∀ U, En U → va_Nc (zEx 4) (zEx 1) U ∧ va_Nc (zEx 2) (zEx 1) U) (hl0 : l.stackTraces = false) (σ : zS) (N : Nat) (x0 : Nat) (x1 : Int32) (x2 : Nat) (h13 : (σ.1 x0).1 = 13) (hf : tX9_completesIn σ x0 x1 = some 2) : zMiH l D Ca B En yL_completesIn cL_completesIn 4 (Option.some Jvm.ClassFile.FieldType.int) [((0 : Nat), (9 : Nat), (12 : Nat), (23 : Nat))] 8 181 [.ref x0, .int x1, .ref x2] σ N σ (zi 1) := by
  refine zMet_H (own := RL) hE (by decide +kernel) rfl (Nat.le_of_ble_eq_true rfl) (fun p e s m args below meth c C hr ht hRm => ?_)
  refine z_aload_n C dL_completesIn_0 rfl 2 rfl ?_
  refine z_iconst C (zi 0) dL_completesIn_1 (by decide) ?_
  refine z_aload_n C dL_completesIn_2 rfl 0 rfl ?_
  refine z_iload_n C dL_completesIn_3 rfl 1 rfl ?_
  refine z_catchV (As := [.int x1]) (F0 := 8) (L0 := 181) C hT (mtX9_completesIn l D Ca B En hE hT hl0 σ N x0 x1 h13 2 hf) hRm h13 rfl kw_1214 kw_1 kw_1211 kw_1212 kw_1213 hyX9_completesIn (Nat.le_of_ble_eq_true rfl) (Nat.le_of_ble_eq_true rfl) rfl rfl (Nat.le_of_ble_eq_true rfl) dL_completesIn_4 (Nat.le_of_ble_eq_true rfl) (Nat.le_of_ble_eq_true rfl) [] ⟨0, 9, 12, 23⟩ [] (ht.trans rfl) (fun z hz => nomatch hz) (by decide) (by decide) kw_951 (zEcm 2 (by omega)) (fun N2 q hN => ?_)
  refine z_sub [] rfl ?_
  refine z_astore_n (lv2 := [(3, .ref q)]) C dL_completesIn_12 rfl (by decide) rfl ?_
  refine z_iconst C (zi 1) dL_completesIn_13 (by decide) ?_
  exact zfin_H C hr hN (by omega) (by omega) dL_completesIn_14
theorem dL_bestInstances_0 : decode cL_bestInstances 0 = .ok (.aload_n 2, 1) := by decide +kernel
theorem dL_bestInstances_1 : decode cL_bestInstances 1 = .ok (.iconst 0, 1) := by decide +kernel
theorem dL_bestInstances_2 : decode cL_bestInstances 2 = .ok (.aload_n 0, 1) := by decide +kernel
theorem dL_bestInstances_3 : decode cL_bestInstances 3 = .ok (.iload_n 1, 1) := by decide +kernel
theorem dL_bestInstances_4 : decode cL_bestInstances 4 = .ok (.invokevirtual 93, 3) := by decide +kernel
theorem dL_bestInstances_7 : decode cL_bestInstances 7 = .ok (.i2l, 1) := by decide +kernel
theorem dL_bestInstances_8 : decode cL_bestInstances 8 = .ok (.lastore, 1) := by decide +kernel
theorem dL_bestInstances_9 : decode cL_bestInstances 9 = .ok (.goto 6, 3) := by decide +kernel
theorem dL_bestInstances_12 : decode cL_bestInstances 12 = .ok (.astore_n 3, 1) := by decide +kernel
theorem dL_bestInstances_13 : decode cL_bestInstances 13 = .ok (.iconst 1, 1) := by decide +kernel
theorem dL_bestInstances_14 : decode cL_bestInstances 14 = .ok (.ireturn, 1) := by decide +kernel
theorem dL_bestInstances_15 : decode cL_bestInstances 15 = .ok (.iconst 0, 1) := by decide +kernel
theorem dL_bestInstances_16 : decode cL_bestInstances 16 = .ok (.ireturn, 1) := by decide +kernel
theorem hyL_bestInstances : yL_bestInstances.cls ≠ "java/lang/invoke/MethodHandle" ∧ yL_bestInstances.cls ≠ "java/lang/invoke/VarHandle" ∧ (parseMethodDescriptor yL_bestInstances.desc).map (fun d => d.parameters.length) = some 3 := ⟨by decide +kernel, by decide +kernel, by decide +kernel⟩
set_option maxRecDepth 100000 in
set_option maxHeartbeats 4000000 in
theorem wfL_bestInstances (C : zC p s m args meth c cL_bestInstances RL 4 D Ca B En) (hRm : zRm R 7 175 cells slots) (σ : zS) (x0 : Nat) (x1 : Int32) (x2 : Nat) (τ : zS) (r : Int32) (hf : fL_bestInstances σ x0 x1 x2 = some (τ, r)) (hq : ∀ (pc : Nat) (lv : List (Nat × Value)), decode cL_bestInstances pc = .ok (.ireturn, 1) → zW p l e R s m args below meth c cells slots Q D Ca B 4 τ N pc lv [.int r]) : zW p l e R s m args below meth c cells slots Q D Ca B 4 σ N 0 [(0, .ref x0), (1, .int x1), (2, .ref x2)] [] := by
  unfold fL_bestInstances at hf
  refine z_aload_n C dL_bestInstances_0 rfl 2 rfl ?_
  refine z_iconst C (zi 0) dL_bestInstances_1 (by decide) ?_
  refine z_aload_n C dL_bestInstances_2 rfl 0 rfl ?_
  refine z_iload_n C dL_bestInstances_3 rfl 1 rfl ?_
  obtain ⟨c1, hc1, hf⟩ := zbind hf
  obtain ⟨kc1, hc1⟩ := zck_ok hc1
  refine z_callVi (As := [.int x1]) (F0 := 7) (L0 := 175) C (mX9_bestInstances l D Ca B En C.2.2.2.2.2.2.2.1 σ N x0 x1 _ hc1) hRm kc1 rfl kw_1221 kw_1 kw_1218 kw_1219 kw_1220 hyX9_bestInstances (Nat.le_of_ble_eq_true rfl) (Nat.le_of_ble_eq_true rfl) rfl rfl (Nat.le_of_ble_eq_true rfl) dL_bestInstances_4 ?_
  refine z_i2l C dL_bestInstances_7 ?_
  obtain ⟨σ2, hσ2, hf⟩ := zbind hf
  refine z_sJ C hσ2 dL_bestInstances_8 ?_
  refine z_goto C 15 dL_bestInstances_9 (by decide) ?_
  refine z_iconst C (zi 0) dL_bestInstances_15 (by decide) ?_
  cases hf
  exact hq _ _ dL_bestInstances_16

theorem mL_bestInstances (l : Launch) (D : va_G) (Ca : Nat → ClassId) (B : Nat) (En : State → Prop) (hE : zEk B En) (σ : zS) (N : Nat) (x0 : Nat) (x1 : Int32) (x2 : Nat) (X : zS × Int32) (hf : fL_bestInstances σ x0 x1 x2 = some X) : zMiH l D Ca B En yL_bestInstances cL_bestInstances 4 (Option.some Jvm.ClassFile.FieldType.int) [((0 : Nat), (9 : Nat), (12 : Nat), (23 : Nat))] 7 175 [.ref x0, .int x1, .ref x2] σ N X.1 X.2 :=
  zMet_H (own := RL) hE (by decide +kernel) rfl (Nat.le_of_ble_eq_true rfl) (fun p e s m args below meth c C hr ht hRm => wfL_bestInstances C hRm σ x0 x1 x2 X.1 X.2 hf (fun pc lv hd => zfin_H C hr (Nat.le_refl _) (by omega) (by omega) hd))
set_option maxRecDepth 100000 in
set_option maxHeartbeats 4000000 in
theorem mxL_bestInstances_2 (l : Launch) (D : va_G) (Ca : Nat → ClassId) (B : Nat) (En : State → Prop) (hE : zEk B En) (hT : ∀ U, En U → zThr B U) (hT2 : ∀ U, En U → va_Nc (zEx 4) (zEx 1) U ∧ va_Nc (zEx 2) (zEx 1) U) (hl0 : l.stackTraces = false) (σ : zS) (N : Nat) (x0 : Nat) (x1 : Int32) (x2 : Nat) (h13 : (σ.1 x0).1 = 13) (hf : tX9_bestInstances σ x0 x1 = some 2) : zMiH l D Ca B En yL_bestInstances cL_bestInstances 4 (Option.some Jvm.ClassFile.FieldType.int) [((0 : Nat), (9 : Nat), (12 : Nat), (23 : Nat))] 8 126 [.ref x0, .int x1, .ref x2] σ N σ (zi 1) := by
  refine zMet_H (own := RL) hE (by decide +kernel) rfl (Nat.le_of_ble_eq_true rfl) (fun p e s m args below meth c C hr ht hRm => ?_)
  refine z_aload_n C dL_bestInstances_0 rfl 2 rfl ?_
  refine z_iconst C (zi 0) dL_bestInstances_1 (by decide) ?_
  refine z_aload_n C dL_bestInstances_2 rfl 0 rfl ?_
  refine z_iload_n C dL_bestInstances_3 rfl 1 rfl ?_
  refine z_catchV (As := [.int x1]) (F0 := 8) (L0 := 126) C hT (mtX9_bestInstances l D Ca B En hE hT hl0 σ N x0 x1 h13 2 hf) hRm h13 rfl kw_1221 kw_1 kw_1218 kw_1219 kw_1220 hyX9_bestInstances (Nat.le_of_ble_eq_true rfl) (Nat.le_of_ble_eq_true rfl) rfl rfl (Nat.le_of_ble_eq_true rfl) dL_bestInstances_4 (Nat.le_of_ble_eq_true rfl) (Nat.le_of_ble_eq_true rfl) [] ⟨0, 9, 12, 23⟩ [] (ht.trans rfl) (fun z hz => nomatch hz) (by decide) (by decide) kw_951 (zEcm 2 (by omega)) (fun N2 q hN => ?_)
  refine z_sub [] rfl ?_
  refine z_astore_n (lv2 := [(3, .ref q)]) C dL_bestInstances_12 rfl (by decide) rfl ?_
  refine z_iconst C (zi 1) dL_bestInstances_13 (by decide) ?_
  exact zfin_H C hr hN (by omega) (by omega) dL_bestInstances_14
theorem dL_printSink_0 : decode cL_printSink 0 = .ok (.aload_n 2, 1) := by decide +kernel
theorem dL_printSink_1 : decode cL_printSink 1 = .ok (.iconst 0, 1) := by decide +kernel
theorem dL_printSink_2 : decode cL_printSink 2 = .ok (.aload_n 0, 1) := by decide +kernel
theorem dL_printSink_3 : decode cL_printSink 3 = .ok (.iload_n 1, 1) := by decide +kernel
theorem dL_printSink_4 : decode cL_printSink 4 = .ok (.invokevirtual 96, 3) := by decide +kernel
theorem dL_printSink_7 : decode cL_printSink 7 = .ok (.i2l, 1) := by decide +kernel
theorem dL_printSink_8 : decode cL_printSink 8 = .ok (.lastore, 1) := by decide +kernel
theorem dL_printSink_9 : decode cL_printSink 9 = .ok (.goto 6, 3) := by decide +kernel
theorem dL_printSink_12 : decode cL_printSink 12 = .ok (.astore_n 3, 1) := by decide +kernel
theorem dL_printSink_13 : decode cL_printSink 13 = .ok (.iconst 1, 1) := by decide +kernel
theorem dL_printSink_14 : decode cL_printSink 14 = .ok (.ireturn, 1) := by decide +kernel
theorem dL_printSink_15 : decode cL_printSink 15 = .ok (.iconst 0, 1) := by decide +kernel
theorem dL_printSink_16 : decode cL_printSink 16 = .ok (.ireturn, 1) := by decide +kernel
theorem hyL_printSink : yL_printSink.cls ≠ "java/lang/invoke/MethodHandle" ∧ yL_printSink.cls ≠ "java/lang/invoke/VarHandle" ∧ (parseMethodDescriptor yL_printSink.desc).map (fun d => d.parameters.length) = some 3 := ⟨by decide +kernel, by decide +kernel, by decide +kernel⟩
set_option maxRecDepth 100000 in
set_option maxHeartbeats 4000000 in
theorem wfL_printSink (C : zC p s m args meth c cL_printSink RL 4 D Ca B En) (hRm : zRm R 3 67 cells slots) (σ : zS) (x0 : Nat) (x1 : Int32) (x2 : Nat) (τ : zS) (r : Int32) (hf : fL_printSink σ x0 x1 x2 = some (τ, r)) (hq : ∀ (pc : Nat) (lv : List (Nat × Value)), decode cL_printSink pc = .ok (.ireturn, 1) → zW p l e R s m args below meth c cells slots Q D Ca B 4 τ N pc lv [.int r]) : zW p l e R s m args below meth c cells slots Q D Ca B 4 σ N 0 [(0, .ref x0), (1, .int x1), (2, .ref x2)] [] := by
  unfold fL_printSink at hf
  refine z_aload_n C dL_printSink_0 rfl 2 rfl ?_
  refine z_iconst C (zi 0) dL_printSink_1 (by decide) ?_
  refine z_aload_n C dL_printSink_2 rfl 0 rfl ?_
  refine z_iload_n C dL_printSink_3 rfl 1 rfl ?_
  obtain ⟨c1, hc1, hf⟩ := zbind hf
  obtain ⟨kc1, hc1⟩ := zck_ok hc1
  refine z_callVi (As := [.int x1]) (F0 := 3) (L0 := 67) C (mX9_printSink l D Ca B En C.2.2.2.2.2.2.2.1 σ N x0 x1 _ hc1) hRm kc1 rfl kw_1228 kw_1 kw_1225 kw_1226 kw_1227 hyX9_printSink (Nat.le_of_ble_eq_true rfl) (Nat.le_of_ble_eq_true rfl) rfl rfl (Nat.le_of_ble_eq_true rfl) dL_printSink_4 ?_
  refine z_i2l C dL_printSink_7 ?_
  obtain ⟨σ2, hσ2, hf⟩ := zbind hf
  refine z_sJ C hσ2 dL_printSink_8 ?_
  refine z_goto C 15 dL_printSink_9 (by decide) ?_
  refine z_iconst C (zi 0) dL_printSink_15 (by decide) ?_
  cases hf
  exact hq _ _ dL_printSink_16

theorem mL_printSink (l : Launch) (D : va_G) (Ca : Nat → ClassId) (B : Nat) (En : State → Prop) (hE : zEk B En) (σ : zS) (N : Nat) (x0 : Nat) (x1 : Int32) (x2 : Nat) (X : zS × Int32) (hf : fL_printSink σ x0 x1 x2 = some X) : zMiH l D Ca B En yL_printSink cL_printSink 4 (Option.some Jvm.ClassFile.FieldType.int) [((0 : Nat), (9 : Nat), (12 : Nat), (13 : Nat))] 3 67 [.ref x0, .int x1, .ref x2] σ N X.1 X.2 :=
  zMet_H (own := RL) hE (by decide +kernel) rfl (Nat.le_of_ble_eq_true rfl) (fun p e s m args below meth c C hr ht hRm => wfL_printSink C hRm σ x0 x1 x2 X.1 X.2 hf (fun pc lv hd => zfin_H C hr (Nat.le_refl _) (by omega) (by omega) hd))
set_option maxRecDepth 100000 in
set_option maxHeartbeats 4000000 in
theorem mxL_printSink_1 (l : Launch) (D : va_G) (Ca : Nat → ClassId) (B : Nat) (En : State → Prop) (hE : zEk B En) (hT : ∀ U, En U → zThr B U) (hT2 : ∀ U, En U → va_Nc (zEx 4) (zEx 1) U ∧ va_Nc (zEx 2) (zEx 1) U) (hl0 : l.stackTraces = false) (σ : zS) (N : Nat) (x0 : Nat) (x1 : Int32) (x2 : Nat) (h13 : (σ.1 x0).1 = 13) (hf : tX9_printSink σ x0 x1 = some 1) : zMiH l D Ca B En yL_printSink cL_printSink 4 (Option.some Jvm.ClassFile.FieldType.int) [((0 : Nat), (9 : Nat), (12 : Nat), (13 : Nat))] 8 125 [.ref x0, .int x1, .ref x2] σ N σ (zi 1) := by
  refine zMet_H (own := RL) hE (by decide +kernel) rfl (Nat.le_of_ble_eq_true rfl) (fun p e s m args below meth c C hr ht hRm => ?_)
  refine z_aload_n C dL_printSink_0 rfl 2 rfl ?_
  refine z_iconst C (zi 0) dL_printSink_1 (by decide) ?_
  refine z_aload_n C dL_printSink_2 rfl 0 rfl ?_
  refine z_iload_n C dL_printSink_3 rfl 1 rfl ?_
  refine z_catchV (As := [.int x1]) (F0 := 8) (L0 := 125) C hT (mtX9_printSink l D Ca B En hE hT hl0 σ N x0 x1 h13 1 hf) hRm h13 rfl kw_1228 kw_1 kw_1225 kw_1226 kw_1227 hyX9_printSink (Nat.le_of_ble_eq_true rfl) (Nat.le_of_ble_eq_true rfl) rfl rfl (Nat.le_of_ble_eq_true rfl) dL_printSink_4 (Nat.le_of_ble_eq_true rfl) (Nat.le_of_ble_eq_true rfl) [] ⟨0, 9, 12, 13⟩ [] (ht.trans rfl) (fun z hz => nomatch hz) (by decide) (by decide) kw_865 (zEcm 1 (by omega)) (fun N2 q hN => ?_)
  refine z_sub [] rfl ?_
  refine z_astore_n (lv2 := [(3, .ref q)]) C dL_printSink_12 rfl (by decide) rfl ?_
  refine z_iconst C (zi 1) dL_printSink_13 (by decide) ?_
  exact zfin_H C hr hN (by omega) (by omega) dL_printSink_14
theorem dL_restoreState_0 : decode cL_restoreState 0 = .ok (.aload_n 1, 1) := by decide +kernel
theorem dL_restoreState_1 : decode cL_restoreState 1 = .ok (.iconst 0, 1) := by decide +kernel
theorem dL_restoreState_2 : decode cL_restoreState 2 = .ok (.aload_n 0, 1) := by decide +kernel
theorem dL_restoreState_3 : decode cL_restoreState 3 = .ok (.invokevirtual 99, 3) := by decide +kernel
theorem dL_restoreState_6 : decode cL_restoreState 6 = .ok (.i2l, 1) := by decide +kernel
theorem dL_restoreState_7 : decode cL_restoreState 7 = .ok (.lastore, 1) := by decide +kernel
theorem dL_restoreState_8 : decode cL_restoreState 8 = .ok (.goto 6, 3) := by decide +kernel
theorem dL_restoreState_11 : decode cL_restoreState 11 = .ok (.astore_n 2, 1) := by decide +kernel
theorem dL_restoreState_12 : decode cL_restoreState 12 = .ok (.iconst 1, 1) := by decide +kernel
theorem dL_restoreState_13 : decode cL_restoreState 13 = .ok (.ireturn, 1) := by decide +kernel
theorem dL_restoreState_14 : decode cL_restoreState 14 = .ok (.iconst 0, 1) := by decide +kernel
theorem dL_restoreState_15 : decode cL_restoreState 15 = .ok (.ireturn, 1) := by decide +kernel
theorem hyL_restoreState : yL_restoreState.cls ≠ "java/lang/invoke/MethodHandle" ∧ yL_restoreState.cls ≠ "java/lang/invoke/VarHandle" ∧ (parseMethodDescriptor yL_restoreState.desc).map (fun d => d.parameters.length) = some 2 := ⟨by decide +kernel, by decide +kernel, by decide +kernel⟩
set_option maxRecDepth 100000 in
set_option maxHeartbeats 4000000 in
theorem wfL_restoreState (C : zC p s m args meth c cL_restoreState RL 3 D Ca B En) (hRm : zRm R 6 168 cells slots) (σ : zS) (x0 : Nat) (x1 : Nat) (τ : zS) (r : Int32) (hf : fL_restoreState σ x0 x1 = some (τ, r)) (hq : ∀ (pc : Nat) (lv : List (Nat × Value)), decode cL_restoreState pc = .ok (.ireturn, 1) → zW p l e R s m args below meth c cells slots Q D Ca B 3 τ N pc lv [.int r]) : zW p l e R s m args below meth c cells slots Q D Ca B 3 σ N 0 [(0, .ref x0), (1, .ref x1)] [] := by
  unfold fL_restoreState at hf
  refine z_aload_n C dL_restoreState_0 rfl 1 rfl ?_
  refine z_iconst C (zi 0) dL_restoreState_1 (by decide) ?_
  refine z_aload_n C dL_restoreState_2 rfl 0 rfl ?_
  obtain ⟨c1, hc1, hf⟩ := zbind hf
  obtain ⟨kc1, hc1⟩ := zck_ok hc1
  refine z_callVi (As := []) (F0 := 6) (L0 := 168) C (mX9_restoreState l D Ca B En C.2.2.2.2.2.2.2.1 σ N x0  _ hc1) hRm kc1 rfl kw_1244 kw_1 kw_1241 kw_1242 kw_1243 hyX9_restoreState (Nat.le_of_ble_eq_true rfl) (Nat.le_of_ble_eq_true rfl) rfl rfl (Nat.le_of_ble_eq_true rfl) dL_restoreState_3 ?_
  refine z_i2l C dL_restoreState_6 ?_
  obtain ⟨σ2, hσ2, hf⟩ := zbind hf
  refine z_sJ C hσ2 dL_restoreState_7 ?_
  refine z_goto C 14 dL_restoreState_8 (by decide) ?_
  refine z_iconst C (zi 0) dL_restoreState_14 (by decide) ?_
  cases hf
  exact hq _ _ dL_restoreState_15

theorem mL_restoreState (l : Launch) (D : va_G) (Ca : Nat → ClassId) (B : Nat) (En : State → Prop) (hE : zEk B En) (σ : zS) (N : Nat) (x0 : Nat) (x1 : Nat) (X : zS × Int32) (hf : fL_restoreState σ x0 x1 = some X) : zMiH l D Ca B En yL_restoreState cL_restoreState 3 (Option.some Jvm.ClassFile.FieldType.int) [((0 : Nat), (8 : Nat), (11 : Nat), (71 : Nat))] 6 168 [.ref x0, .ref x1] σ N X.1 X.2 :=
  zMet_H (own := RL) hE (by decide +kernel) rfl (Nat.le_of_ble_eq_true rfl) (fun p e s m args below meth c C hr ht hRm => wfL_restoreState C hRm σ x0 x1 X.1 X.2 hf (fun pc lv hd => zfin_H C hr (Nat.le_refl _) (by omega) (by omega) hd))
set_option maxRecDepth 100000 in
set_option maxHeartbeats 4000000 in
theorem mxL_restoreState_3 (l : Launch) (D : va_G) (Ca : Nat → ClassId) (B : Nat) (En : State → Prop) (hE : zEk B En) (hT : ∀ U, En U → zThr B U) (hT2 : ∀ U, En U → va_Nc (zEx 4) (zEx 1) U ∧ va_Nc (zEx 2) (zEx 1) U) (hl0 : l.stackTraces = false) (σ : zS) (N : Nat) (x0 : Nat) (x1 : Nat) (h13 : (σ.1 x0).1 = 13) (hf : tX9_restoreState σ x0  = some 3) : zMiH l D Ca B En yL_restoreState cL_restoreState 3 (Option.some Jvm.ClassFile.FieldType.int) [((0 : Nat), (8 : Nat), (11 : Nat), (71 : Nat))] 7 168 [.ref x0, .ref x1] σ N σ (zi 1) := by
  refine zMet_H (own := RL) hE (by decide +kernel) rfl (Nat.le_of_ble_eq_true rfl) (fun p e s m args below meth c C hr ht hRm => ?_)
  refine z_aload_n C dL_restoreState_0 rfl 1 rfl ?_
  refine z_iconst C (zi 0) dL_restoreState_1 (by decide) ?_
  refine z_aload_n C dL_restoreState_2 rfl 0 rfl ?_
  refine z_catchV (As := []) (F0 := 7) (L0 := 168) C hT (mtX9_restoreState l D Ca B En hE hT hl0 σ N x0  h13 3 hf) hRm h13 rfl kw_1244 kw_1 kw_1241 kw_1242 kw_1243 hyX9_restoreState (Nat.le_of_ble_eq_true rfl) (Nat.le_of_ble_eq_true rfl) rfl rfl (Nat.le_of_ble_eq_true rfl) dL_restoreState_3 (Nat.le_of_ble_eq_true rfl) (Nat.le_of_ble_eq_true rfl) [] ⟨0, 8, 11, 71⟩ [] (ht.trans rfl) (fun z hz => nomatch hz) (by decide) (by decide) kw_1132 (zEcm 3 (by omega)) (fun N2 q hN => ?_)
  refine z_sub [] rfl ?_
  refine z_astore_n (lv2 := [(2, .ref q)]) C dL_restoreState_11 rfl (by decide) rfl ?_
  refine z_iconst C (zi 1) dL_restoreState_12 (by decide) ?_
  exact zfin_H C hr hN (by omega) (by omega) dL_restoreState_13
end ZM
