/-! The law's wrappers. -/
section ZM
variable {p : Program} {l : Launch} {e : Env} {R : Room} {s : State} {m : MethodId} {args : Array Value} {below : List Frame} {meth : Method} {c : Code} {cells slots : Nat} {Q : State → Prop} {D : va_G} {Ca : Nat → ClassId} {B : Nat} {En : State → Prop} {N : Nat}
theorem dL_begun_0 : decode cL_begun 0 = .ok (.aload_n 0, 1) := by decide +kernel
theorem dL_begun_1 : decode cL_begun 1 = .ok (.iload_n 1, 1) := by decide +kernel
theorem dL_begun_2 : decode cL_begun 2 = .ok (.invokevirtual 41, 3) := by decide +kernel
theorem dL_begun_5 : decode cL_begun 5 = .ok (.ireturn, 1) := by decide +kernel
theorem dL_begun_6 : decode cL_begun 6 = .ok (.astore_n 2, 1) := by decide +kernel
theorem dL_begun_7 : decode cL_begun 7 = .ok (.iconst (-1), 1) := by decide +kernel
theorem dL_begun_8 : decode cL_begun 8 = .ok (.ireturn, 1) := by decide +kernel
theorem hyL_begun : yL_begun.cls ≠ "java/lang/invoke/MethodHandle" ∧ yL_begun.cls ≠ "java/lang/invoke/VarHandle" ∧ (parseMethodDescriptor yL_begun.desc).map (fun d => d.parameters.length) = some 2 := ⟨by decide +kernel, by decide +kernel, by decide +kernel⟩
set_option maxRecDepth 100000 in
set_option maxHeartbeats 4000000 in
theorem wfL_begun (C : zC p s m args meth c cL_begun RL 3 D Ca B En) (hRm : zRm R 7 191 cells slots) (σ : zS) (x0 : Nat) (x1 : Int32) (τ : zS) (r : Int32) (hf : fL_begun σ x0 x1 = some (τ, r)) (hq : ∀ (pc : Nat) (lv : List (Nat × Value)), decode cL_begun pc = .ok (.ireturn, 1) → zW p l e R s m args below meth c cells slots Q D Ca B 3 τ N pc lv [.int r]) : zW p l e R s m args below meth c cells slots Q D Ca B 3 σ N 0 [(0, .ref x0), (1, .int x1)] [] := by
  unfold fL_begun at hf
  refine z_aload_n C dL_begun_0 rfl 0 rfl ?_
  refine z_iload_n C dL_begun_1 rfl 1 rfl ?_
  obtain ⟨c1, hc1, hf⟩ := zbind hf
  obtain ⟨kc1, hc1⟩ := zck_ok hc1
  refine z_callVi (As := [.int x1]) (F0 := 7) (L0 := 191) C (mX9_begin l D Ca B En C.2.2.2.2.2.2.2.1 σ N x0 x1 _ hc1) hRm kc1 rfl kw_948 kw_1 kw_945 kw_946 kw_947 hyX9_begin (Nat.le_of_ble_eq_true rfl) (Nat.le_of_ble_eq_true rfl) rfl rfl (Nat.le_of_ble_eq_true rfl) dL_begun_2 ?_
  cases hf
  exact hq _ _ dL_begun_5

theorem mL_begun (l : Launch) (D : va_G) (Ca : Nat → ClassId) (B : Nat) (En : State → Prop) (hE : zEk B En) (σ : zS) (N : Nat) (x0 : Nat) (x1 : Int32) (X : zS × Int32) (hf : fL_begun σ x0 x1 = some X) : zMiH l D Ca B En yL_begun cL_begun 3 (Option.some Jvm.ClassFile.FieldType.int) [((0 : Nat), (5 : Nat), (6 : Nat), (45 : Nat))] 7 191 [.ref x0, .int x1] σ N X.1 X.2 :=
  zMet_H (own := RL) hE (by decide +kernel) rfl (Nat.le_of_ble_eq_true rfl) (fun p e s m args below meth c C hr ht hRm => wfL_begun C hRm σ x0 x1 X.1 X.2 hf (fun pc lv hd => zfin_H C hr (Nat.le_refl _) (by omega) (by omega) hd))
set_option maxRecDepth 100000 in
set_option maxHeartbeats 4000000 in
theorem mxL_begun_3 (l : Launch) (D : va_G) (Ca : Nat → ClassId) (B : Nat) (En : State → Prop) (hE : zEk B En) (hT : ∀ U, En U → zThr B U) (hl0 : l.stackTraces = false) (σ : zS) (N : Nat) (x0 : Nat) (x1 : Int32) (h13 : (σ.1 x0).1 = 13) (hf : tX9_begin σ x0 x1 = some 3) : zMiH l D Ca B En yL_begun cL_begun 3 (Option.some Jvm.ClassFile.FieldType.int) [((0 : Nat), (5 : Nat), (6 : Nat), (45 : Nat))] 7 191 [.ref x0, .int x1] σ N σ (zi (-1)) := by
  refine zMet_H (own := RL) hE (by decide +kernel) rfl (Nat.le_of_ble_eq_true rfl) (fun p e s m args below meth c C hr ht hRm => ?_)
  refine z_aload_n C dL_begun_0 rfl 0 rfl ?_
  refine z_iload_n C dL_begun_1 rfl 1 rfl ?_
  refine z_catchV (As := [.int x1]) (F0 := 7) (L0 := 191) C hT (mtX9_begin l D Ca B En hE hT hl0 σ N x0 x1 h13 3 hf) hRm h13 rfl kw_948 kw_1 kw_945 kw_946 kw_947 hyX9_begin (Nat.le_of_ble_eq_true rfl) (Nat.le_of_ble_eq_true rfl) rfl rfl (Nat.le_of_ble_eq_true rfl) dL_begun_2 (Nat.le_of_ble_eq_true rfl) (Nat.le_of_ble_eq_true rfl) [] ⟨0, 5, 6, 45⟩ [] (ht.trans rfl) (fun z hz => nomatch hz) (by decide) (by decide) kw_944 (zEcm 3 (by omega)) (fun N2 q hN => ?_)
  refine z_sub [] rfl ?_
  refine z_astore_n (lv2 := [(2, .ref q)]) C dL_begun_6 rfl (by decide) rfl ?_
  refine z_iconst C (zi (-1)) dL_begun_7 (by decide) ?_
  exact zfin_H C hr hN (by omega) (by omega) dL_begun_8
end ZM
