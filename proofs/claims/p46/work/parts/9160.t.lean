/-! The other needs, where they throw. -/
section ZU2
variable {p : Program} {l : Launch} {e : Env} {R : Room} {s : State} {m : MethodId} {args : Array Value} {below : List Frame} {meth : Method} {c : Code} {cells slots : Nat} {D : va_G} {Ca : Nat → ClassId} {B : Nat} {En : State → Prop} {N k : Nat}
theorem mtX9_needSource (l : Launch) (D : va_G) (Ca : Nat → ClassId) (B : Nat) (En : State → Prop) (hE : zEk B En) (hT : ∀ U, En U → zThr B U) (hl0 : l.stackTraces = false) (σ : zS) (N : Nat) (x0 : Nat) (x1 : Int32) (k : Nat) (hf : tX9_needSource σ x0 x1 = some k) : zMx l D Ca B En yX9_needSource cX9_needSource 2 (Option.none : Option Jvm.ClassFile.FieldType) 6 81 [.ref x0, .int x1] σ N k := by
  refine zMet_x (own := RX9) hE (by decide +kernel) rfl (Nat.le_of_ble_eq_true rfl) (fun p e s m args below meth c C hx hRm => ?_)
  have thr : k = 1 → zW p l e (zRoomX 6 81) s m args below meth c 0 0 (vx_MQ below (fun _ _ _ _ => False) (zXC D Ca B σ N k) args s 1 6 (zA B)) D Ca B 2 σ N 15 [(0, .ref x0), (1, .int x1)] [] := by
    rintro rfl
    exact z_throw 1 (by omega) C hT hl0 hx hRm (by omega) (by omega) (by decide) (by decide) rfl rfl dX9_needSource_15 dX9_needSource_18 dX9_needSource_19 dX9_needSource_22
  unfold tX9_needSource at hf
  refine z_iload_n C dX9_needSource_0 rfl 1 rfl ?_
  refine z_if_lt C 15 dX9_needSource_1 (by decide) (fun q4 => ?_) (fun q4 => ?_)
  · rw [if_pos q4] at hf
    exact thr (Option.some.inj hf).symm
  · rw [if_neg q4] at hf
    refine z_iload_n C dX9_needSource_4 rfl 1 rfl ?_
    refine z_aload_n C dX9_needSource_5 rfl 0 rfl ?_
    obtain ⟨v1, hv1, hf⟩ := zbind hf
    refine gf_RX9_35 C hv1 dX9_needSource_6 ?_
    obtain ⟨v2, hv2, hf⟩ := zbind hf
    refine gf_RX9_89 C hv2 dX9_needSource_9 ?_
    refine z_icmp_lt C 23 dX9_needSource_12 (by decide) (fun q3 => ?_) (fun q3 => ?_)
    · rw [if_pos q3] at hf
      cases hf
    · rw [if_neg q3] at hf
      exact thr (Option.some.inj hf).symm
theorem mtX9_needInstance (l : Launch) (D : va_G) (Ca : Nat → ClassId) (B : Nat) (En : State → Prop) (hE : zEk B En) (hT : ∀ U, En U → zThr B U) (hl0 : l.stackTraces = false) (σ : zS) (N : Nat) (x0 : Nat) (x1 : Int32) (k : Nat) (hf : tX9_needInstance σ x0 x1 = some k) : zMx l D Ca B En yX9_needInstance cX9_needInstance 2 (Option.none : Option Jvm.ClassFile.FieldType) 6 81 [.ref x0, .int x1] σ N k := by
  refine zMet_x (own := RX9) hE (by decide +kernel) rfl (Nat.le_of_ble_eq_true rfl) (fun p e s m args below meth c C hx hRm => ?_)
  have thr : k = 1 → zW p l e (zRoomX 6 81) s m args below meth c 0 0 (vx_MQ below (fun _ _ _ _ => False) (zXC D Ca B σ N k) args s 1 6 (zA B)) D Ca B 2 σ N 15 [(0, .ref x0), (1, .int x1)] [] := by
    rintro rfl
    exact z_throw 1 (by omega) C hT hl0 hx hRm (by omega) (by omega) (by decide) (by decide) rfl rfl dX9_needInstance_15 dX9_needInstance_18 dX9_needInstance_19 dX9_needInstance_22
  unfold tX9_needInstance at hf
  refine z_iload_n C dX9_needInstance_0 rfl 1 rfl ?_
  refine z_if_lt C 15 dX9_needInstance_1 (by decide) (fun q4 => ?_) (fun q4 => ?_)
  · rw [if_pos q4] at hf
    exact thr (Option.some.inj hf).symm
  · rw [if_neg q4] at hf
    refine z_iload_n C dX9_needInstance_4 rfl 1 rfl ?_
    refine z_aload_n C dX9_needInstance_5 rfl 0 rfl ?_
    obtain ⟨v1, hv1, hf⟩ := zbind hf
    refine gf_RX9_50 C hv1 dX9_needInstance_6 ?_
    obtain ⟨v2, hv2, hf⟩ := zbind hf
    refine gf_RX9_98 C hv2 dX9_needInstance_9 ?_
    refine z_icmp_lt C 23 dX9_needInstance_12 (by decide) (fun q3 => ?_) (fun q3 => ?_)
    · rw [if_pos q3] at hf
      cases hf
    · rw [if_neg q3] at hf
      exact thr (Option.some.inj hf).symm
theorem mtX9_needSink (l : Launch) (D : va_G) (Ca : Nat → ClassId) (B : Nat) (En : State → Prop) (hE : zEk B En) (hT : ∀ U, En U → zThr B U) (hl0 : l.stackTraces = false) (σ : zS) (N : Nat) (x0 : Nat) (x1 : Int32) (k : Nat) (hf : tX9_needSink σ x0 x1 = some k) : zMx l D Ca B En yX9_needSink cX9_needSink 2 (Option.none : Option Jvm.ClassFile.FieldType) 6 81 [.ref x0, .int x1] σ N k := by
  refine zMet_x (own := RX9) hE (by decide +kernel) rfl (Nat.le_of_ble_eq_true rfl) (fun p e s m args below meth c C hx hRm => ?_)
  have thr : k = 1 → zW p l e (zRoomX 6 81) s m args below meth c 0 0 (vx_MQ below (fun _ _ _ _ => False) (zXC D Ca B σ N k) args s 1 6 (zA B)) D Ca B 2 σ N 15 [(0, .ref x0), (1, .int x1)] [] := by
    rintro rfl
    exact z_throw 1 (by omega) C hT hl0 hx hRm (by omega) (by omega) (by decide) (by decide) rfl rfl dX9_needSink_15 dX9_needSink_18 dX9_needSink_19 dX9_needSink_22
  unfold tX9_needSink at hf
  refine z_iload_n C dX9_needSink_0 rfl 1 rfl ?_
  refine z_if_lt C 15 dX9_needSink_1 (by decide) (fun q4 => ?_) (fun q4 => ?_)
  · rw [if_pos q4] at hf
    exact thr (Option.some.inj hf).symm
  · rw [if_neg q4] at hf
    refine z_iload_n C dX9_needSink_4 rfl 1 rfl ?_
    refine z_aload_n C dX9_needSink_5 rfl 0 rfl ?_
    obtain ⟨v1, hv1, hf⟩ := zbind hf
    refine gf_RX9_35 C hv1 dX9_needSink_6 ?_
    obtain ⟨v2, hv2, hf⟩ := zbind hf
    refine gf_RX9_101 C hv2 dX9_needSink_9 ?_
    refine z_icmp_lt C 23 dX9_needSink_12 (by decide) (fun q3 => ?_) (fun q3 => ?_)
    · rw [if_pos q3] at hf
      cases hf
    · rw [if_neg q3] at hf
      exact thr (Option.some.inj hf).symm
theorem mtX9_needTicks (l : Launch) (D : va_G) (Ca : Nat → ClassId) (B : Nat) (En : State → Prop) (hE : zEk B En) (hT : ∀ U, En U → zThr B U) (hl0 : l.stackTraces = false) (σ : zS) (N : Nat) (x0 : Int32) (k : Nat) (hf : tX9_needTicks σ x0 = some k) : zMx l D Ca B En yX9_needTicks cX9_needTicks 1 (Option.none : Option Jvm.ClassFile.FieldType) 6 81 [.int x0] σ N k := by
  refine zMet_x (own := RX9) hE (by decide +kernel) rfl (Nat.le_of_ble_eq_true rfl) (fun p e s m args below meth c C hx hRm => ?_)
  have thr : k = 2 → zW p l e (zRoomX 6 81) s m args below meth c 0 0 (vx_MQ below (fun _ _ _ _ => False) (zXC D Ca B σ N k) args s 1 6 (zA B)) D Ca B 1 σ N 12 [(0, .int x0)] [] := by
    rintro rfl
    exact z_throw 2 (by omega) C hT hl0 hx hRm (by omega) (by omega) (by decide) (by decide) rfl rfl dX9_needTicks_12 dX9_needTicks_15 dX9_needTicks_16 dX9_needTicks_19
  unfold tX9_needTicks at hf
  refine z_iload_n C dX9_needTicks_0 rfl 0 rfl ?_
  refine z_iconst C (zi 1) dX9_needTicks_1 (by decide) ?_
  refine z_icmp_lt C 12 dX9_needTicks_2 (by decide) (fun q2 => ?_) (fun q2 => ?_)
  · rw [if_pos q2] at hf
    exact thr (Option.some.inj hf).symm
  · rw [if_neg q2] at hf
    refine z_iload_n C dX9_needTicks_5 rfl 0 rfl ?_
    refine z_sipush C (zi 500) dX9_needTicks_6 (by decide) ?_
    refine z_icmp_le C 20 dX9_needTicks_9 (by decide) (fun q1 => ?_) (fun q1 => ?_)
    · rw [if_pos q1] at hf
      cases hf
    · rw [if_neg q1] at hf
      exact thr (Option.some.inj hf).symm
end ZU2
