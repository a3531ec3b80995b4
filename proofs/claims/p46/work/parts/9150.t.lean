/-! The needs, where they throw. -/
section ZU
variable {p : Program} {l : Launch} {e : Env} {R : Room} {s : State} {m : MethodId} {args : Array Value} {below : List Frame} {meth : Method} {c : Code} {cells slots : Nat} {D : va_G} {Ca : Nat → ClassId} {B : Nat} {En : State → Prop} {N k : Nat}
theorem mtX9_needKey (l : Launch) (D : va_G) (Ca : Nat → ClassId) (B : Nat) (En : State → Prop) (hE : zEk B En) (hT : ∀ U, En U → zThr B U) (hl0 : l.stackTraces = false) (σ : zS) (N : Nat) (x0 : Int32) (k : Nat) (hf : tX9_needKey σ x0 = some k) : zMx l D Ca B En yX9_needKey cX9_needKey 1 (Option.none : Option Jvm.ClassFile.FieldType) 6 81 [.int x0] σ N k := by
  refine zMet_x (own := RX9) hE (by decide +kernel) rfl (Nat.le_of_ble_eq_true rfl) (fun p e s m args below meth c C hx hRm => ?_)
  have thr : k = 2 → zW p l e (zRoomX 6 81) s m args below meth c 0 0 (vx_MQ below (fun _ _ _ _ => False) (zXC D Ca B σ N k) args s 1 6 (zA B)) D Ca B 1 σ N 10 [(0, .int x0)] [] := by
    rintro rfl
    exact z_throw 2 (by omega) C hT hl0 hx hRm (by omega) (by omega) (by decide) (by decide) rfl rfl dX9_needKey_10 dX9_needKey_13 dX9_needKey_14 dX9_needKey_17
  unfold tX9_needKey at hf
  refine z_iload_n C dX9_needKey_0 rfl 0 rfl ?_
  refine z_if_lt C 10 dX9_needKey_1 (by decide) (fun q2 => ?_) (fun q2 => ?_)
  · rw [if_pos q2] at hf
    exact thr (Option.some.inj hf).symm
  · rw [if_neg q2] at hf
    refine z_iload_n C dX9_needKey_4 rfl 0 rfl ?_
    refine z_bipush C (zi 16) dX9_needKey_5 (by decide) ?_
    refine z_icmp_lt C 18 dX9_needKey_7 (by decide) (fun q3 => ?_) (fun q3 => ?_)
    · rw [if_pos q3] at hf
      cases hf
    · rw [if_neg q3] at hf
      exact thr (Option.some.inj hf).symm
end ZU
