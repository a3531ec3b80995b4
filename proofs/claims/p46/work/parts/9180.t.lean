/-! The methods of the face, where they throw. -/
theorem kw_944 : (Jvm.Cond.classLink "BarrierFlowLaw" (45 : Nat) "java/lang/IllegalStateException") ∈ zTb := zTb_of 944 (by decide +kernel) (by decide +kernel)
theorem zEcm : ∀ k, k = 1 ∨ k = 2 ∨ k = 3 ∨ k = 4 → Cond.castable (zEx k) (zEx k) ∈ zEbL := by
  rintro k (rfl | rfl | rfl | rfl) <;> simp [zEbL]
section ZU3
variable {p : Program} {l : Launch} {e : Env} {R : Room} {s : State} {m : MethodId} {args : Array Value} {below : List Frame} {meth : Method} {c : Code} {cells slots : Nat} {D : va_G} {Ca : Nat → ClassId} {B : Nat} {En : State → Prop} {N k : Nat}
set_option maxRecDepth 100000 in
set_option maxHeartbeats 4000000 in
theorem mtX9_begin (l : Launch) (D : va_G) (Ca : Nat → ClassId) (B : Nat) (En : State → Prop) (hE : zEk B En) (hT : ∀ U, En U → zThr B U) (hl0 : l.stackTraces = false) (σ : zS) (N : Nat) (x0 : Nat) (x1 : Int32) (h13 : (σ.1 x0).1 = 13) (k : Nat) (hf : tX9_begin σ x0 x1 = some k) : zMx l D Ca B En yX9_begin cX9_begin 2 (Option.some Jvm.ClassFile.FieldType.int) 6 170 [.ref x0, .int x1] σ N k := by
  refine zMet_x (own := RX9) hE (by decide +kernel) rfl (Nat.le_of_ble_eq_true rfl) (fun p e s m args below meth c C hx hRm => ?_)
  unfold tX9_begin at hf
  refine z_aload_n C dX9_begin_0 rfl 0 rfl ?_
  replace hf := zbind hf
  obtain ⟨v1, hv1, hf⟩ := hf
  refine gf_RX9_50 C hv1 dX9_begin_1 ?_
  replace hf := zbind hf
  obtain ⟨v2, hv2, hf⟩ := hf
  refine gf_RX9_227 C hv2 dX9_begin_4 ?_
  replace hf := zbind hf
  obtain ⟨c3, hc3, hf⟩ := hf
  obtain ⟨kc3, hc3⟩ := zck_ok hc3
  refine z_callVi (As := []) (F0 := 6) (L0 := 170) C (mX0_exists l D Ca B En C.2.2.2.2.2.2.2.1 σ N v2  _ hc3) hRm kc3 rfl kw_316 kw_10 kw_550 kw_314 kw_315 hyX0_exists (Nat.le_of_ble_eq_true rfl) (Nat.le_of_ble_eq_true rfl) rfl rfl (Nat.le_of_ble_eq_true rfl) dX9_begin_7 ?_
  have sc3 : c3.1 = σ := saX0_exists hc3
  subst sc3
  refine z_if_eq C 21 dX9_begin_10 (by decide) (fun q12 => ?_) (fun q12 => ?_)
  · rw [if_pos q12] at hf
    exact zno9 (by simp only [zno, ite_self]) hf
  · rw [if_neg q12] at hf
    cases hf
    exact z_throw 3 (by omega) C hT hl0 hx hRm (by omega) (by omega) (by decide) (by decide) rfl rfl dX9_begin_13 dX9_begin_16 dX9_begin_17 dX9_begin_20

end ZU3
