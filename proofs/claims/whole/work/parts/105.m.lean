/-! Methods: X10_toSink, X10_keptIn, X10_keptOut, X10_doneIn, X10_doneOut, X10_results, X10_keyOf, X10_valueOf, X10_ownerAmong, X10_ownerOf, X10_sinkOf, X10_emptiesKept, X10_begins, X10_laysKept, X10_overtakes, X10_arrivedAt, X10_arrivedAtSink, X10_notes, X10_closes, X10_aligns, X10_alignsAtSink, X10_keepsAhead, X10_overtakesAt, X10_overtakesAtSink, X10_isComplete, X10_completes, X10_shows -/
section ZM
variable {p : Program} {l : Launch} {e : Env} {R : Room} {s : State} {m : MethodId} {args : Array Value} {below : List Frame} {meth : Method} {c : Code} {cells slots : Nat} {Q : State → Prop} {D : va_G} {Ca : Nat → ClassId} {B : Nat} {En : State → Prop} {N : Nat}
theorem dX10_toSink_0 : decode cX10_toSink 0 = .ok (.sipush 3376, 3) := by decide +kernel
theorem dX10_toSink_3 : decode cX10_toSink 3 = .ok (.sipush 802, 3) := by decide +kernel
theorem dX10_toSink_6 : decode cX10_toSink 6 = .ok (.iload_n 0, 1) := by decide +kernel
theorem dX10_toSink_7 : decode cX10_toSink 7 = .ok (.iload_n 1, 1) := by decide +kernel
theorem dX10_toSink_8 : decode cX10_toSink 8 = .ok (.invokestatic 125, 3) := by decide +kernel
theorem dX10_toSink_11 : decode cX10_toSink 11 = .ok (.imul, 1) := by decide +kernel
theorem dX10_toSink_12 : decode cX10_toSink 12 = .ok (.iadd, 1) := by decide +kernel
theorem dX10_toSink_13 : decode cX10_toSink 13 = .ok (.ireturn, 1) := by decide +kernel
theorem hyX10_toSink : yX10_toSink.cls ≠ "java/lang/invoke/MethodHandle" ∧ yX10_toSink.cls ≠ "java/lang/invoke/VarHandle" ∧ (parseMethodDescriptor yX10_toSink.desc).map (fun d => d.parameters.length) = some 2 := ⟨by decide +kernel, by decide +kernel, by decide +kernel⟩
def fX10_toSink (σ : zS) (x0 : Int32) (x1 : Int32) : Option (zS × Int32) :=
  (fX10_channelOut σ x0 x1).bind fun c1 => some (c1.1, 3376 + (802 * c1.2))
set_option maxRecDepth 100000 in
set_option maxHeartbeats 4000000 in
theorem wfX10_toSink (C : zC p s m args meth c cX10_toSink RX10 2 D Ca B En) (hRm : zRm R 1 21 cells slots) (σ : zS) (x0 : Int32) (x1 : Int32) (τ : zS) (r : Int32) (hf : fX10_toSink σ x0 x1 = some (τ, r)) (hq : ∀ (pc : Nat) (lv : List (Nat × Value)), decode cX10_toSink pc = .ok (.ireturn, 1) → zW p l e R s m args below meth c cells slots Q D Ca B 2 τ N pc lv [.int r]) : zW p l e R s m args below meth c cells slots Q D Ca B 2 σ N 0 [(0, .int x0), (1, .int x1)] [] := by
  unfold fX10_toSink at hf
  refine z_sipush C 3376 dX10_toSink_0 (by decide) ?_
  refine z_sipush C 802 dX10_toSink_3 (by decide) ?_
  refine z_iload_n C dX10_toSink_6 rfl 0 rfl ?_
  refine z_iload_n C dX10_toSink_7 rfl 1 rfl ?_
  obtain ⟨c1, hc1, hf⟩ := zbind hf
  refine z_callSi (As := [.int x0, .int x1]) (F0 := 1) (L0 := 21) C (mX10_channelOut l D Ca B En C.2.2.2.2.2.2.2.1 σ N x0 x1 _ hc1) hRm kw_1424 kw_14 kw_1422 kw_1423 hyX10_channelOut (Nat.le_of_ble_eq_true rfl) (Nat.le_of_ble_eq_true rfl) rfl rfl (Nat.le_of_ble_eq_true rfl) dX10_toSink_8 ?_
  refine z_imul C dX10_toSink_11 ?_
  refine z_iadd C dX10_toSink_12 ?_
  cases hf
  exact hq _ _ dX10_toSink_13

theorem mX10_toSink (l : Launch) (D : va_G) (Ca : Nat → ClassId) (B : Nat) (En : State → Prop) (hE : zEk B En) (σ : zS) (N : Nat) (x0 : Int32) (x1 : Int32) (X : zS × Int32) (hf : fX10_toSink σ x0 x1 = some X) : zMi l D Ca B En yX10_toSink cX10_toSink 2 (Option.some Jvm.ClassFile.FieldType.int) 1 21 [.int x0, .int x1] σ N X.1 X.2 :=
  zMet_i (own := RX10) hE (by decide +kernel) rfl (Nat.le_of_ble_eq_true rfl) (fun p e s m args below meth c C hr hRm => wfX10_toSink C hRm σ x0 x1 X.1 X.2 hf (fun pc lv hd => zfin_i C hr hd))
theorem dX10_keptIn_0 : decode cX10_keptIn 0 = .ok (.sipush 14598, 3) := by decide +kernel
theorem dX10_keptIn_3 : decode cX10_keptIn 3 = .ok (.sipush 202, 3) := by decide +kernel
theorem dX10_keptIn_6 : decode cX10_keptIn 6 = .ok (.iload_n 0, 1) := by decide +kernel
theorem dX10_keptIn_7 : decode cX10_keptIn 7 = .ok (.iload_n 1, 1) := by decide +kernel
theorem dX10_keptIn_8 : decode cX10_keptIn 8 = .ok (.invokestatic 122, 3) := by decide +kernel
theorem dX10_keptIn_11 : decode cX10_keptIn 11 = .ok (.imul, 1) := by decide +kernel
theorem dX10_keptIn_12 : decode cX10_keptIn 12 = .ok (.iadd, 1) := by decide +kernel
theorem dX10_keptIn_13 : decode cX10_keptIn 13 = .ok (.ireturn, 1) := by decide +kernel
theorem hyX10_keptIn : yX10_keptIn.cls ≠ "java/lang/invoke/MethodHandle" ∧ yX10_keptIn.cls ≠ "java/lang/invoke/VarHandle" ∧ (parseMethodDescriptor yX10_keptIn.desc).map (fun d => d.parameters.length) = some 2 := ⟨by decide +kernel, by decide +kernel, by decide +kernel⟩
def fX10_keptIn (σ : zS) (x0 : Int32) (x1 : Int32) : Option (zS × Int32) :=
  (fX10_channelIn σ x0 x1).bind fun c1 => some (c1.1, 14598 + (202 * c1.2))
set_option maxRecDepth 100000 in
set_option maxHeartbeats 4000000 in
theorem wfX10_keptIn (C : zC p s m args meth c cX10_keptIn RX10 2 D Ca B En) (hRm : zRm R 1 21 cells slots) (σ : zS) (x0 : Int32) (x1 : Int32) (τ : zS) (r : Int32) (hf : fX10_keptIn σ x0 x1 = some (τ, r)) (hq : ∀ (pc : Nat) (lv : List (Nat × Value)), decode cX10_keptIn pc = .ok (.ireturn, 1) → zW p l e R s m args below meth c cells slots Q D Ca B 2 τ N pc lv [.int r]) : zW p l e R s m args below meth c cells slots Q D Ca B 2 σ N 0 [(0, .int x0), (1, .int x1)] [] := by
  unfold fX10_keptIn at hf
  refine z_sipush C 14598 dX10_keptIn_0 (by decide) ?_
  refine z_sipush C 202 dX10_keptIn_3 (by decide) ?_
  refine z_iload_n C dX10_keptIn_6 rfl 0 rfl ?_
  refine z_iload_n C dX10_keptIn_7 rfl 1 rfl ?_
  obtain ⟨c1, hc1, hf⟩ := zbind hf
  refine z_callSi (As := [.int x0, .int x1]) (F0 := 1) (L0 := 21) C (mX10_channelIn l D Ca B En C.2.2.2.2.2.2.2.1 σ N x0 x1 _ hc1) hRm kw_1414 kw_14 kw_1412 kw_1413 hyX10_channelIn (Nat.le_of_ble_eq_true rfl) (Nat.le_of_ble_eq_true rfl) rfl rfl (Nat.le_of_ble_eq_true rfl) dX10_keptIn_8 ?_
  refine z_imul C dX10_keptIn_11 ?_
  refine z_iadd C dX10_keptIn_12 ?_
  cases hf
  exact hq _ _ dX10_keptIn_13

theorem mX10_keptIn (l : Launch) (D : va_G) (Ca : Nat → ClassId) (B : Nat) (En : State → Prop) (hE : zEk B En) (σ : zS) (N : Nat) (x0 : Int32) (x1 : Int32) (X : zS × Int32) (hf : fX10_keptIn σ x0 x1 = some X) : zMi l D Ca B En yX10_keptIn cX10_keptIn 2 (Option.some Jvm.ClassFile.FieldType.int) 1 21 [.int x0, .int x1] σ N X.1 X.2 :=
  zMet_i (own := RX10) hE (by decide +kernel) rfl (Nat.le_of_ble_eq_true rfl) (fun p e s m args below meth c C hr hRm => wfX10_keptIn C hRm σ x0 x1 X.1 X.2 hf (fun pc lv hd => zfin_i C hr hd))
theorem dX10_keptOut_0 : decode cX10_keptOut 0 = .ok (.sipush 17830, 3) := by decide +kernel
theorem dX10_keptOut_3 : decode cX10_keptOut 3 = .ok (.sipush 802, 3) := by decide +kernel
theorem dX10_keptOut_6 : decode cX10_keptOut 6 = .ok (.iload_n 0, 1) := by decide +kernel
theorem dX10_keptOut_7 : decode cX10_keptOut 7 = .ok (.iload_n 1, 1) := by decide +kernel
theorem dX10_keptOut_8 : decode cX10_keptOut 8 = .ok (.invokestatic 125, 3) := by decide +kernel
theorem dX10_keptOut_11 : decode cX10_keptOut 11 = .ok (.imul, 1) := by decide +kernel
theorem dX10_keptOut_12 : decode cX10_keptOut 12 = .ok (.iadd, 1) := by decide +kernel
theorem dX10_keptOut_13 : decode cX10_keptOut 13 = .ok (.ireturn, 1) := by decide +kernel
theorem hyX10_keptOut : yX10_keptOut.cls ≠ "java/lang/invoke/MethodHandle" ∧ yX10_keptOut.cls ≠ "java/lang/invoke/VarHandle" ∧ (parseMethodDescriptor yX10_keptOut.desc).map (fun d => d.parameters.length) = some 2 := ⟨by decide +kernel, by decide +kernel, by decide +kernel⟩
def fX10_keptOut (σ : zS) (x0 : Int32) (x1 : Int32) : Option (zS × Int32) :=
  (fX10_channelOut σ x0 x1).bind fun c1 => some (c1.1, 17830 + (802 * c1.2))
set_option maxRecDepth 100000 in
set_option maxHeartbeats 4000000 in
theorem wfX10_keptOut (C : zC p s m args meth c cX10_keptOut RX10 2 D Ca B En) (hRm : zRm R 1 21 cells slots) (σ : zS) (x0 : Int32) (x1 : Int32) (τ : zS) (r : Int32) (hf : fX10_keptOut σ x0 x1 = some (τ, r)) (hq : ∀ (pc : Nat) (lv : List (Nat × Value)), decode cX10_keptOut pc = .ok (.ireturn, 1) → zW p l e R s m args below meth c cells slots Q D Ca B 2 τ N pc lv [.int r]) : zW p l e R s m args below meth c cells slots Q D Ca B 2 σ N 0 [(0, .int x0), (1, .int x1)] [] := by
  unfold fX10_keptOut at hf
  refine z_sipush C 17830 dX10_keptOut_0 (by decide) ?_
  refine z_sipush C 802 dX10_keptOut_3 (by decide) ?_
  refine z_iload_n C dX10_keptOut_6 rfl 0 rfl ?_
  refine z_iload_n C dX10_keptOut_7 rfl 1 rfl ?_
  obtain ⟨c1, hc1, hf⟩ := zbind hf
  refine z_callSi (As := [.int x0, .int x1]) (F0 := 1) (L0 := 21) C (mX10_channelOut l D Ca B En C.2.2.2.2.2.2.2.1 σ N x0 x1 _ hc1) hRm kw_1424 kw_14 kw_1422 kw_1423 hyX10_channelOut (Nat.le_of_ble_eq_true rfl) (Nat.le_of_ble_eq_true rfl) rfl rfl (Nat.le_of_ble_eq_true rfl) dX10_keptOut_8 ?_
  refine z_imul C dX10_keptOut_11 ?_
  refine z_iadd C dX10_keptOut_12 ?_
  cases hf
  exact hq _ _ dX10_keptOut_13

theorem mX10_keptOut (l : Launch) (D : va_G) (Ca : Nat → ClassId) (B : Nat) (En : State → Prop) (hE : zEk B En) (σ : zS) (N : Nat) (x0 : Int32) (x1 : Int32) (X : zS × Int32) (hf : fX10_keptOut σ x0 x1 = some X) : zMi l D Ca B En yX10_keptOut cX10_keptOut 2 (Option.some Jvm.ClassFile.FieldType.int) 1 21 [.int x0, .int x1] σ N X.1 X.2 :=
  zMet_i (own := RX10) hE (by decide +kernel) rfl (Nat.le_of_ble_eq_true rfl) (fun p e s m args below meth c C hr hRm => wfX10_keptOut C hRm σ x0 x1 X.1 X.2 hf (fun pc lv hd => zfin_i C hr hd))
theorem dX10_doneIn_0 : decode cX10_doneIn 0 = .ok (.sipush 24246, 3) := by decide +kernel
theorem dX10_doneIn_3 : decode cX10_doneIn 3 = .ok (.sipush 202, 3) := by decide +kernel
theorem dX10_doneIn_6 : decode cX10_doneIn 6 = .ok (.iload_n 0, 1) := by decide +kernel
theorem dX10_doneIn_7 : decode cX10_doneIn 7 = .ok (.iload_n 1, 1) := by decide +kernel
theorem dX10_doneIn_8 : decode cX10_doneIn 8 = .ok (.invokestatic 122, 3) := by decide +kernel
theorem dX10_doneIn_11 : decode cX10_doneIn 11 = .ok (.imul, 1) := by decide +kernel
theorem dX10_doneIn_12 : decode cX10_doneIn 12 = .ok (.iadd, 1) := by decide +kernel
theorem dX10_doneIn_13 : decode cX10_doneIn 13 = .ok (.ireturn, 1) := by decide +kernel
theorem hyX10_doneIn : yX10_doneIn.cls ≠ "java/lang/invoke/MethodHandle" ∧ yX10_doneIn.cls ≠ "java/lang/invoke/VarHandle" ∧ (parseMethodDescriptor yX10_doneIn.desc).map (fun d => d.parameters.length) = some 2 := ⟨by decide +kernel, by decide +kernel, by decide +kernel⟩
def fX10_doneIn (σ : zS) (x0 : Int32) (x1 : Int32) : Option (zS × Int32) :=
  (fX10_channelIn σ x0 x1).bind fun c1 => some (c1.1, 24246 + (202 * c1.2))
set_option maxRecDepth 100000 in
set_option maxHeartbeats 4000000 in
theorem wfX10_doneIn (C : zC p s m args meth c cX10_doneIn RX10 2 D Ca B En) (hRm : zRm R 1 21 cells slots) (σ : zS) (x0 : Int32) (x1 : Int32) (τ : zS) (r : Int32) (hf : fX10_doneIn σ x0 x1 = some (τ, r)) (hq : ∀ (pc : Nat) (lv : List (Nat × Value)), decode cX10_doneIn pc = .ok (.ireturn, 1) → zW p l e R s m args below meth c cells slots Q D Ca B 2 τ N pc lv [.int r]) : zW p l e R s m args below meth c cells slots Q D Ca B 2 σ N 0 [(0, .int x0), (1, .int x1)] [] := by
  unfold fX10_doneIn at hf
  refine z_sipush C 24246 dX10_doneIn_0 (by decide) ?_
  refine z_sipush C 202 dX10_doneIn_3 (by decide) ?_
  refine z_iload_n C dX10_doneIn_6 rfl 0 rfl ?_
  refine z_iload_n C dX10_doneIn_7 rfl 1 rfl ?_
  obtain ⟨c1, hc1, hf⟩ := zbind hf
  refine z_callSi (As := [.int x0, .int x1]) (F0 := 1) (L0 := 21) C (mX10_channelIn l D Ca B En C.2.2.2.2.2.2.2.1 σ N x0 x1 _ hc1) hRm kw_1414 kw_14 kw_1412 kw_1413 hyX10_channelIn (Nat.le_of_ble_eq_true rfl) (Nat.le_of_ble_eq_true rfl) rfl rfl (Nat.le_of_ble_eq_true rfl) dX10_doneIn_8 ?_
  refine z_imul C dX10_doneIn_11 ?_
  refine z_iadd C dX10_doneIn_12 ?_
  cases hf
  exact hq _ _ dX10_doneIn_13

theorem mX10_doneIn (l : Launch) (D : va_G) (Ca : Nat → ClassId) (B : Nat) (En : State → Prop) (hE : zEk B En) (σ : zS) (N : Nat) (x0 : Int32) (x1 : Int32) (X : zS × Int32) (hf : fX10_doneIn σ x0 x1 = some X) : zMi l D Ca B En yX10_doneIn cX10_doneIn 2 (Option.some Jvm.ClassFile.FieldType.int) 1 21 [.int x0, .int x1] σ N X.1 X.2 :=
  zMet_i (own := RX10) hE (by decide +kernel) rfl (Nat.le_of_ble_eq_true rfl) (fun p e s m args below meth c C hr hRm => wfX10_doneIn C hRm σ x0 x1 X.1 X.2 hf (fun pc lv hd => zfin_i C hr hd))
theorem dX10_doneOut_0 : decode cX10_doneOut 0 = .ok (.sipush 27478, 3) := by decide +kernel
theorem dX10_doneOut_3 : decode cX10_doneOut 3 = .ok (.sipush 802, 3) := by decide +kernel
theorem dX10_doneOut_6 : decode cX10_doneOut 6 = .ok (.iload_n 0, 1) := by decide +kernel
theorem dX10_doneOut_7 : decode cX10_doneOut 7 = .ok (.iload_n 1, 1) := by decide +kernel
theorem dX10_doneOut_8 : decode cX10_doneOut 8 = .ok (.invokestatic 125, 3) := by decide +kernel
theorem dX10_doneOut_11 : decode cX10_doneOut 11 = .ok (.imul, 1) := by decide +kernel
theorem dX10_doneOut_12 : decode cX10_doneOut 12 = .ok (.iadd, 1) := by decide +kernel
theorem dX10_doneOut_13 : decode cX10_doneOut 13 = .ok (.ireturn, 1) := by decide +kernel
theorem hyX10_doneOut : yX10_doneOut.cls ≠ "java/lang/invoke/MethodHandle" ∧ yX10_doneOut.cls ≠ "java/lang/invoke/VarHandle" ∧ (parseMethodDescriptor yX10_doneOut.desc).map (fun d => d.parameters.length) = some 2 := ⟨by decide +kernel, by decide +kernel, by decide +kernel⟩
def fX10_doneOut (σ : zS) (x0 : Int32) (x1 : Int32) : Option (zS × Int32) :=
  (fX10_channelOut σ x0 x1).bind fun c1 => some (c1.1, 27478 + (802 * c1.2))
set_option maxRecDepth 100000 in
set_option maxHeartbeats 4000000 in
theorem wfX10_doneOut (C : zC p s m args meth c cX10_doneOut RX10 2 D Ca B En) (hRm : zRm R 1 21 cells slots) (σ : zS) (x0 : Int32) (x1 : Int32) (τ : zS) (r : Int32) (hf : fX10_doneOut σ x0 x1 = some (τ, r)) (hq : ∀ (pc : Nat) (lv : List (Nat × Value)), decode cX10_doneOut pc = .ok (.ireturn, 1) → zW p l e R s m args below meth c cells slots Q D Ca B 2 τ N pc lv [.int r]) : zW p l e R s m args below meth c cells slots Q D Ca B 2 σ N 0 [(0, .int x0), (1, .int x1)] [] := by
  unfold fX10_doneOut at hf
  refine z_sipush C 27478 dX10_doneOut_0 (by decide) ?_
  refine z_sipush C 802 dX10_doneOut_3 (by decide) ?_
  refine z_iload_n C dX10_doneOut_6 rfl 0 rfl ?_
  refine z_iload_n C dX10_doneOut_7 rfl 1 rfl ?_
  obtain ⟨c1, hc1, hf⟩ := zbind hf
  refine z_callSi (As := [.int x0, .int x1]) (F0 := 1) (L0 := 21) C (mX10_channelOut l D Ca B En C.2.2.2.2.2.2.2.1 σ N x0 x1 _ hc1) hRm kw_1424 kw_14 kw_1422 kw_1423 hyX10_channelOut (Nat.le_of_ble_eq_true rfl) (Nat.le_of_ble_eq_true rfl) rfl rfl (Nat.le_of_ble_eq_true rfl) dX10_doneOut_8 ?_
  refine z_imul C dX10_doneOut_11 ?_
  refine z_iadd C dX10_doneOut_12 ?_
  cases hf
  exact hq _ _ dX10_doneOut_13

theorem mX10_doneOut (l : Launch) (D : va_G) (Ca : Nat → ClassId) (B : Nat) (En : State → Prop) (hE : zEk B En) (σ : zS) (N : Nat) (x0 : Int32) (x1 : Int32) (X : zS × Int32) (hf : fX10_doneOut σ x0 x1 = some X) : zMi l D Ca B En yX10_doneOut cX10_doneOut 2 (Option.some Jvm.ClassFile.FieldType.int) 1 21 [.int x0, .int x1] σ N X.1 X.2 :=
  zMet_i (own := RX10) hE (by decide +kernel) rfl (Nat.le_of_ble_eq_true rfl) (fun p e s m args below meth c C hr hRm => wfX10_doneOut C hRm σ x0 x1 X.1 X.2 hf (fun pc lv hd => zfin_i C hr hd))
theorem dX10_results_0 : decode cX10_results 0 = .ok (.iload_n 0, 1) := by decide +kernel
theorem dX10_results_1 : decode cX10_results 1 = .ok (.sipush 801, 3) := by decide +kernel
theorem dX10_results_4 : decode cX10_results 4 = .ok (.iload_n 1, 1) := by decide +kernel
theorem dX10_results_5 : decode cX10_results 5 = .ok (.imul, 1) := by decide +kernel
theorem dX10_results_6 : decode cX10_results 6 = .ok (.iadd, 1) := by decide +kernel
theorem dX10_results_7 : decode cX10_results 7 = .ok (.ireturn, 1) := by decide +kernel
theorem hyX10_results : yX10_results.cls ≠ "java/lang/invoke/MethodHandle" ∧ yX10_results.cls ≠ "java/lang/invoke/VarHandle" ∧ (parseMethodDescriptor yX10_results.desc).map (fun d => d.parameters.length) = some 2 := ⟨by decide +kernel, by decide +kernel, by decide +kernel⟩
def fX10_results (σ : zS) (x0 : Int32) (x1 : Int32) : Option (zS × Int32) :=
  some (σ, x0 + (801 * x1))
set_option maxRecDepth 100000 in
set_option maxHeartbeats 4000000 in
theorem wfX10_results (C : zC p s m args meth c cX10_results RX10 2 D Ca B En) (hRm : zRm R 0 0 cells slots) (σ : zS) (x0 : Int32) (x1 : Int32) (τ : zS) (r : Int32) (hf : fX10_results σ x0 x1 = some (τ, r)) (hq : ∀ (pc : Nat) (lv : List (Nat × Value)), decode cX10_results pc = .ok (.ireturn, 1) → zW p l e R s m args below meth c cells slots Q D Ca B 2 τ N pc lv [.int r]) : zW p l e R s m args below meth c cells slots Q D Ca B 2 σ N 0 [(0, .int x0), (1, .int x1)] [] := by
  unfold fX10_results at hf
  refine z_iload_n C dX10_results_0 rfl 0 rfl ?_
  refine z_sipush C 801 dX10_results_1 (by decide) ?_
  refine z_iload_n C dX10_results_4 rfl 1 rfl ?_
  refine z_imul C dX10_results_5 ?_
  refine z_iadd C dX10_results_6 ?_
  cases hf
  exact hq _ _ dX10_results_7

theorem mX10_results (l : Launch) (D : va_G) (Ca : Nat → ClassId) (B : Nat) (En : State → Prop) (hE : zEk B En) (σ : zS) (N : Nat) (x0 : Int32) (x1 : Int32) (X : zS × Int32) (hf : fX10_results σ x0 x1 = some X) : zMi l D Ca B En yX10_results cX10_results 2 (Option.some Jvm.ClassFile.FieldType.int) 0 0 [.int x0, .int x1] σ N X.1 X.2 :=
  zMet_i (own := RX10) hE (by decide +kernel) rfl (Nat.le_of_ble_eq_true rfl) (fun p e s m args below meth c C hr hRm => wfX10_results C hRm σ x0 x1 X.1 X.2 hf (fun pc lv hd => zfin_i C hr hd))
theorem dX10_keyOf_0 : decode cX10_keyOf 0 = .ok (.iconst 4, 1) := by decide +kernel
theorem dX10_keyOf_1 : decode cX10_keyOf 1 = .ok (.aload_n 0, 1) := by decide +kernel
theorem dX10_keyOf_2 : decode cX10_keyOf 2 = .ok (.getfield 13, 3) := by decide +kernel
theorem dX10_keyOf_5 : decode cX10_keyOf 5 = .ok (.iload_n 1, 1) := by decide +kernel
theorem dX10_keyOf_6 : decode cX10_keyOf 6 = .ok (.iaload, 1) := by decide +kernel
theorem dX10_keyOf_7 : decode cX10_keyOf 7 = .ok (.iload_n 2, 1) := by decide +kernel
theorem dX10_keyOf_8 : decode cX10_keyOf 8 = .ok (.iload_n 2, 1) := by decide +kernel
theorem dX10_keyOf_9 : decode cX10_keyOf 9 = .ok (.imul, 1) := by decide +kernel
theorem dX10_keyOf_10 : decode cX10_keyOf 10 = .ok (.iadd, 1) := by decide +kernel
theorem dX10_keyOf_11 : decode cX10_keyOf 11 = .ok (.iload_n 2, 1) := by decide +kernel
theorem dX10_keyOf_12 : decode cX10_keyOf 12 = .ok (.iconst 2, 1) := by decide +kernel
theorem dX10_keyOf_13 : decode cX10_keyOf 13 = .ok (.idiv, 1) := by decide +kernel
theorem dX10_keyOf_14 : decode cX10_keyOf 14 = .ok (.iadd, 1) := by decide +kernel
theorem dX10_keyOf_15 : decode cX10_keyOf 15 = .ok (.iconst 4, 1) := by decide +kernel
theorem dX10_keyOf_16 : decode cX10_keyOf 16 = .ok (.irem, 1) := by decide +kernel
theorem dX10_keyOf_17 : decode cX10_keyOf 17 = .ok (.imul, 1) := by decide +kernel
theorem dX10_keyOf_18 : decode cX10_keyOf 18 = .ok (.iload_n 1, 1) := by decide +kernel
theorem dX10_keyOf_19 : decode cX10_keyOf 19 = .ok (.iadd, 1) := by decide +kernel
theorem dX10_keyOf_20 : decode cX10_keyOf 20 = .ok (.ireturn, 1) := by decide +kernel
theorem hyX10_keyOf : yX10_keyOf.cls ≠ "java/lang/invoke/MethodHandle" ∧ yX10_keyOf.cls ≠ "java/lang/invoke/VarHandle" ∧ (parseMethodDescriptor yX10_keyOf.desc).map (fun d => d.parameters.length) = some 2 := ⟨by decide +kernel, by decide +kernel, by decide +kernel⟩
def fX10_keyOf (σ : zS) (x0 : Nat) (x1 : Int32) (x2 : Int32) : Option (zS × Int32) :=
  (zgR 9 4 σ x0).bind fun v1 => (zaI σ v1 x1).bind fun v2 => some (σ, (4 * (((v2 + (x2 * x2)) + (x2 / 2)) - ((v2 + (x2 * x2)) + (x2 / 2)) / 4 * 4)) + x1)
set_option maxRecDepth 100000 in
set_option maxHeartbeats 4000000 in
theorem wfX10_keyOf (C : zC p s m args meth c cX10_keyOf RX10 3 D Ca B En) (hRm : zRm R 0 0 cells slots) (σ : zS) (x0 : Nat) (x1 : Int32) (x2 : Int32) (τ : zS) (r : Int32) (hf : fX10_keyOf σ x0 x1 x2 = some (τ, r)) (hq : ∀ (pc : Nat) (lv : List (Nat × Value)), decode cX10_keyOf pc = .ok (.ireturn, 1) → zW p l e R s m args below meth c cells slots Q D Ca B 3 τ N pc lv [.int r]) : zW p l e R s m args below meth c cells slots Q D Ca B 3 σ N 0 [(0, .ref x0), (1, .int x1), (2, .int x2)] [] := by
  unfold fX10_keyOf at hf
  refine z_iconst C 4 dX10_keyOf_0 (by decide) ?_
  refine z_aload_n C dX10_keyOf_1 rfl 0 rfl ?_
  obtain ⟨v1, hv1, hf⟩ := zbind hf
  refine gf_RX10_13 C hv1 dX10_keyOf_2 ?_
  refine z_iload_n C dX10_keyOf_5 rfl 1 rfl ?_
  obtain ⟨v2, hv2, hf⟩ := zbind hf
  refine z_aI C hv2 dX10_keyOf_6 ?_
  refine z_iload_n C dX10_keyOf_7 rfl 2 rfl ?_
  refine z_iload_n C dX10_keyOf_8 rfl 2 rfl ?_
  refine z_imul C dX10_keyOf_9 ?_
  refine z_iadd C dX10_keyOf_10 ?_
  refine z_iload_n C dX10_keyOf_11 rfl 2 rfl ?_
  refine z_iconst C 2 dX10_keyOf_12 (by decide) ?_
  refine z_idiv C dX10_keyOf_13 (by decide) ?_
  refine z_iadd C dX10_keyOf_14 ?_
  refine z_iconst C 4 dX10_keyOf_15 (by decide) ?_
  refine z_irem C dX10_keyOf_16 (by decide) ?_
  refine z_imul C dX10_keyOf_17 ?_
  refine z_iload_n C dX10_keyOf_18 rfl 1 rfl ?_
  refine z_iadd C dX10_keyOf_19 ?_
  cases hf
  exact hq _ _ dX10_keyOf_20

theorem mX10_keyOf (l : Launch) (D : va_G) (Ca : Nat → ClassId) (B : Nat) (En : State → Prop) (hE : zEk B En) (σ : zS) (N : Nat) (x0 : Nat) (x1 : Int32) (x2 : Int32) (X : zS × Int32) (hf : fX10_keyOf σ x0 x1 x2 = some X) : zMi l D Ca B En yX10_keyOf cX10_keyOf 3 (Option.some Jvm.ClassFile.FieldType.int) 0 0 [.ref x0, .int x1, .int x2] σ N X.1 X.2 :=
  zMet_i (own := RX10) hE (by decide +kernel) rfl (Nat.le_of_ble_eq_true rfl) (fun p e s m args below meth c C hr hRm => wfX10_keyOf C hRm σ x0 x1 x2 X.1 X.2 hf (fun pc lv hd => zfin_i C hr hd))
theorem dX10_valueOf_0 : decode cX10_valueOf 0 = .ok (.aload_n 0, 1) := by decide +kernel
theorem dX10_valueOf_1 : decode cX10_valueOf 1 = .ok (.getfield 13, 3) := by decide +kernel
theorem dX10_valueOf_4 : decode cX10_valueOf 4 = .ok (.iload_n 1, 1) := by decide +kernel
theorem dX10_valueOf_5 : decode cX10_valueOf 5 = .ok (.iaload, 1) := by decide +kernel
theorem dX10_valueOf_6 : decode cX10_valueOf 6 = .ok (.bipush 7, 2) := by decide +kernel
theorem dX10_valueOf_8 : decode cX10_valueOf 8 = .ok (.iload_n 2, 1) := by decide +kernel
theorem dX10_valueOf_9 : decode cX10_valueOf 9 = .ok (.imul, 1) := by decide +kernel
theorem dX10_valueOf_10 : decode cX10_valueOf 10 = .ok (.iadd, 1) := by decide +kernel
theorem dX10_valueOf_11 : decode cX10_valueOf 11 = .ok (.bipush 50, 2) := by decide +kernel
theorem dX10_valueOf_13 : decode cX10_valueOf 13 = .ok (.irem, 1) := by decide +kernel
theorem dX10_valueOf_14 : decode cX10_valueOf 14 = .ok (.iconst 1, 1) := by decide +kernel
theorem dX10_valueOf_15 : decode cX10_valueOf 15 = .ok (.iadd, 1) := by decide +kernel
theorem dX10_valueOf_16 : decode cX10_valueOf 16 = .ok (.ireturn, 1) := by decide +kernel
theorem hyX10_valueOf : yX10_valueOf.cls ≠ "java/lang/invoke/MethodHandle" ∧ yX10_valueOf.cls ≠ "java/lang/invoke/VarHandle" ∧ (parseMethodDescriptor yX10_valueOf.desc).map (fun d => d.parameters.length) = some 2 := ⟨by decide +kernel, by decide +kernel, by decide +kernel⟩
def fX10_valueOf (σ : zS) (x0 : Nat) (x1 : Int32) (x2 : Int32) : Option (zS × Int32) :=
  (zgR 9 4 σ x0).bind fun v1 => (zaI σ v1 x1).bind fun v2 => some (σ, ((v2 + (7 * x2)) - (v2 + (7 * x2)) / 50 * 50) + 1)
set_option maxRecDepth 100000 in
set_option maxHeartbeats 4000000 in
theorem wfX10_valueOf (C : zC p s m args meth c cX10_valueOf RX10 3 D Ca B En) (hRm : zRm R 0 0 cells slots) (σ : zS) (x0 : Nat) (x1 : Int32) (x2 : Int32) (τ : zS) (r : Int32) (hf : fX10_valueOf σ x0 x1 x2 = some (τ, r)) (hq : ∀ (pc : Nat) (lv : List (Nat × Value)), decode cX10_valueOf pc = .ok (.ireturn, 1) → zW p l e R s m args below meth c cells slots Q D Ca B 3 τ N pc lv [.int r]) : zW p l e R s m args below meth c cells slots Q D Ca B 3 σ N 0 [(0, .ref x0), (1, .int x1), (2, .int x2)] [] := by
  unfold fX10_valueOf at hf
  refine z_aload_n C dX10_valueOf_0 rfl 0 rfl ?_
  obtain ⟨v1, hv1, hf⟩ := zbind hf
  refine gf_RX10_13 C hv1 dX10_valueOf_1 ?_
  refine z_iload_n C dX10_valueOf_4 rfl 1 rfl ?_
  obtain ⟨v2, hv2, hf⟩ := zbind hf
  refine z_aI C hv2 dX10_valueOf_5 ?_
  refine z_bipush C 7 dX10_valueOf_6 (by decide) ?_
  refine z_iload_n C dX10_valueOf_8 rfl 2 rfl ?_
  refine z_imul C dX10_valueOf_9 ?_
  refine z_iadd C dX10_valueOf_10 ?_
  refine z_bipush C 50 dX10_valueOf_11 (by decide) ?_
  refine z_irem C dX10_valueOf_13 (by decide) ?_
  refine z_iconst C 1 dX10_valueOf_14 (by decide) ?_
  refine z_iadd C dX10_valueOf_15 ?_
  cases hf
  exact hq _ _ dX10_valueOf_16

theorem mX10_valueOf (l : Launch) (D : va_G) (Ca : Nat → ClassId) (B : Nat) (En : State → Prop) (hE : zEk B En) (σ : zS) (N : Nat) (x0 : Nat) (x1 : Int32) (x2 : Int32) (X : zS × Int32) (hf : fX10_valueOf σ x0 x1 x2 = some X) : zMi l D Ca B En yX10_valueOf cX10_valueOf 3 (Option.some Jvm.ClassFile.FieldType.int) 0 0 [.ref x0, .int x1, .int x2] σ N X.1 X.2 :=
  zMet_i (own := RX10) hE (by decide +kernel) rfl (Nat.le_of_ble_eq_true rfl) (fun p e s m args below meth c C hr hRm => wfX10_valueOf C hRm σ x0 x1 x2 X.1 X.2 hf (fun pc lv hd => zfin_i C hr hd))
theorem dX10_ownerAmong_0 : decode cX10_ownerAmong 0 = .ok (.iload_n 0, 1) := by decide +kernel
theorem dX10_ownerAmong_1 : decode cX10_ownerAmong 1 = .ok (.iload_n 1, 1) := by decide +kernel
theorem dX10_ownerAmong_2 : decode cX10_ownerAmong 2 = .ok (.imul, 1) := by decide +kernel
theorem dX10_ownerAmong_3 : decode cX10_ownerAmong 3 = .ok (.bipush 8, 2) := by decide +kernel
theorem dX10_ownerAmong_5 : decode cX10_ownerAmong 5 = .ok (.idiv, 1) := by decide +kernel
theorem dX10_ownerAmong_6 : decode cX10_ownerAmong 6 = .ok (.ireturn, 1) := by decide +kernel
theorem hyX10_ownerAmong : yX10_ownerAmong.cls ≠ "java/lang/invoke/MethodHandle" ∧ yX10_ownerAmong.cls ≠ "java/lang/invoke/VarHandle" ∧ (parseMethodDescriptor yX10_ownerAmong.desc).map (fun d => d.parameters.length) = some 2 := ⟨by decide +kernel, by decide +kernel, by decide +kernel⟩
def fX10_ownerAmong (σ : zS) (x0 : Int32) (x1 : Int32) : Option (zS × Int32) :=
  some (σ, (x0 * x1) / 8)
set_option maxRecDepth 100000 in
set_option maxHeartbeats 4000000 in
theorem wfX10_ownerAmong (C : zC p s m args meth c cX10_ownerAmong RX10 2 D Ca B En) (hRm : zRm R 0 0 cells slots) (σ : zS) (x0 : Int32) (x1 : Int32) (τ : zS) (r : Int32) (hf : fX10_ownerAmong σ x0 x1 = some (τ, r)) (hq : ∀ (pc : Nat) (lv : List (Nat × Value)), decode cX10_ownerAmong pc = .ok (.ireturn, 1) → zW p l e R s m args below meth c cells slots Q D Ca B 2 τ N pc lv [.int r]) : zW p l e R s m args below meth c cells slots Q D Ca B 2 σ N 0 [(0, .int x0), (1, .int x1)] [] := by
  unfold fX10_ownerAmong at hf
  refine z_iload_n C dX10_ownerAmong_0 rfl 0 rfl ?_
  refine z_iload_n C dX10_ownerAmong_1 rfl 1 rfl ?_
  refine z_imul C dX10_ownerAmong_2 ?_
  refine z_bipush C 8 dX10_ownerAmong_3 (by decide) ?_
  refine z_idiv C dX10_ownerAmong_5 (by decide) ?_
  cases hf
  exact hq _ _ dX10_ownerAmong_6

theorem mX10_ownerAmong (l : Launch) (D : va_G) (Ca : Nat → ClassId) (B : Nat) (En : State → Prop) (hE : zEk B En) (σ : zS) (N : Nat) (x0 : Int32) (x1 : Int32) (X : zS × Int32) (hf : fX10_ownerAmong σ x0 x1 = some X) : zMi l D Ca B En yX10_ownerAmong cX10_ownerAmong 2 (Option.some Jvm.ClassFile.FieldType.int) 0 0 [.int x0, .int x1] σ N X.1 X.2 :=
  zMet_i (own := RX10) hE (by decide +kernel) rfl (Nat.le_of_ble_eq_true rfl) (fun p e s m args below meth c C hr hRm => wfX10_ownerAmong C hRm σ x0 x1 X.1 X.2 hf (fun pc lv hd => zfin_i C hr hd))
theorem dX10_ownerOf_0 : decode cX10_ownerOf 0 = .ok (.iload_n 1, 1) := by decide +kernel
theorem dX10_ownerOf_1 : decode cX10_ownerOf 1 = .ok (.bipush 8, 2) := by decide +kernel
theorem dX10_ownerOf_3 : decode cX10_ownerOf 3 = .ok (.irem, 1) := by decide +kernel
theorem dX10_ownerOf_4 : decode cX10_ownerOf 4 = .ok (.aload_n 0, 1) := by decide +kernel
theorem dX10_ownerOf_5 : decode cX10_ownerOf 5 = .ok (.getfield 21, 3) := by decide +kernel
theorem dX10_ownerOf_8 : decode cX10_ownerOf 8 = .ok (.iconst 1, 1) := by decide +kernel
theorem dX10_ownerOf_9 : decode cX10_ownerOf 9 = .ok (.iaload, 1) := by decide +kernel
theorem dX10_ownerOf_10 : decode cX10_ownerOf 10 = .ok (.invokestatic 128, 3) := by decide +kernel
theorem dX10_ownerOf_13 : decode cX10_ownerOf 13 = .ok (.ireturn, 1) := by decide +kernel
theorem hyX10_ownerOf : yX10_ownerOf.cls ≠ "java/lang/invoke/MethodHandle" ∧ yX10_ownerOf.cls ≠ "java/lang/invoke/VarHandle" ∧ (parseMethodDescriptor yX10_ownerOf.desc).map (fun d => d.parameters.length) = some 1 := ⟨by decide +kernel, by decide +kernel, by decide +kernel⟩
def fX10_ownerOf (σ : zS) (x0 : Nat) (x1 : Int32) : Option (zS × Int32) :=
  (zgR 9 6 σ x0).bind fun v1 => (zaI σ v1 1).bind fun v2 => (fX10_ownerAmong σ (x1 - x1 / 8 * 8) v2).bind fun c3 => some (c3.1, c3.2)
set_option maxRecDepth 100000 in
set_option maxHeartbeats 4000000 in
theorem wfX10_ownerOf (C : zC p s m args meth c cX10_ownerOf RX10 2 D Ca B En) (hRm : zRm R 1 21 cells slots) (σ : zS) (x0 : Nat) (x1 : Int32) (τ : zS) (r : Int32) (hf : fX10_ownerOf σ x0 x1 = some (τ, r)) (hq : ∀ (pc : Nat) (lv : List (Nat × Value)), decode cX10_ownerOf pc = .ok (.ireturn, 1) → zW p l e R s m args below meth c cells slots Q D Ca B 2 τ N pc lv [.int r]) : zW p l e R s m args below meth c cells slots Q D Ca B 2 σ N 0 [(0, .ref x0), (1, .int x1)] [] := by
  unfold fX10_ownerOf at hf
  refine z_iload_n C dX10_ownerOf_0 rfl 1 rfl ?_
  refine z_bipush C 8 dX10_ownerOf_1 (by decide) ?_
  refine z_irem C dX10_ownerOf_3 (by decide) ?_
  refine z_aload_n C dX10_ownerOf_4 rfl 0 rfl ?_
  obtain ⟨v1, hv1, hf⟩ := zbind hf
  refine gf_RX10_21 C hv1 dX10_ownerOf_5 ?_
  refine z_iconst C 1 dX10_ownerOf_8 (by decide) ?_
  obtain ⟨v2, hv2, hf⟩ := zbind hf
  refine z_aI C hv2 dX10_ownerOf_9 ?_
  obtain ⟨c3, hc3, hf⟩ := zbind hf
  refine z_callSi (As := [.int (x1 - x1 / 8 * 8), .int v2]) (F0 := 1) (L0 := 21) C (mX10_ownerAmong l D Ca B En C.2.2.2.2.2.2.2.1 σ N (x1 - x1 / 8 * 8) v2 _ hc3) hRm kw_1461 kw_14 kw_1459 kw_1460 hyX10_ownerAmong (Nat.le_of_ble_eq_true rfl) (Nat.le_of_ble_eq_true rfl) rfl rfl (Nat.le_of_ble_eq_true rfl) dX10_ownerOf_10 ?_
  cases hf
  exact hq _ _ dX10_ownerOf_13

theorem mX10_ownerOf (l : Launch) (D : va_G) (Ca : Nat → ClassId) (B : Nat) (En : State → Prop) (hE : zEk B En) (σ : zS) (N : Nat) (x0 : Nat) (x1 : Int32) (X : zS × Int32) (hf : fX10_ownerOf σ x0 x1 = some X) : zMi l D Ca B En yX10_ownerOf cX10_ownerOf 2 (Option.some Jvm.ClassFile.FieldType.int) 1 21 [.ref x0, .int x1] σ N X.1 X.2 :=
  zMet_i (own := RX10) hE (by decide +kernel) rfl (Nat.le_of_ble_eq_true rfl) (fun p e s m args below meth c C hr hRm => wfX10_ownerOf C hRm σ x0 x1 X.1 X.2 hf (fun pc lv hd => zfin_i C hr hd))
theorem dX10_sinkOf_0 : decode cX10_sinkOf 0 = .ok (.iload_n 1, 1) := by decide +kernel
theorem dX10_sinkOf_1 : decode cX10_sinkOf 1 = .ok (.iconst 4, 1) := by decide +kernel
theorem dX10_sinkOf_2 : decode cX10_sinkOf 2 = .ok (.idiv, 1) := by decide +kernel
theorem dX10_sinkOf_3 : decode cX10_sinkOf 3 = .ok (.aload_n 0, 1) := by decide +kernel
theorem dX10_sinkOf_4 : decode cX10_sinkOf 4 = .ok (.getfield 78, 3) := by decide +kernel
theorem dX10_sinkOf_7 : decode cX10_sinkOf 7 = .ok (.irem, 1) := by decide +kernel
theorem dX10_sinkOf_8 : decode cX10_sinkOf 8 = .ok (.ireturn, 1) := by decide +kernel
theorem hyX10_sinkOf : yX10_sinkOf.cls ≠ "java/lang/invoke/MethodHandle" ∧ yX10_sinkOf.cls ≠ "java/lang/invoke/VarHandle" ∧ (parseMethodDescriptor yX10_sinkOf.desc).map (fun d => d.parameters.length) = some 1 := ⟨by decide +kernel, by decide +kernel, by decide +kernel⟩
def fX10_sinkOf (σ : zS) (x0 : Nat) (x1 : Int32) : Option (zS × Int32) :=
  (zgI 9 2 σ x0).bind fun v1 => (znz v1).bind fun d2 => some (σ, (x1 / 4) - (x1 / 4) / v1 * v1)
set_option maxRecDepth 100000 in
set_option maxHeartbeats 4000000 in
theorem wfX10_sinkOf (C : zC p s m args meth c cX10_sinkOf RX10 2 D Ca B En) (hRm : zRm R 0 0 cells slots) (σ : zS) (x0 : Nat) (x1 : Int32) (τ : zS) (r : Int32) (hf : fX10_sinkOf σ x0 x1 = some (τ, r)) (hq : ∀ (pc : Nat) (lv : List (Nat × Value)), decode cX10_sinkOf pc = .ok (.ireturn, 1) → zW p l e R s m args below meth c cells slots Q D Ca B 2 τ N pc lv [.int r]) : zW p l e R s m args below meth c cells slots Q D Ca B 2 σ N 0 [(0, .ref x0), (1, .int x1)] [] := by
  unfold fX10_sinkOf at hf
  refine z_iload_n C dX10_sinkOf_0 rfl 1 rfl ?_
  refine z_iconst C 4 dX10_sinkOf_1 (by decide) ?_
  refine z_idiv C dX10_sinkOf_2 (by decide) ?_
  refine z_aload_n C dX10_sinkOf_3 rfl 0 rfl ?_
  obtain ⟨v1, hv1, hf⟩ := zbind hf
  refine gf_RX10_78 C hv1 dX10_sinkOf_4 ?_
  obtain ⟨d2, hd2, hf⟩ := zbind hf
  refine z_irem C dX10_sinkOf_7 (znz_ok hd2) ?_
  cases hf
  exact hq _ _ dX10_sinkOf_8

theorem mX10_sinkOf (l : Launch) (D : va_G) (Ca : Nat → ClassId) (B : Nat) (En : State → Prop) (hE : zEk B En) (σ : zS) (N : Nat) (x0 : Nat) (x1 : Int32) (X : zS × Int32) (hf : fX10_sinkOf σ x0 x1 = some X) : zMi l D Ca B En yX10_sinkOf cX10_sinkOf 2 (Option.some Jvm.ClassFile.FieldType.int) 0 0 [.ref x0, .int x1] σ N X.1 X.2 :=
  zMet_i (own := RX10) hE (by decide +kernel) rfl (Nat.le_of_ble_eq_true rfl) (fun p e s m args below meth c C hr hRm => wfX10_sinkOf C hRm σ x0 x1 X.1 X.2 hf (fun pc lv hd => zfin_i C hr hd))
theorem dX10_emptiesKept_0 : decode cX10_emptiesKept 0 = .ok (.iconst 0, 1) := by decide +kernel
theorem dX10_emptiesKept_1 : decode cX10_emptiesKept 1 = .ok (.istore_n 1, 1) := by decide +kernel
theorem dX10_emptiesKept_2 : decode cX10_emptiesKept 2 = .ok (.iload_n 1, 1) := by decide +kernel
theorem dX10_emptiesKept_3 : decode cX10_emptiesKept 3 = .ok (.iconst 4, 1) := by decide +kernel
theorem dX10_emptiesKept_4 : decode cX10_emptiesKept 4 = .ok (.if_icmp .ge 53, 3) := by decide +kernel
theorem dX10_emptiesKept_7 : decode cX10_emptiesKept 7 = .ok (.iconst 0, 1) := by decide +kernel
theorem dX10_emptiesKept_8 : decode cX10_emptiesKept 8 = .ok (.istore_n 2, 1) := by decide +kernel
theorem dX10_emptiesKept_9 : decode cX10_emptiesKept 9 = .ok (.iload_n 2, 1) := by decide +kernel
theorem dX10_emptiesKept_10 : decode cX10_emptiesKept 10 = .ok (.iconst 4, 1) := by decide +kernel
theorem dX10_emptiesKept_11 : decode cX10_emptiesKept 11 = .ok (.if_icmp .ge 18, 3) := by decide +kernel
theorem dX10_emptiesKept_14 : decode cX10_emptiesKept 14 = .ok (.aload_n 0, 1) := by decide +kernel
theorem dX10_emptiesKept_15 : decode cX10_emptiesKept 15 = .ok (.iload_n 2, 1) := by decide +kernel
theorem dX10_emptiesKept_16 : decode cX10_emptiesKept 16 = .ok (.iload_n 1, 1) := by decide +kernel
theorem dX10_emptiesKept_17 : decode cX10_emptiesKept 17 = .ok (.invokestatic 134, 3) := by decide +kernel
theorem dX10_emptiesKept_20 : decode cX10_emptiesKept 20 = .ok (.invokevirtual 108, 3) := by decide +kernel
theorem dX10_emptiesKept_23 : decode cX10_emptiesKept 23 = .ok (.iinc 2 1, 3) := by decide +kernel
theorem dX10_emptiesKept_26 : decode cX10_emptiesKept 26 = .ok (.goto (-17), 3) := by decide +kernel
theorem dX10_emptiesKept_29 : decode cX10_emptiesKept 29 = .ok (.iconst 0, 1) := by decide +kernel
theorem dX10_emptiesKept_30 : decode cX10_emptiesKept 30 = .ok (.istore_n 2, 1) := by decide +kernel
theorem dX10_emptiesKept_31 : decode cX10_emptiesKept 31 = .ok (.iload_n 2, 1) := by decide +kernel
theorem dX10_emptiesKept_32 : decode cX10_emptiesKept 32 = .ok (.iconst 2, 1) := by decide +kernel
theorem dX10_emptiesKept_33 : decode cX10_emptiesKept 33 = .ok (.if_icmp .ge 18, 3) := by decide +kernel
theorem dX10_emptiesKept_36 : decode cX10_emptiesKept 36 = .ok (.aload_n 0, 1) := by decide +kernel
theorem dX10_emptiesKept_37 : decode cX10_emptiesKept 37 = .ok (.iload_n 1, 1) := by decide +kernel
theorem dX10_emptiesKept_38 : decode cX10_emptiesKept 38 = .ok (.iload_n 2, 1) := by decide +kernel
theorem dX10_emptiesKept_39 : decode cX10_emptiesKept 39 = .ok (.invokestatic 137, 3) := by decide +kernel
theorem dX10_emptiesKept_42 : decode cX10_emptiesKept 42 = .ok (.invokevirtual 108, 3) := by decide +kernel
theorem dX10_emptiesKept_45 : decode cX10_emptiesKept 45 = .ok (.iinc 2 1, 3) := by decide +kernel
theorem dX10_emptiesKept_48 : decode cX10_emptiesKept 48 = .ok (.goto (-17), 3) := by decide +kernel
theorem dX10_emptiesKept_51 : decode cX10_emptiesKept 51 = .ok (.iinc 1 1, 3) := by decide +kernel
theorem dX10_emptiesKept_54 : decode cX10_emptiesKept 54 = .ok (.goto (-52), 3) := by decide +kernel
theorem dX10_emptiesKept_57 : decode cX10_emptiesKept 57 = .ok (.return_, 1) := by decide +kernel
theorem hyX10_emptiesKept : yX10_emptiesKept.cls ≠ "java/lang/invoke/MethodHandle" ∧ yX10_emptiesKept.cls ≠ "java/lang/invoke/VarHandle" ∧ (parseMethodDescriptor yX10_emptiesKept.desc).map (fun d => d.parameters.length) = some 0 := ⟨by decide +kernel, by decide +kernel, by decide +kernel⟩
def sX10_emptiesKept_9b (x0 : Nat) (x1 : Int32) (σ : zS) (u2 : Int32) : Option ((zS × Int32) ⊕ zS) :=
  (if 4 ≤ u2 then some (.inr σ) else (fX10_keptIn σ u2 x1).bind fun c1 => (zck 9 c1.1 x0 (fX10_empties c1.1 x0 c1.2)).bind fun c2 => some (.inl (c2, u2 + 1)))
def sX10_emptiesKept_9 (x0 : Nat) (x1 : Int32) (z : (zS × Int32)) : Option ((zS × Int32) ⊕ zS) := sX10_emptiesKept_9b x0 x1 z.1 z.2
set_option maxRecDepth 100000 in
set_option maxHeartbeats 4000000 in
theorem wsX10_emptiesKept_9b (C : zC p s m args meth c cX10_emptiesKept RX10 3 D Ca B En) (hRm : zRm R 2 42 cells slots) (x0 : Nat) (x1 : Int32) (σ : zS) (u2 : Int32) (y : (zS × Int32) ⊕ zS) (hf : sX10_emptiesKept_9b x0 x1 σ u2 = some y) (hk : (∀ z : (zS × Int32), y = .inl z → zW p l e R s m args below meth c cells slots Q D Ca B 3 z.1 N 9 [(0, .ref x0), (1, .int x1), (2, .int z.2)] []) ∧ (∀ z : zS, y = .inr z → zW p l e R s m args below meth c cells slots Q D Ca B 3 z N 29 [(0, .ref x0), (1, .int x1)] [])) : zW p l e R s m args below meth c cells slots Q D Ca B 3 σ N 9 [(0, .ref x0), (1, .int x1), (2, .int u2)] [] := by
  unfold sX10_emptiesKept_9b at hf
  refine z_iload_n C dX10_emptiesKept_9 rfl 2 rfl ?_
  refine z_iconst C 4 dX10_emptiesKept_10 (by decide) ?_
  refine z_icmp_ge C 29 dX10_emptiesKept_11 (by decide) (fun q3 => ?_) (fun q3 => ?_)
  · rw [if_pos q3] at hf
    cases hf
    refine z_sub [0, 1] rfl ?_
    exact hk.2 _ rfl
  · rw [if_neg q3] at hf
    refine z_aload_n C dX10_emptiesKept_14 rfl 0 rfl ?_
    refine z_iload_n C dX10_emptiesKept_15 rfl 2 rfl ?_
    refine z_iload_n C dX10_emptiesKept_16 rfl 1 rfl ?_
    obtain ⟨c1, hc1, hf⟩ := zbind hf
    refine z_callSi (As := [.int u2, .int x1]) (F0 := 2) (L0 := 42) C (mX10_keptIn l D Ca B En C.2.2.2.2.2.2.2.1 σ N u2 x1 _ hc1) hRm kw_1411 kw_14 kw_1409 kw_1410 hyX10_keptIn (Nat.le_of_ble_eq_true rfl) (Nat.le_of_ble_eq_true rfl) rfl rfl (Nat.le_of_ble_eq_true rfl) dX10_emptiesKept_17 ?_
    obtain ⟨c2, hc2, hf⟩ := zbind hf
    obtain ⟨kc2, hc2⟩ := zck_ok hc2
    refine z_callVv (As := [.int c1.2]) (F0 := 2) (L0 := 42) C (mX10_empties l D Ca B En C.2.2.2.2.2.2.2.1 c1.1 N x0 c1.2 _ hc2) hRm kc2 rfl kw_1418 kw_14 kw_1415 kw_1417 kp_42 hyX10_empties (Nat.le_of_ble_eq_true rfl) (Nat.le_of_ble_eq_true rfl) rfl rfl (Nat.le_of_ble_eq_true rfl) dX10_emptiesKept_20 ?_
    refine z_iinc (lv2 := [(2, .int (u2 + 1)), (0, .ref x0), (1, .int x1)]) C (u2 + 1) dX10_emptiesKept_23 2 rfl rfl (by decide) rfl ?_
    refine z_goto C 9 dX10_emptiesKept_26 (by decide) ?_
    cases hf
    refine z_sub [1, 2, 0] rfl ?_
    exact hk.1 _ rfl

theorem wsX10_emptiesKept_9 (C : zC p s m args meth c cX10_emptiesKept RX10 3 D Ca B En) (hRm : zRm R 2 42 cells slots) (x0 : Nat) (x1 : Int32) (n : Nat) (z : (zS × Int32)) (x : zS) (hf : zloop (sX10_emptiesKept_9 x0 x1) n z = some x) (hk : (∀ o : zS, x = o → zW p l e R s m args below meth c cells slots Q D Ca B 3 o N 29 [(0, .ref x0), (1, .int x1)] [])) : zW p l e R s m args below meth c cells slots Q D Ca B 3 z.1 N 9 [(0, .ref x0), (1, .int x1), (2, .int z.2)] [] := by
  refine zloop_W (P := fun z : (zS × Int32) => zW p l e R s m args below meth c cells slots Q D Ca B 3 z.1 N 9 [(0, .ref x0), (1, .int x1), (2, .int z.2)] []) (K := fun x : zS => (∀ o : zS, x = o → zW p l e R s m args below meth c cells slots Q D Ca B 3 o N 29 [(0, .ref x0), (1, .int x1)] [])) ?_ n z x hf hk
  intro z y hy h1 h2
  refine wsX10_emptiesKept_9b C hRm x0 x1 z.1 z.2 y hy ⟨fun z2 e => h1 z2 e, fun o e => (h2 _ e) o rfl⟩
def sX10_emptiesKept_31b (x0 : Nat) (x1 : Int32) (σ : zS) (u2 : Int32) : Option ((zS × Int32) ⊕ zS) :=
  (if 2 ≤ u2 then some (.inr σ) else (fX10_keptOut σ x1 u2).bind fun c5 => (zck 9 c5.1 x0 (fX10_empties c5.1 x0 c5.2)).bind fun c6 => some (.inl (c6, u2 + 1)))
def sX10_emptiesKept_31 (x0 : Nat) (x1 : Int32) (z : (zS × Int32)) : Option ((zS × Int32) ⊕ zS) := sX10_emptiesKept_31b x0 x1 z.1 z.2
set_option maxRecDepth 100000 in
set_option maxHeartbeats 4000000 in
theorem wsX10_emptiesKept_31b (C : zC p s m args meth c cX10_emptiesKept RX10 3 D Ca B En) (hRm : zRm R 2 42 cells slots) (x0 : Nat) (x1 : Int32) (σ : zS) (u2 : Int32) (y : (zS × Int32) ⊕ zS) (hf : sX10_emptiesKept_31b x0 x1 σ u2 = some y) (hk : (∀ z : (zS × Int32), y = .inl z → zW p l e R s m args below meth c cells slots Q D Ca B 3 z.1 N 31 [(0, .ref x0), (1, .int x1), (2, .int z.2)] []) ∧ (∀ z : zS, y = .inr z → zW p l e R s m args below meth c cells slots Q D Ca B 3 z N 51 [(0, .ref x0), (1, .int x1)] [])) : zW p l e R s m args below meth c cells slots Q D Ca B 3 σ N 31 [(0, .ref x0), (1, .int x1), (2, .int u2)] [] := by
  unfold sX10_emptiesKept_31b at hf
  refine z_iload_n C dX10_emptiesKept_31 rfl 2 rfl ?_
  refine z_iconst C 2 dX10_emptiesKept_32 (by decide) ?_
  refine z_icmp_ge C 51 dX10_emptiesKept_33 (by decide) (fun q7 => ?_) (fun q7 => ?_)
  · rw [if_pos q7] at hf
    cases hf
    refine z_sub [0, 1] rfl ?_
    exact hk.2 _ rfl
  · rw [if_neg q7] at hf
    refine z_aload_n C dX10_emptiesKept_36 rfl 0 rfl ?_
    refine z_iload_n C dX10_emptiesKept_37 rfl 1 rfl ?_
    refine z_iload_n C dX10_emptiesKept_38 rfl 2 rfl ?_
    obtain ⟨c5, hc5, hf⟩ := zbind hf
    refine z_callSi (As := [.int x1, .int u2]) (F0 := 2) (L0 := 42) C (mX10_keptOut l D Ca B En C.2.2.2.2.2.2.2.1 σ N x1 u2 _ hc5) hRm kw_1421 kw_14 kw_1419 kw_1420 hyX10_keptOut (Nat.le_of_ble_eq_true rfl) (Nat.le_of_ble_eq_true rfl) rfl rfl (Nat.le_of_ble_eq_true rfl) dX10_emptiesKept_39 ?_
    obtain ⟨c6, hc6, hf⟩ := zbind hf
    obtain ⟨kc6, hc6⟩ := zck_ok hc6
    refine z_callVv (As := [.int c5.2]) (F0 := 2) (L0 := 42) C (mX10_empties l D Ca B En C.2.2.2.2.2.2.2.1 c5.1 N x0 c5.2 _ hc6) hRm kc6 rfl kw_1418 kw_14 kw_1415 kw_1417 kp_42 hyX10_empties (Nat.le_of_ble_eq_true rfl) (Nat.le_of_ble_eq_true rfl) rfl rfl (Nat.le_of_ble_eq_true rfl) dX10_emptiesKept_42 ?_
    refine z_iinc (lv2 := [(2, .int (u2 + 1)), (0, .ref x0), (1, .int x1)]) C (u2 + 1) dX10_emptiesKept_45 2 rfl rfl (by decide) rfl ?_
    refine z_goto C 31 dX10_emptiesKept_48 (by decide) ?_
    cases hf
    refine z_sub [1, 2, 0] rfl ?_
    exact hk.1 _ rfl

theorem wsX10_emptiesKept_31 (C : zC p s m args meth c cX10_emptiesKept RX10 3 D Ca B En) (hRm : zRm R 2 42 cells slots) (x0 : Nat) (x1 : Int32) (n : Nat) (z : (zS × Int32)) (x : zS) (hf : zloop (sX10_emptiesKept_31 x0 x1) n z = some x) (hk : (∀ o : zS, x = o → zW p l e R s m args below meth c cells slots Q D Ca B 3 o N 51 [(0, .ref x0), (1, .int x1)] [])) : zW p l e R s m args below meth c cells slots Q D Ca B 3 z.1 N 31 [(0, .ref x0), (1, .int x1), (2, .int z.2)] [] := by
  refine zloop_W (P := fun z : (zS × Int32) => zW p l e R s m args below meth c cells slots Q D Ca B 3 z.1 N 31 [(0, .ref x0), (1, .int x1), (2, .int z.2)] []) (K := fun x : zS => (∀ o : zS, x = o → zW p l e R s m args below meth c cells slots Q D Ca B 3 o N 51 [(0, .ref x0), (1, .int x1)] [])) ?_ n z x hf hk
  intro z y hy h1 h2
  refine wsX10_emptiesKept_31b C hRm x0 x1 z.1 z.2 y hy ⟨fun z2 e => h1 z2 e, fun o e => (h2 _ e) o rfl⟩
def sX10_emptiesKept_2b (x0 : Nat) (σ : zS) (u1 : Int32) : Option ((zS × Int32) ⊕ zS) :=
  (if 4 ≤ u1 then some (.inr σ) else (zloop (sX10_emptiesKept_9 x0 u1) zfuel (σ, 0)).bind fun o4 => (zloop (sX10_emptiesKept_31 x0 u1) zfuel (o4, 0)).bind fun o8 => some (.inl (o8, u1 + 1)))
def sX10_emptiesKept_2 (x0 : Nat) (z : (zS × Int32)) : Option ((zS × Int32) ⊕ zS) := sX10_emptiesKept_2b x0 z.1 z.2
set_option maxRecDepth 100000 in
set_option maxHeartbeats 4000000 in
theorem wsX10_emptiesKept_2b (C : zC p s m args meth c cX10_emptiesKept RX10 3 D Ca B En) (hRm : zRm R 2 42 cells slots) (x0 : Nat) (σ : zS) (u1 : Int32) (y : (zS × Int32) ⊕ zS) (hf : sX10_emptiesKept_2b x0 σ u1 = some y) (hk : (∀ z : (zS × Int32), y = .inl z → zW p l e R s m args below meth c cells slots Q D Ca B 3 z.1 N 2 [(0, .ref x0), (1, .int z.2)] []) ∧ (∀ z : zS, y = .inr z → zW p l e R s m args below meth c cells slots Q D Ca B 3 z N 57 [] [])) : zW p l e R s m args below meth c cells slots Q D Ca B 3 σ N 2 [(0, .ref x0), (1, .int u1)] [] := by
  unfold sX10_emptiesKept_2b at hf
  refine z_iload_n C dX10_emptiesKept_2 rfl 1 rfl ?_
  refine z_iconst C 4 dX10_emptiesKept_3 (by decide) ?_
  refine z_icmp_ge C 57 dX10_emptiesKept_4 (by decide) (fun q9 => ?_) (fun q9 => ?_)
  · rw [if_pos q9] at hf
    cases hf
    refine z_sub [] rfl ?_
    exact hk.2 _ rfl
  · rw [if_neg q9] at hf
    refine z_iconst C 0 dX10_emptiesKept_7 (by decide) ?_
    refine z_istore_n (lv2 := [(2, .int 0), (0, .ref x0), (1, .int u1)]) C dX10_emptiesKept_8 rfl (by decide) rfl ?_
    obtain ⟨o4, ho4, hf⟩ := zbind hf
    refine z_sub [1, 2, 0] rfl ?_
    refine wsX10_emptiesKept_9 C hRm _ _ zfuel (σ, 0) o4 ho4 ?_
    intro z9 e9
    subst e9
    refine z_iconst C 0 dX10_emptiesKept_29 (by decide) ?_
    refine z_istore_n (lv2 := [(2, .int 0), (0, .ref x0), (1, .int u1)]) C dX10_emptiesKept_30 rfl (by decide) rfl ?_
    obtain ⟨o8, ho8, hf⟩ := zbind hf
    refine z_sub [1, 2, 0] rfl ?_
    refine wsX10_emptiesKept_31 C hRm _ _ zfuel (o4, 0) o8 ho8 ?_
    intro z9 e9
    subst e9
    refine z_iinc (lv2 := [(1, .int (u1 + 1)), (0, .ref x0)]) C (u1 + 1) dX10_emptiesKept_51 1 rfl rfl (by decide) rfl ?_
    refine z_goto C 2 dX10_emptiesKept_54 (by decide) ?_
    cases hf
    refine z_sub [1, 0] rfl ?_
    exact hk.1 _ rfl

theorem wsX10_emptiesKept_2 (C : zC p s m args meth c cX10_emptiesKept RX10 3 D Ca B En) (hRm : zRm R 2 42 cells slots) (x0 : Nat) (n : Nat) (z : (zS × Int32)) (x : zS) (hf : zloop (sX10_emptiesKept_2 x0) n z = some x) (hk : (∀ o : zS, x = o → zW p l e R s m args below meth c cells slots Q D Ca B 3 o N 57 [] [])) : zW p l e R s m args below meth c cells slots Q D Ca B 3 z.1 N 2 [(0, .ref x0), (1, .int z.2)] [] := by
  refine zloop_W (P := fun z : (zS × Int32) => zW p l e R s m args below meth c cells slots Q D Ca B 3 z.1 N 2 [(0, .ref x0), (1, .int z.2)] []) (K := fun x : zS => (∀ o : zS, x = o → zW p l e R s m args below meth c cells slots Q D Ca B 3 o N 57 [] [])) ?_ n z x hf hk
  intro z y hy h1 h2
  refine wsX10_emptiesKept_2b C hRm x0 z.1 z.2 y hy ⟨fun z2 e => h1 z2 e, fun o e => (h2 _ e) o rfl⟩
def fX10_emptiesKept (σ : zS) (x0 : Nat) : Option zS :=
  (zloop (sX10_emptiesKept_2 x0) zfuel (σ, 0)).bind fun o10 => some o10
set_option maxRecDepth 100000 in
set_option maxHeartbeats 4000000 in
theorem wfX10_emptiesKept (C : zC p s m args meth c cX10_emptiesKept RX10 3 D Ca B En) (hRm : zRm R 2 42 cells slots) (σ : zS) (x0 : Nat) (τ : zS) (hf : fX10_emptiesKept σ x0 = some τ) (hq : ∀ (pc : Nat) (lv : List (Nat × Value)), decode cX10_emptiesKept pc = .ok (.return_, 1) → zW p l e R s m args below meth c cells slots Q D Ca B 3 τ N pc lv []) : zW p l e R s m args below meth c cells slots Q D Ca B 3 σ N 0 [(0, .ref x0)] [] := by
  unfold fX10_emptiesKept at hf
  refine z_iconst C 0 dX10_emptiesKept_0 (by decide) ?_
  refine z_istore_n (lv2 := [(1, .int 0), (0, .ref x0)]) C dX10_emptiesKept_1 rfl (by decide) rfl ?_
  obtain ⟨o10, ho10, hf⟩ := zbind hf
  refine z_sub [1, 0] rfl ?_
  refine wsX10_emptiesKept_2 C hRm _ zfuel (σ, 0) o10 ho10 ?_
  intro z9 e9
  subst e9
  cases hf
  exact hq _ _ dX10_emptiesKept_57

theorem mX10_emptiesKept (l : Launch) (D : va_G) (Ca : Nat → ClassId) (B : Nat) (En : State → Prop) (hE : zEk B En) (σ : zS) (N : Nat) (x0 : Nat) (X : zS) (hf : fX10_emptiesKept σ x0 = some X) : zMv l D Ca B En yX10_emptiesKept cX10_emptiesKept 3 (Option.none : Option Jvm.ClassFile.FieldType) 2 42 [.ref x0] σ N X () :=
  zMet_v (own := RX10) hE (by decide +kernel) rfl (Nat.le_of_ble_eq_true rfl) (fun p e s m args below meth c C hr hRm => wfX10_emptiesKept C hRm σ x0 X hf (fun pc lv hd => zfin_v (r := ()) C hr hd))
theorem dX10_begins_0 : decode cX10_begins 0 = .ok (.aload_n 0, 1) := by decide +kernel
theorem dX10_begins_1 : decode cX10_begins 1 = .ok (.getfield 21, 3) := by decide +kernel
theorem dX10_begins_4 : decode cX10_begins 4 = .ok (.iconst 5, 1) := by decide +kernel
theorem dX10_begins_5 : decode cX10_begins 5 = .ok (.aload_n 0, 1) := by decide +kernel
theorem dX10_begins_6 : decode cX10_begins 6 = .ok (.getfield 21, 3) := by decide +kernel
theorem dX10_begins_9 : decode cX10_begins 9 = .ok (.iconst 5, 1) := by decide +kernel
theorem dX10_begins_10 : decode cX10_begins 10 = .ok (.iaload, 1) := by decide +kernel
theorem dX10_begins_11 : decode cX10_begins 11 = .ok (.iconst 1, 1) := by decide +kernel
theorem dX10_begins_12 : decode cX10_begins 12 = .ok (.iadd, 1) := by decide +kernel
theorem dX10_begins_13 : decode cX10_begins 13 = .ok (.iastore, 1) := by decide +kernel
theorem dX10_begins_14 : decode cX10_begins 14 = .ok (.aload_n 0, 1) := by decide +kernel
theorem dX10_begins_15 : decode cX10_begins 15 = .ok (.getfield 21, 3) := by decide +kernel
theorem dX10_begins_18 : decode cX10_begins 18 = .ok (.bipush 67, 2) := by decide +kernel
theorem dX10_begins_20 : decode cX10_begins 20 = .ok (.iconst 1, 1) := by decide +kernel
theorem dX10_begins_21 : decode cX10_begins 21 = .ok (.iastore, 1) := by decide +kernel
theorem dX10_begins_22 : decode cX10_begins 22 = .ok (.aload_n 0, 1) := by decide +kernel
theorem dX10_begins_23 : decode cX10_begins 23 = .ok (.getfield 21, 3) := by decide +kernel
theorem dX10_begins_26 : decode cX10_begins 26 = .ok (.bipush 68, 2) := by decide +kernel
theorem dX10_begins_28 : decode cX10_begins 28 = .ok (.aload_n 0, 1) := by decide +kernel
theorem dX10_begins_29 : decode cX10_begins 29 = .ok (.getfield 21, 3) := by decide +kernel
theorem dX10_begins_32 : decode cX10_begins 32 = .ok (.iconst 0, 1) := by decide +kernel
theorem dX10_begins_33 : decode cX10_begins 33 = .ok (.iaload, 1) := by decide +kernel
theorem dX10_begins_34 : decode cX10_begins 34 = .ok (.iastore, 1) := by decide +kernel
theorem dX10_begins_35 : decode cX10_begins 35 = .ok (.aload_n 0, 1) := by decide +kernel
theorem dX10_begins_36 : decode cX10_begins 36 = .ok (.getfield 21, 3) := by decide +kernel
theorem dX10_begins_39 : decode cX10_begins 39 = .ok (.bipush 69, 2) := by decide +kernel
theorem dX10_begins_41 : decode cX10_begins 41 = .ok (.iload_n 1, 1) := by decide +kernel
theorem dX10_begins_42 : decode cX10_begins 42 = .ok (.iastore, 1) := by decide +kernel
theorem dX10_begins_43 : decode cX10_begins 43 = .ok (.bipush 70, 2) := by decide +kernel
theorem dX10_begins_45 : decode cX10_begins 45 = .ok (.istore_n 2, 1) := by decide +kernel
theorem dX10_begins_46 : decode cX10_begins 46 = .ok (.iload_n 2, 1) := by decide +kernel
theorem dX10_begins_47 : decode cX10_begins 47 = .ok (.bipush 118, 2) := by decide +kernel
theorem dX10_begins_49 : decode cX10_begins 49 = .ok (.if_icmp .ge 16, 3) := by decide +kernel
theorem dX10_begins_52 : decode cX10_begins 52 = .ok (.aload_n 0, 1) := by decide +kernel
theorem dX10_begins_53 : decode cX10_begins 53 = .ok (.getfield 21, 3) := by decide +kernel
theorem dX10_begins_56 : decode cX10_begins 56 = .ok (.iload_n 2, 1) := by decide +kernel
theorem dX10_begins_57 : decode cX10_begins 57 = .ok (.iconst 0, 1) := by decide +kernel
theorem dX10_begins_58 : decode cX10_begins 58 = .ok (.iastore, 1) := by decide +kernel
theorem dX10_begins_59 : decode cX10_begins 59 = .ok (.iinc 2 1, 3) := by decide +kernel
theorem dX10_begins_62 : decode cX10_begins 62 = .ok (.goto (-16), 3) := by decide +kernel
theorem dX10_begins_65 : decode cX10_begins 65 = .ok (.aload_n 0, 1) := by decide +kernel
theorem dX10_begins_66 : decode cX10_begins 66 = .ok (.invokevirtual 131, 3) := by decide +kernel
theorem dX10_begins_69 : decode cX10_begins 69 = .ok (.return_, 1) := by decide +kernel
theorem hyX10_begins : yX10_begins.cls ≠ "java/lang/invoke/MethodHandle" ∧ yX10_begins.cls ≠ "java/lang/invoke/VarHandle" ∧ (parseMethodDescriptor yX10_begins.desc).map (fun d => d.parameters.length) = some 1 := ⟨by decide +kernel, by decide +kernel, by decide +kernel⟩
def sX10_begins_46b (x0 : Nat) (σ : zS) (u2 : Int32) : Option ((zS × Int32) ⊕ zS) :=
  (if 118 ≤ u2 then some (.inr σ) else (zgR 9 6 σ x0).bind fun v13 => (zsI σ v13 u2 0).bind fun σ14 => some (.inl (σ14, u2 + 1)))
def sX10_begins_46 (x0 : Nat) (z : (zS × Int32)) : Option ((zS × Int32) ⊕ zS) := sX10_begins_46b x0 z.1 z.2
set_option maxRecDepth 100000 in
set_option maxHeartbeats 4000000 in
theorem wsX10_begins_46b (C : zC p s m args meth c cX10_begins RX10 3 D Ca B En) (hRm : zRm R 3 64 cells slots) (x0 : Nat) (σ : zS) (u2 : Int32) (y : (zS × Int32) ⊕ zS) (hf : sX10_begins_46b x0 σ u2 = some y) (hk : (∀ z : (zS × Int32), y = .inl z → zW p l e R s m args below meth c cells slots Q D Ca B 3 z.1 N 46 [(0, .ref x0), (2, .int z.2)] []) ∧ (∀ z : zS, y = .inr z → zW p l e R s m args below meth c cells slots Q D Ca B 3 z N 65 [(0, .ref x0)] [])) : zW p l e R s m args below meth c cells slots Q D Ca B 3 σ N 46 [(0, .ref x0), (2, .int u2)] [] := by
  unfold sX10_begins_46b at hf
  refine z_iload_n C dX10_begins_46 rfl 1 rfl ?_
  refine z_bipush C 118 dX10_begins_47 (by decide) ?_
  refine z_icmp_ge C 65 dX10_begins_49 (by decide) (fun q15 => ?_) (fun q15 => ?_)
  · rw [if_pos q15] at hf
    cases hf
    refine z_sub [0] rfl ?_
    exact hk.2 _ rfl
  · rw [if_neg q15] at hf
    refine z_aload_n C dX10_begins_52 rfl 0 rfl ?_
    obtain ⟨v13, hv13, hf⟩ := zbind hf
    refine gf_RX10_21 C hv13 dX10_begins_53 ?_
    refine z_iload_n C dX10_begins_56 rfl 1 rfl ?_
    refine z_iconst C 0 dX10_begins_57 (by decide) ?_
    obtain ⟨σ14, hσ14, hf⟩ := zbind hf
    refine z_sI C hσ14 dX10_begins_58 ?_
    refine z_iinc (lv2 := [(2, .int (u2 + 1)), (0, .ref x0)]) C (u2 + 1) dX10_begins_59 1 rfl rfl (by decide) rfl ?_
    refine z_goto C 46 dX10_begins_62 (by decide) ?_
    cases hf
    refine z_sub [1, 0] rfl ?_
    exact hk.1 _ rfl

theorem wsX10_begins_46 (C : zC p s m args meth c cX10_begins RX10 3 D Ca B En) (hRm : zRm R 3 64 cells slots) (x0 : Nat) (n : Nat) (z : (zS × Int32)) (x : zS) (hf : zloop (sX10_begins_46 x0) n z = some x) (hk : (∀ o : zS, x = o → zW p l e R s m args below meth c cells slots Q D Ca B 3 o N 65 [(0, .ref x0)] [])) : zW p l e R s m args below meth c cells slots Q D Ca B 3 z.1 N 46 [(0, .ref x0), (2, .int z.2)] [] := by
  refine zloop_W (P := fun z : (zS × Int32) => zW p l e R s m args below meth c cells slots Q D Ca B 3 z.1 N 46 [(0, .ref x0), (2, .int z.2)] []) (K := fun x : zS => (∀ o : zS, x = o → zW p l e R s m args below meth c cells slots Q D Ca B 3 o N 65 [(0, .ref x0)] [])) ?_ n z x hf hk
  intro z y hy h1 h2
  refine wsX10_begins_46b C hRm x0 z.1 z.2 y hy ⟨fun z2 e => h1 z2 e, fun o e => (h2 _ e) o rfl⟩
def fX10_begins (σ : zS) (x0 : Nat) (x1 : Int32) : Option zS :=
  (zgR 9 6 σ x0).bind fun v1 => (zgR 9 6 σ x0).bind fun v2 => (zaI σ v2 5).bind fun v3 => (zsI σ v1 5 (v3 + 1)).bind fun σ4 => (zgR 9 6 σ4 x0).bind fun v5 => (zsI σ4 v5 67 1).bind fun σ6 => (zgR 9 6 σ6 x0).bind fun v7 => (zgR 9 6 σ6 x0).bind fun v8 => (zaI σ6 v8 0).bind fun v9 => (zsI σ6 v7 68 v9).bind fun σ10 => (zgR 9 6 σ10 x0).bind fun v11 => (zsI σ10 v11 69 x1).bind fun σ12 => (zloop (sX10_begins_46 x0) zfuel (σ12, 70)).bind fun o16 => (zck 9 o16 x0 (fX10_emptiesKept o16 x0 )).bind fun c17 => some c17
set_option maxRecDepth 100000 in
set_option maxHeartbeats 4000000 in
theorem wfX10_begins (C : zC p s m args meth c cX10_begins RX10 3 D Ca B En) (hRm : zRm R 3 64 cells slots) (σ : zS) (x0 : Nat) (x1 : Int32) (τ : zS) (hf : fX10_begins σ x0 x1 = some τ) (hq : ∀ (pc : Nat) (lv : List (Nat × Value)), decode cX10_begins pc = .ok (.return_, 1) → zW p l e R s m args below meth c cells slots Q D Ca B 3 τ N pc lv []) : zW p l e R s m args below meth c cells slots Q D Ca B 3 σ N 0 [(0, .ref x0), (1, .int x1)] [] := by
  unfold fX10_begins at hf
  refine z_aload_n C dX10_begins_0 rfl 0 rfl ?_
  obtain ⟨v1, hv1, hf⟩ := zbind hf
  refine gf_RX10_21 C hv1 dX10_begins_1 ?_
  refine z_iconst C 5 dX10_begins_4 (by decide) ?_
  refine z_aload_n C dX10_begins_5 rfl 0 rfl ?_
  obtain ⟨v2, hv2, hf⟩ := zbind hf
  refine gf_RX10_21 C hv2 dX10_begins_6 ?_
  refine z_iconst C 5 dX10_begins_9 (by decide) ?_
  obtain ⟨v3, hv3, hf⟩ := zbind hf
  refine z_aI C hv3 dX10_begins_10 ?_
  refine z_iconst C 1 dX10_begins_11 (by decide) ?_
  refine z_iadd C dX10_begins_12 ?_
  obtain ⟨σ4, hσ4, hf⟩ := zbind hf
  refine z_sI C hσ4 dX10_begins_13 ?_
  refine z_aload_n C dX10_begins_14 rfl 0 rfl ?_
  obtain ⟨v5, hv5, hf⟩ := zbind hf
  refine gf_RX10_21 C hv5 dX10_begins_15 ?_
  refine z_bipush C 67 dX10_begins_18 (by decide) ?_
  refine z_iconst C 1 dX10_begins_20 (by decide) ?_
  obtain ⟨σ6, hσ6, hf⟩ := zbind hf
  refine z_sI C hσ6 dX10_begins_21 ?_
  refine z_aload_n C dX10_begins_22 rfl 0 rfl ?_
  obtain ⟨v7, hv7, hf⟩ := zbind hf
  refine gf_RX10_21 C hv7 dX10_begins_23 ?_
  refine z_bipush C 68 dX10_begins_26 (by decide) ?_
  refine z_aload_n C dX10_begins_28 rfl 0 rfl ?_
  obtain ⟨v8, hv8, hf⟩ := zbind hf
  refine gf_RX10_21 C hv8 dX10_begins_29 ?_
  refine z_iconst C 0 dX10_begins_32 (by decide) ?_
  obtain ⟨v9, hv9, hf⟩ := zbind hf
  refine z_aI C hv9 dX10_begins_33 ?_
  obtain ⟨σ10, hσ10, hf⟩ := zbind hf
  refine z_sI C hσ10 dX10_begins_34 ?_
  refine z_aload_n C dX10_begins_35 rfl 0 rfl ?_
  obtain ⟨v11, hv11, hf⟩ := zbind hf
  refine gf_RX10_21 C hv11 dX10_begins_36 ?_
  refine z_bipush C 69 dX10_begins_39 (by decide) ?_
  refine z_iload_n C dX10_begins_41 rfl 1 rfl ?_
  obtain ⟨σ12, hσ12, hf⟩ := zbind hf
  refine z_sI C hσ12 dX10_begins_42 ?_
  refine z_bipush C 70 dX10_begins_43 (by decide) ?_
  refine z_istore_n (lv2 := [(2, .int 70), (0, .ref x0), (1, .int x1)]) C dX10_begins_45 rfl (by decide) rfl ?_
  obtain ⟨o16, ho16, hf⟩ := zbind hf
  refine z_sub [1, 0] rfl ?_
  refine wsX10_begins_46 C hRm _ zfuel (σ12, 70) o16 ho16 ?_
  intro z9 e9
  subst e9
  refine z_aload_n C dX10_begins_65 rfl 0 rfl ?_
  obtain ⟨c17, hc17, hf⟩ := zbind hf
  obtain ⟨kc17, hc17⟩ := zck_ok hc17
  refine z_callVv (As := []) (F0 := 3) (L0 := 64) C (mX10_emptiesKept l D Ca B En C.2.2.2.2.2.2.2.1 o16 N x0  _ hc17) hRm kc17 rfl kw_1408 kw_14 kw_1405 kw_1407 kp_41 hyX10_emptiesKept (Nat.le_of_ble_eq_true rfl) (Nat.le_of_ble_eq_true rfl) rfl rfl (Nat.le_of_ble_eq_true rfl) dX10_begins_66 ?_
  cases hf
  exact hq _ _ dX10_begins_69

theorem mX10_begins (l : Launch) (D : va_G) (Ca : Nat → ClassId) (B : Nat) (En : State → Prop) (hE : zEk B En) (σ : zS) (N : Nat) (x0 : Nat) (x1 : Int32) (X : zS) (hf : fX10_begins σ x0 x1 = some X) : zMv l D Ca B En yX10_begins cX10_begins 3 (Option.none : Option Jvm.ClassFile.FieldType) 3 64 [.ref x0, .int x1] σ N X () :=
  zMet_v (own := RX10) hE (by decide +kernel) rfl (Nat.le_of_ble_eq_true rfl) (fun p e s m args below meth c C hr hRm => wfX10_begins C hRm σ x0 x1 X hf (fun pc lv hd => zfin_v (r := ()) C hr hd))
theorem dX10_laysKept_0 : decode cX10_laysKept 0 = .ok (.iconst 0, 1) := by decide +kernel
theorem dX10_laysKept_1 : decode cX10_laysKept 1 = .ok (.istore_n 1, 1) := by decide +kernel
theorem dX10_laysKept_2 : decode cX10_laysKept 2 = .ok (.iload_n 1, 1) := by decide +kernel
theorem dX10_laysKept_3 : decode cX10_laysKept 3 = .ok (.iconst 4, 1) := by decide +kernel
theorem dX10_laysKept_4 : decode cX10_laysKept 4 = .ok (.if_icmp .ge 63, 3) := by decide +kernel
theorem dX10_laysKept_7 : decode cX10_laysKept 7 = .ok (.iconst 0, 1) := by decide +kernel
theorem dX10_laysKept_8 : decode cX10_laysKept 8 = .ok (.istore_n 2, 1) := by decide +kernel
theorem dX10_laysKept_9 : decode cX10_laysKept 9 = .ok (.iload_n 2, 1) := by decide +kernel
theorem dX10_laysKept_10 : decode cX10_laysKept 10 = .ok (.iconst 4, 1) := by decide +kernel
theorem dX10_laysKept_11 : decode cX10_laysKept 11 = .ok (.if_icmp .ge 23, 3) := by decide +kernel
theorem dX10_laysKept_14 : decode cX10_laysKept 14 = .ok (.aload_n 0, 1) := by decide +kernel
theorem dX10_laysKept_15 : decode cX10_laysKept 15 = .ok (.iload_n 2, 1) := by decide +kernel
theorem dX10_laysKept_16 : decode cX10_laysKept 16 = .ok (.iload_n 1, 1) := by decide +kernel
theorem dX10_laysKept_17 : decode cX10_laysKept 17 = .ok (.invokestatic 140, 3) := by decide +kernel
theorem dX10_laysKept_20 : decode cX10_laysKept 20 = .ok (.iload_n 2, 1) := by decide +kernel
theorem dX10_laysKept_21 : decode cX10_laysKept 21 = .ok (.iload_n 1, 1) := by decide +kernel
theorem dX10_laysKept_22 : decode cX10_laysKept 22 = .ok (.invokestatic 134, 3) := by decide +kernel
theorem dX10_laysKept_25 : decode cX10_laysKept 25 = .ok (.invokevirtual 143, 3) := by decide +kernel
theorem dX10_laysKept_28 : decode cX10_laysKept 28 = .ok (.iinc 2 1, 3) := by decide +kernel
theorem dX10_laysKept_31 : decode cX10_laysKept 31 = .ok (.goto (-22), 3) := by decide +kernel
theorem dX10_laysKept_34 : decode cX10_laysKept 34 = .ok (.iconst 0, 1) := by decide +kernel
theorem dX10_laysKept_35 : decode cX10_laysKept 35 = .ok (.istore_n 2, 1) := by decide +kernel
theorem dX10_laysKept_36 : decode cX10_laysKept 36 = .ok (.iload_n 2, 1) := by decide +kernel
theorem dX10_laysKept_37 : decode cX10_laysKept 37 = .ok (.iconst 2, 1) := by decide +kernel
theorem dX10_laysKept_38 : decode cX10_laysKept 38 = .ok (.if_icmp .ge 23, 3) := by decide +kernel
theorem dX10_laysKept_41 : decode cX10_laysKept 41 = .ok (.aload_n 0, 1) := by decide +kernel
theorem dX10_laysKept_42 : decode cX10_laysKept 42 = .ok (.iload_n 1, 1) := by decide +kernel
theorem dX10_laysKept_43 : decode cX10_laysKept 43 = .ok (.iload_n 2, 1) := by decide +kernel
theorem dX10_laysKept_44 : decode cX10_laysKept 44 = .ok (.invokestatic 146, 3) := by decide +kernel
theorem dX10_laysKept_47 : decode cX10_laysKept 47 = .ok (.iload_n 1, 1) := by decide +kernel
theorem dX10_laysKept_48 : decode cX10_laysKept 48 = .ok (.iload_n 2, 1) := by decide +kernel
theorem dX10_laysKept_49 : decode cX10_laysKept 49 = .ok (.invokestatic 137, 3) := by decide +kernel
theorem dX10_laysKept_52 : decode cX10_laysKept 52 = .ok (.invokevirtual 143, 3) := by decide +kernel
theorem dX10_laysKept_55 : decode cX10_laysKept 55 = .ok (.iinc 2 1, 3) := by decide +kernel
theorem dX10_laysKept_58 : decode cX10_laysKept 58 = .ok (.goto (-22), 3) := by decide +kernel
theorem dX10_laysKept_61 : decode cX10_laysKept 61 = .ok (.iinc 1 1, 3) := by decide +kernel
theorem dX10_laysKept_64 : decode cX10_laysKept 64 = .ok (.goto (-62), 3) := by decide +kernel
theorem dX10_laysKept_67 : decode cX10_laysKept 67 = .ok (.return_, 1) := by decide +kernel
theorem hyX10_laysKept : yX10_laysKept.cls ≠ "java/lang/invoke/MethodHandle" ∧ yX10_laysKept.cls ≠ "java/lang/invoke/VarHandle" ∧ (parseMethodDescriptor yX10_laysKept.desc).map (fun d => d.parameters.length) = some 0 := ⟨by decide +kernel, by decide +kernel, by decide +kernel⟩
def sX10_laysKept_9b (x0 : Nat) (x1 : Int32) (σ : zS) (u2 : Int32) : Option ((zS × Int32) ⊕ zS) :=
  (if 4 ≤ u2 then some (.inr σ) else (fX10_doneIn σ u2 x1).bind fun c1 => (fX10_keptIn c1.1 u2 x1).bind fun c2 => (zck 9 c2.1 x0 (fX10_becomes c2.1 x0 c1.2 c2.2)).bind fun c3 => some (.inl (c3, u2 + 1)))
def sX10_laysKept_9 (x0 : Nat) (x1 : Int32) (z : (zS × Int32)) : Option ((zS × Int32) ⊕ zS) := sX10_laysKept_9b x0 x1 z.1 z.2
set_option maxRecDepth 100000 in
set_option maxHeartbeats 4000000 in
theorem wsX10_laysKept_9b (C : zC p s m args meth c cX10_laysKept RX10 3 D Ca B En) (hRm : zRm R 3 67 cells slots) (x0 : Nat) (x1 : Int32) (σ : zS) (u2 : Int32) (y : (zS × Int32) ⊕ zS) (hf : sX10_laysKept_9b x0 x1 σ u2 = some y) (hk : (∀ z : (zS × Int32), y = .inl z → zW p l e R s m args below meth c cells slots Q D Ca B 3 z.1 N 9 [(0, .ref x0), (1, .int x1), (2, .int z.2)] []) ∧ (∀ z : zS, y = .inr z → zW p l e R s m args below meth c cells slots Q D Ca B 3 z N 34 [(0, .ref x0), (1, .int x1)] [])) : zW p l e R s m args below meth c cells slots Q D Ca B 3 σ N 9 [(0, .ref x0), (1, .int x1), (2, .int u2)] [] := by
  unfold sX10_laysKept_9b at hf
  refine z_iload_n C dX10_laysKept_9 rfl 2 rfl ?_
  refine z_iconst C 4 dX10_laysKept_10 (by decide) ?_
  refine z_icmp_ge C 34 dX10_laysKept_11 (by decide) (fun q4 => ?_) (fun q4 => ?_)
  · rw [if_pos q4] at hf
    cases hf
    refine z_sub [0, 1] rfl ?_
    exact hk.2 _ rfl
  · rw [if_neg q4] at hf
    refine z_aload_n C dX10_laysKept_14 rfl 0 rfl ?_
    refine z_iload_n C dX10_laysKept_15 rfl 2 rfl ?_
    refine z_iload_n C dX10_laysKept_16 rfl 1 rfl ?_
    obtain ⟨c1, hc1, hf⟩ := zbind hf
    refine z_callSi (As := [.int u2, .int x1]) (F0 := 3) (L0 := 67) C (mX10_doneIn l D Ca B En C.2.2.2.2.2.2.2.1 σ N u2 x1 _ hc1) hRm kw_1571 kw_14 kw_1569 kw_1570 hyX10_doneIn (Nat.le_of_ble_eq_true rfl) (Nat.le_of_ble_eq_true rfl) rfl rfl (Nat.le_of_ble_eq_true rfl) dX10_laysKept_17 ?_
    refine z_iload_n C dX10_laysKept_20 rfl 2 rfl ?_
    refine z_iload_n C dX10_laysKept_21 rfl 1 rfl ?_
    obtain ⟨c2, hc2, hf⟩ := zbind hf
    refine z_callSi (As := [.int u2, .int x1]) (F0 := 3) (L0 := 67) C (mX10_keptIn l D Ca B En C.2.2.2.2.2.2.2.1 c1.1 N u2 x1 _ hc2) hRm kw_1411 kw_14 kw_1409 kw_1410 hyX10_keptIn (Nat.le_of_ble_eq_true rfl) (Nat.le_of_ble_eq_true rfl) rfl rfl (Nat.le_of_ble_eq_true rfl) dX10_laysKept_22 ?_
    obtain ⟨c3, hc3, hf⟩ := zbind hf
    obtain ⟨kc3, hc3⟩ := zck_ok hc3
    refine z_callVv (As := [.int c1.2, .int c2.2]) (F0 := 3) (L0 := 67) C (mX10_becomes l D Ca B En C.2.2.2.2.2.2.2.1 c2.1 N x0 c1.2 c2.2 _ hc3) hRm kc3 rfl kw_1544 kw_14 kw_1541 kw_1543 kp_69 hyX10_becomes (Nat.le_of_ble_eq_true rfl) (Nat.le_of_ble_eq_true rfl) rfl rfl (Nat.le_of_ble_eq_true rfl) dX10_laysKept_25 ?_
    refine z_iinc (lv2 := [(2, .int (u2 + 1)), (0, .ref x0), (1, .int x1)]) C (u2 + 1) dX10_laysKept_28 2 rfl rfl (by decide) rfl ?_
    refine z_goto C 9 dX10_laysKept_31 (by decide) ?_
    cases hf
    refine z_sub [1, 2, 0] rfl ?_
    exact hk.1 _ rfl

theorem wsX10_laysKept_9 (C : zC p s m args meth c cX10_laysKept RX10 3 D Ca B En) (hRm : zRm R 3 67 cells slots) (x0 : Nat) (x1 : Int32) (n : Nat) (z : (zS × Int32)) (x : zS) (hf : zloop (sX10_laysKept_9 x0 x1) n z = some x) (hk : (∀ o : zS, x = o → zW p l e R s m args below meth c cells slots Q D Ca B 3 o N 34 [(0, .ref x0), (1, .int x1)] [])) : zW p l e R s m args below meth c cells slots Q D Ca B 3 z.1 N 9 [(0, .ref x0), (1, .int x1), (2, .int z.2)] [] := by
  refine zloop_W (P := fun z : (zS × Int32) => zW p l e R s m args below meth c cells slots Q D Ca B 3 z.1 N 9 [(0, .ref x0), (1, .int x1), (2, .int z.2)] []) (K := fun x : zS => (∀ o : zS, x = o → zW p l e R s m args below meth c cells slots Q D Ca B 3 o N 34 [(0, .ref x0), (1, .int x1)] [])) ?_ n z x hf hk
  intro z y hy h1 h2
  refine wsX10_laysKept_9b C hRm x0 x1 z.1 z.2 y hy ⟨fun z2 e => h1 z2 e, fun o e => (h2 _ e) o rfl⟩
def sX10_laysKept_36b (x0 : Nat) (x1 : Int32) (σ : zS) (u2 : Int32) : Option ((zS × Int32) ⊕ zS) :=
  (if 2 ≤ u2 then some (.inr σ) else (fX10_doneOut σ x1 u2).bind fun c6 => (fX10_keptOut c6.1 x1 u2).bind fun c7 => (zck 9 c7.1 x0 (fX10_becomes c7.1 x0 c6.2 c7.2)).bind fun c8 => some (.inl (c8, u2 + 1)))
def sX10_laysKept_36 (x0 : Nat) (x1 : Int32) (z : (zS × Int32)) : Option ((zS × Int32) ⊕ zS) := sX10_laysKept_36b x0 x1 z.1 z.2
set_option maxRecDepth 100000 in
set_option maxHeartbeats 4000000 in
theorem wsX10_laysKept_36b (C : zC p s m args meth c cX10_laysKept RX10 3 D Ca B En) (hRm : zRm R 3 67 cells slots) (x0 : Nat) (x1 : Int32) (σ : zS) (u2 : Int32) (y : (zS × Int32) ⊕ zS) (hf : sX10_laysKept_36b x0 x1 σ u2 = some y) (hk : (∀ z : (zS × Int32), y = .inl z → zW p l e R s m args below meth c cells slots Q D Ca B 3 z.1 N 36 [(0, .ref x0), (1, .int x1), (2, .int z.2)] []) ∧ (∀ z : zS, y = .inr z → zW p l e R s m args below meth c cells slots Q D Ca B 3 z N 61 [(0, .ref x0), (1, .int x1)] [])) : zW p l e R s m args below meth c cells slots Q D Ca B 3 σ N 36 [(0, .ref x0), (1, .int x1), (2, .int u2)] [] := by
  unfold sX10_laysKept_36b at hf
  refine z_iload_n C dX10_laysKept_36 rfl 2 rfl ?_
  refine z_iconst C 2 dX10_laysKept_37 (by decide) ?_
  refine z_icmp_ge C 61 dX10_laysKept_38 (by decide) (fun q9 => ?_) (fun q9 => ?_)
  · rw [if_pos q9] at hf
    cases hf
    refine z_sub [0, 1] rfl ?_
    exact hk.2 _ rfl
  · rw [if_neg q9] at hf
    refine z_aload_n C dX10_laysKept_41 rfl 0 rfl ?_
    refine z_iload_n C dX10_laysKept_42 rfl 1 rfl ?_
    refine z_iload_n C dX10_laysKept_43 rfl 2 rfl ?_
    obtain ⟨c6, hc6, hf⟩ := zbind hf
    refine z_callSi (As := [.int x1, .int u2]) (F0 := 3) (L0 := 67) C (mX10_doneOut l D Ca B En C.2.2.2.2.2.2.2.1 σ N x1 u2 _ hc6) hRm kw_1574 kw_14 kw_1572 kw_1573 hyX10_doneOut (Nat.le_of_ble_eq_true rfl) (Nat.le_of_ble_eq_true rfl) rfl rfl (Nat.le_of_ble_eq_true rfl) dX10_laysKept_44 ?_
    refine z_iload_n C dX10_laysKept_47 rfl 1 rfl ?_
    refine z_iload_n C dX10_laysKept_48 rfl 2 rfl ?_
    obtain ⟨c7, hc7, hf⟩ := zbind hf
    refine z_callSi (As := [.int x1, .int u2]) (F0 := 3) (L0 := 67) C (mX10_keptOut l D Ca B En C.2.2.2.2.2.2.2.1 c6.1 N x1 u2 _ hc7) hRm kw_1421 kw_14 kw_1419 kw_1420 hyX10_keptOut (Nat.le_of_ble_eq_true rfl) (Nat.le_of_ble_eq_true rfl) rfl rfl (Nat.le_of_ble_eq_true rfl) dX10_laysKept_49 ?_
    obtain ⟨c8, hc8, hf⟩ := zbind hf
    obtain ⟨kc8, hc8⟩ := zck_ok hc8
    refine z_callVv (As := [.int c6.2, .int c7.2]) (F0 := 3) (L0 := 67) C (mX10_becomes l D Ca B En C.2.2.2.2.2.2.2.1 c7.1 N x0 c6.2 c7.2 _ hc8) hRm kc8 rfl kw_1544 kw_14 kw_1541 kw_1543 kp_69 hyX10_becomes (Nat.le_of_ble_eq_true rfl) (Nat.le_of_ble_eq_true rfl) rfl rfl (Nat.le_of_ble_eq_true rfl) dX10_laysKept_52 ?_
    refine z_iinc (lv2 := [(2, .int (u2 + 1)), (0, .ref x0), (1, .int x1)]) C (u2 + 1) dX10_laysKept_55 2 rfl rfl (by decide) rfl ?_
    refine z_goto C 36 dX10_laysKept_58 (by decide) ?_
    cases hf
    refine z_sub [1, 2, 0] rfl ?_
    exact hk.1 _ rfl

theorem wsX10_laysKept_36 (C : zC p s m args meth c cX10_laysKept RX10 3 D Ca B En) (hRm : zRm R 3 67 cells slots) (x0 : Nat) (x1 : Int32) (n : Nat) (z : (zS × Int32)) (x : zS) (hf : zloop (sX10_laysKept_36 x0 x1) n z = some x) (hk : (∀ o : zS, x = o → zW p l e R s m args below meth c cells slots Q D Ca B 3 o N 61 [(0, .ref x0), (1, .int x1)] [])) : zW p l e R s m args below meth c cells slots Q D Ca B 3 z.1 N 36 [(0, .ref x0), (1, .int x1), (2, .int z.2)] [] := by
  refine zloop_W (P := fun z : (zS × Int32) => zW p l e R s m args below meth c cells slots Q D Ca B 3 z.1 N 36 [(0, .ref x0), (1, .int x1), (2, .int z.2)] []) (K := fun x : zS => (∀ o : zS, x = o → zW p l e R s m args below meth c cells slots Q D Ca B 3 o N 61 [(0, .ref x0), (1, .int x1)] [])) ?_ n z x hf hk
  intro z y hy h1 h2
  refine wsX10_laysKept_36b C hRm x0 x1 z.1 z.2 y hy ⟨fun z2 e => h1 z2 e, fun o e => (h2 _ e) o rfl⟩
def sX10_laysKept_2b (x0 : Nat) (σ : zS) (u1 : Int32) : Option ((zS × Int32) ⊕ zS) :=
  (if 4 ≤ u1 then some (.inr σ) else (zloop (sX10_laysKept_9 x0 u1) zfuel (σ, 0)).bind fun o5 => (zloop (sX10_laysKept_36 x0 u1) zfuel (o5, 0)).bind fun o10 => some (.inl (o10, u1 + 1)))
def sX10_laysKept_2 (x0 : Nat) (z : (zS × Int32)) : Option ((zS × Int32) ⊕ zS) := sX10_laysKept_2b x0 z.1 z.2
set_option maxRecDepth 100000 in
set_option maxHeartbeats 4000000 in
theorem wsX10_laysKept_2b (C : zC p s m args meth c cX10_laysKept RX10 3 D Ca B En) (hRm : zRm R 3 67 cells slots) (x0 : Nat) (σ : zS) (u1 : Int32) (y : (zS × Int32) ⊕ zS) (hf : sX10_laysKept_2b x0 σ u1 = some y) (hk : (∀ z : (zS × Int32), y = .inl z → zW p l e R s m args below meth c cells slots Q D Ca B 3 z.1 N 2 [(0, .ref x0), (1, .int z.2)] []) ∧ (∀ z : zS, y = .inr z → zW p l e R s m args below meth c cells slots Q D Ca B 3 z N 67 [] [])) : zW p l e R s m args below meth c cells slots Q D Ca B 3 σ N 2 [(0, .ref x0), (1, .int u1)] [] := by
  unfold sX10_laysKept_2b at hf
  refine z_iload_n C dX10_laysKept_2 rfl 1 rfl ?_
  refine z_iconst C 4 dX10_laysKept_3 (by decide) ?_
  refine z_icmp_ge C 67 dX10_laysKept_4 (by decide) (fun q11 => ?_) (fun q11 => ?_)
  · rw [if_pos q11] at hf
    cases hf
    refine z_sub [] rfl ?_
    exact hk.2 _ rfl
  · rw [if_neg q11] at hf
    refine z_iconst C 0 dX10_laysKept_7 (by decide) ?_
    refine z_istore_n (lv2 := [(2, .int 0), (0, .ref x0), (1, .int u1)]) C dX10_laysKept_8 rfl (by decide) rfl ?_
    obtain ⟨o5, ho5, hf⟩ := zbind hf
    refine z_sub [1, 2, 0] rfl ?_
    refine wsX10_laysKept_9 C hRm _ _ zfuel (σ, 0) o5 ho5 ?_
    intro z9 e9
    subst e9
    refine z_iconst C 0 dX10_laysKept_34 (by decide) ?_
    refine z_istore_n (lv2 := [(2, .int 0), (0, .ref x0), (1, .int u1)]) C dX10_laysKept_35 rfl (by decide) rfl ?_
    obtain ⟨o10, ho10, hf⟩ := zbind hf
    refine z_sub [1, 2, 0] rfl ?_
    refine wsX10_laysKept_36 C hRm _ _ zfuel (o5, 0) o10 ho10 ?_
    intro z9 e9
    subst e9
    refine z_iinc (lv2 := [(1, .int (u1 + 1)), (0, .ref x0)]) C (u1 + 1) dX10_laysKept_61 1 rfl rfl (by decide) rfl ?_
    refine z_goto C 2 dX10_laysKept_64 (by decide) ?_
    cases hf
    refine z_sub [1, 0] rfl ?_
    exact hk.1 _ rfl

theorem wsX10_laysKept_2 (C : zC p s m args meth c cX10_laysKept RX10 3 D Ca B En) (hRm : zRm R 3 67 cells slots) (x0 : Nat) (n : Nat) (z : (zS × Int32)) (x : zS) (hf : zloop (sX10_laysKept_2 x0) n z = some x) (hk : (∀ o : zS, x = o → zW p l e R s m args below meth c cells slots Q D Ca B 3 o N 67 [] [])) : zW p l e R s m args below meth c cells slots Q D Ca B 3 z.1 N 2 [(0, .ref x0), (1, .int z.2)] [] := by
  refine zloop_W (P := fun z : (zS × Int32) => zW p l e R s m args below meth c cells slots Q D Ca B 3 z.1 N 2 [(0, .ref x0), (1, .int z.2)] []) (K := fun x : zS => (∀ o : zS, x = o → zW p l e R s m args below meth c cells slots Q D Ca B 3 o N 67 [] [])) ?_ n z x hf hk
  intro z y hy h1 h2
  refine wsX10_laysKept_2b C hRm x0 z.1 z.2 y hy ⟨fun z2 e => h1 z2 e, fun o e => (h2 _ e) o rfl⟩
def fX10_laysKept (σ : zS) (x0 : Nat) : Option zS :=
  (zloop (sX10_laysKept_2 x0) zfuel (σ, 0)).bind fun o12 => some o12
set_option maxRecDepth 100000 in
set_option maxHeartbeats 4000000 in
theorem wfX10_laysKept (C : zC p s m args meth c cX10_laysKept RX10 3 D Ca B En) (hRm : zRm R 3 67 cells slots) (σ : zS) (x0 : Nat) (τ : zS) (hf : fX10_laysKept σ x0 = some τ) (hq : ∀ (pc : Nat) (lv : List (Nat × Value)), decode cX10_laysKept pc = .ok (.return_, 1) → zW p l e R s m args below meth c cells slots Q D Ca B 3 τ N pc lv []) : zW p l e R s m args below meth c cells slots Q D Ca B 3 σ N 0 [(0, .ref x0)] [] := by
  unfold fX10_laysKept at hf
  refine z_iconst C 0 dX10_laysKept_0 (by decide) ?_
  refine z_istore_n (lv2 := [(1, .int 0), (0, .ref x0)]) C dX10_laysKept_1 rfl (by decide) rfl ?_
  obtain ⟨o12, ho12, hf⟩ := zbind hf
  refine z_sub [1, 0] rfl ?_
  refine wsX10_laysKept_2 C hRm _ zfuel (σ, 0) o12 ho12 ?_
  intro z9 e9
  subst e9
  cases hf
  exact hq _ _ dX10_laysKept_67

theorem mX10_laysKept (l : Launch) (D : va_G) (Ca : Nat → ClassId) (B : Nat) (En : State → Prop) (hE : zEk B En) (σ : zS) (N : Nat) (x0 : Nat) (X : zS) (hf : fX10_laysKept σ x0 = some X) : zMv l D Ca B En yX10_laysKept cX10_laysKept 3 (Option.none : Option Jvm.ClassFile.FieldType) 3 67 [.ref x0] σ N X () :=
  zMet_v (own := RX10) hE (by decide +kernel) rfl (Nat.le_of_ble_eq_true rfl) (fun p e s m args below meth c C hr hRm => wfX10_laysKept C hRm σ x0 X hf (fun pc lv hd => zfin_v (r := ()) C hr hd))
theorem dX10_overtakes_0 : decode cX10_overtakes 0 = .ok (.aload_n 0, 1) := by decide +kernel
theorem dX10_overtakes_1 : decode cX10_overtakes 1 = .ok (.getfield 21, 3) := by decide +kernel
theorem dX10_overtakes_4 : decode cX10_overtakes 4 = .ok (.bipush 67, 2) := by decide +kernel
theorem dX10_overtakes_6 : decode cX10_overtakes 6 = .ok (.iaload, 1) := by decide +kernel
theorem dX10_overtakes_7 : decode cX10_overtakes 7 = .ok (.iconst 1, 1) := by decide +kernel
theorem dX10_overtakes_8 : decode cX10_overtakes 8 = .ok (.if_icmp .ne 18, 3) := by decide +kernel
theorem dX10_overtakes_11 : decode cX10_overtakes 11 = .ok (.aload_n 0, 1) := by decide +kernel
theorem dX10_overtakes_12 : decode cX10_overtakes 12 = .ok (.getfield 21, 3) := by decide +kernel
theorem dX10_overtakes_15 : decode cX10_overtakes 15 = .ok (.bipush 69, 2) := by decide +kernel
theorem dX10_overtakes_17 : decode cX10_overtakes 17 = .ok (.iaload, 1) := by decide +kernel
theorem dX10_overtakes_18 : decode cX10_overtakes 18 = .ok (.iconst 1, 1) := by decide +kernel
theorem dX10_overtakes_19 : decode cX10_overtakes 19 = .ok (.if_icmp .ne 7, 3) := by decide +kernel
theorem dX10_overtakes_22 : decode cX10_overtakes 22 = .ok (.iconst 1, 1) := by decide +kernel
theorem dX10_overtakes_23 : decode cX10_overtakes 23 = .ok (.goto 4, 3) := by decide +kernel
theorem dX10_overtakes_26 : decode cX10_overtakes 26 = .ok (.iconst 0, 1) := by decide +kernel
theorem dX10_overtakes_27 : decode cX10_overtakes 27 = .ok (.ireturn, 1) := by decide +kernel
theorem hyX10_overtakes : yX10_overtakes.cls ≠ "java/lang/invoke/MethodHandle" ∧ yX10_overtakes.cls ≠ "java/lang/invoke/VarHandle" ∧ (parseMethodDescriptor yX10_overtakes.desc).map (fun d => d.parameters.length) = some 0 := ⟨by decide +kernel, by decide +kernel, by decide +kernel⟩
def fX10_overtakes (σ : zS) (x0 : Nat) : Option (zS × Int32) :=
  (zgR 9 6 σ x0).bind fun v1 => (zaI σ v1 67).bind fun v2 => (if v2 = 1 then (zgR 9 6 σ x0).bind fun v3 => (zaI σ v3 69).bind fun v4 => (if v4 = 1 then zrZ σ 1 else zrZ σ 0) else zrZ σ 0)
set_option maxRecDepth 100000 in
set_option maxHeartbeats 4000000 in
theorem wfX10_overtakes (C : zC p s m args meth c cX10_overtakes RX10 1 D Ca B En) (hRm : zRm R 0 0 cells slots) (σ : zS) (x0 : Nat) (τ : zS) (r : Int32) (hf : fX10_overtakes σ x0 = some (τ, r)) (hq : ∀ (pc : Nat) (lv : List (Nat × Value)), (r = 0 ∨ r = 1) → decode cX10_overtakes pc = .ok (.ireturn, 1) → zW p l e R s m args below meth c cells slots Q D Ca B 1 τ N pc lv [.int r]) : zW p l e R s m args below meth c cells slots Q D Ca B 1 σ N 0 [(0, .ref x0)] [] := by
  unfold fX10_overtakes at hf
  refine z_aload_n C dX10_overtakes_0 rfl 0 rfl ?_
  obtain ⟨v1, hv1, hf⟩ := zbind hf
  refine gf_RX10_21 C hv1 dX10_overtakes_1 ?_
  refine z_bipush C 67 dX10_overtakes_4 (by decide) ?_
  obtain ⟨v2, hv2, hf⟩ := zbind hf
  refine z_aI C hv2 dX10_overtakes_6 ?_
  refine z_iconst C 1 dX10_overtakes_7 (by decide) ?_
  refine z_icmp_ne C 26 dX10_overtakes_8 (by decide) (fun q6 => ?_) (fun q6 => ?_)
  · rw [if_neg q6] at hf
    refine z_iconst C 0 dX10_overtakes_26 (by decide) ?_
    obtain ⟨e9, b9⟩ := zrZ_ok hf
    cases e9
    exact hq _ _ b9 dX10_overtakes_27
  · rw [if_pos q6] at hf
    refine z_aload_n C dX10_overtakes_11 rfl 0 rfl ?_
    obtain ⟨v3, hv3, hf⟩ := zbind hf
    refine gf_RX10_21 C hv3 dX10_overtakes_12 ?_
    refine z_bipush C 69 dX10_overtakes_15 (by decide) ?_
    obtain ⟨v4, hv4, hf⟩ := zbind hf
    refine z_aI C hv4 dX10_overtakes_17 ?_
    refine z_iconst C 1 dX10_overtakes_18 (by decide) ?_
    refine z_icmp_ne C 26 dX10_overtakes_19 (by decide) (fun q5 => ?_) (fun q5 => ?_)
    · rw [if_neg q5] at hf
      refine z_iconst C 0 dX10_overtakes_26 (by decide) ?_
      obtain ⟨e9, b9⟩ := zrZ_ok hf
      cases e9
      exact hq _ _ b9 dX10_overtakes_27
    · rw [if_pos q5] at hf
      refine z_iconst C 1 dX10_overtakes_22 (by decide) ?_
      refine z_goto C 27 dX10_overtakes_23 (by decide) ?_
      obtain ⟨e9, b9⟩ := zrZ_ok hf
      cases e9
      exact hq _ _ b9 dX10_overtakes_27

theorem mX10_overtakes (l : Launch) (D : va_G) (Ca : Nat → ClassId) (B : Nat) (En : State → Prop) (hE : zEk B En) (σ : zS) (N : Nat) (x0 : Nat) (X : zS × Int32) (hf : fX10_overtakes σ x0 = some X) : zMi l D Ca B En yX10_overtakes cX10_overtakes 1 (Option.some Jvm.ClassFile.FieldType.boolean) 0 0 [.ref x0] σ N X.1 X.2 :=
  zMet_i (own := RX10) hE (by decide +kernel) rfl (Nat.le_of_ble_eq_true rfl) (fun p e s m args below meth c C hr hRm => wfX10_overtakes C hRm σ x0 X.1 X.2 hf (fun pc lv hb hd => zfin_z C hb hr hd))
theorem dX10_arrivedAt_0 : decode cX10_arrivedAt 0 = .ok (.iconst 0, 1) := by decide +kernel
theorem dX10_arrivedAt_1 : decode cX10_arrivedAt 1 = .ok (.istore_n 2, 1) := by decide +kernel
theorem dX10_arrivedAt_2 : decode cX10_arrivedAt 2 = .ok (.iconst 0, 1) := by decide +kernel
theorem dX10_arrivedAt_3 : decode cX10_arrivedAt 3 = .ok (.istore_n 3, 1) := by decide +kernel
theorem dX10_arrivedAt_4 : decode cX10_arrivedAt 4 = .ok (.iload_n 3, 1) := by decide +kernel
theorem dX10_arrivedAt_5 : decode cX10_arrivedAt 5 = .ok (.aload_n 0, 1) := by decide +kernel
theorem dX10_arrivedAt_6 : decode cX10_arrivedAt 6 = .ok (.getfield 75, 3) := by decide +kernel
theorem dX10_arrivedAt_9 : decode cX10_arrivedAt 9 = .ok (.if_icmp .ge 25, 3) := by decide +kernel
theorem dX10_arrivedAt_12 : decode cX10_arrivedAt 12 = .ok (.iload_n 2, 1) := by decide +kernel
theorem dX10_arrivedAt_13 : decode cX10_arrivedAt 13 = .ok (.aload_n 0, 1) := by decide +kernel
theorem dX10_arrivedAt_14 : decode cX10_arrivedAt 14 = .ok (.getfield 21, 3) := by decide +kernel
theorem dX10_arrivedAt_17 : decode cX10_arrivedAt 17 = .ok (.bipush 74, 2) := by decide +kernel
theorem dX10_arrivedAt_19 : decode cX10_arrivedAt 19 = .ok (.iload_n 3, 1) := by decide +kernel
theorem dX10_arrivedAt_20 : decode cX10_arrivedAt 20 = .ok (.iload_n 1, 1) := by decide +kernel
theorem dX10_arrivedAt_21 : decode cX10_arrivedAt 21 = .ok (.invokestatic 122, 3) := by decide +kernel
theorem dX10_arrivedAt_24 : decode cX10_arrivedAt 24 = .ok (.iadd, 1) := by decide +kernel
theorem dX10_arrivedAt_25 : decode cX10_arrivedAt 25 = .ok (.iaload, 1) := by decide +kernel
theorem dX10_arrivedAt_26 : decode cX10_arrivedAt 26 = .ok (.iadd, 1) := by decide +kernel
theorem dX10_arrivedAt_27 : decode cX10_arrivedAt 27 = .ok (.istore_n 2, 1) := by decide +kernel
theorem dX10_arrivedAt_28 : decode cX10_arrivedAt 28 = .ok (.iinc 3 1, 3) := by decide +kernel
theorem dX10_arrivedAt_31 : decode cX10_arrivedAt 31 = .ok (.goto (-27), 3) := by decide +kernel
theorem dX10_arrivedAt_34 : decode cX10_arrivedAt 34 = .ok (.iload_n 2, 1) := by decide +kernel
theorem dX10_arrivedAt_35 : decode cX10_arrivedAt 35 = .ok (.ireturn, 1) := by decide +kernel
theorem hyX10_arrivedAt : yX10_arrivedAt.cls ≠ "java/lang/invoke/MethodHandle" ∧ yX10_arrivedAt.cls ≠ "java/lang/invoke/VarHandle" ∧ (parseMethodDescriptor yX10_arrivedAt.desc).map (fun d => d.parameters.length) = some 1 := ⟨by decide +kernel, by decide +kernel, by decide +kernel⟩
def sX10_arrivedAt_4b (x0 : Nat) (x1 : Int32) (σ : zS) (u2 : Int32) (u3 : Int32) : Option ((zS × Int32 × Int32) ⊕ (zS × Int32)) :=
  (zgI 9 1 σ x0).bind fun v1 => (if v1 ≤ u3 then some (.inr (σ, u2)) else (zgR 9 6 σ x0).bind fun v2 => (fX10_channelIn σ u3 x1).bind fun c3 => (zaI c3.1 v2 (74 + c3.2)).bind fun v4 => some (.inl (c3.1, u2 + v4, u3 + 1)))
def sX10_arrivedAt_4 (x0 : Nat) (x1 : Int32) (z : (zS × Int32 × Int32)) : Option ((zS × Int32 × Int32) ⊕ (zS × Int32)) := sX10_arrivedAt_4b x0 x1 z.1 z.2.1 z.2.2
set_option maxRecDepth 100000 in
set_option maxHeartbeats 4000000 in
theorem wsX10_arrivedAt_4b (C : zC p s m args meth c cX10_arrivedAt RX10 4 D Ca B En) (hRm : zRm R 1 21 cells slots) (x0 : Nat) (x1 : Int32) (σ : zS) (u2 : Int32) (u3 : Int32) (y : (zS × Int32 × Int32) ⊕ (zS × Int32)) (hf : sX10_arrivedAt_4b x0 x1 σ u2 u3 = some y) (hk : (∀ z : (zS × Int32 × Int32), y = .inl z → zW p l e R s m args below meth c cells slots Q D Ca B 4 z.1 N 4 [(0, .ref x0), (1, .int x1), (2, .int z.2.1), (3, .int z.2.2)] []) ∧ (∀ z : (zS × Int32), y = .inr z → zW p l e R s m args below meth c cells slots Q D Ca B 4 z.1 N 34 [(2, .int z.2)] [])) : zW p l e R s m args below meth c cells slots Q D Ca B 4 σ N 4 [(0, .ref x0), (1, .int x1), (2, .int u2), (3, .int u3)] [] := by
  unfold sX10_arrivedAt_4b at hf
  refine z_iload_n C dX10_arrivedAt_4 rfl 3 rfl ?_
  refine z_aload_n C dX10_arrivedAt_5 rfl 0 rfl ?_
  obtain ⟨v1, hv1, hf⟩ := zbind hf
  refine gf_RX10_75 C hv1 dX10_arrivedAt_6 ?_
  refine z_icmp_ge C 34 dX10_arrivedAt_9 (by decide) (fun q5 => ?_) (fun q5 => ?_)
  · rw [if_pos q5] at hf
    cases hf
    refine z_sub [2] rfl ?_
    exact hk.2 _ rfl
  · rw [if_neg q5] at hf
    refine z_iload_n C dX10_arrivedAt_12 rfl 2 rfl ?_
    refine z_aload_n C dX10_arrivedAt_13 rfl 0 rfl ?_
    obtain ⟨v2, hv2, hf⟩ := zbind hf
    refine gf_RX10_21 C hv2 dX10_arrivedAt_14 ?_
    refine z_bipush C 74 dX10_arrivedAt_17 (by decide) ?_
    refine z_iload_n C dX10_arrivedAt_19 rfl 3 rfl ?_
    refine z_iload_n C dX10_arrivedAt_20 rfl 1 rfl ?_
    obtain ⟨c3, hc3, hf⟩ := zbind hf
    refine z_callSi (As := [.int u3, .int x1]) (F0 := 1) (L0 := 21) C (mX10_channelIn l D Ca B En C.2.2.2.2.2.2.2.1 σ N u3 x1 _ hc3) hRm kw_1414 kw_14 kw_1412 kw_1413 hyX10_channelIn (Nat.le_of_ble_eq_true rfl) (Nat.le_of_ble_eq_true rfl) rfl rfl (Nat.le_of_ble_eq_true rfl) dX10_arrivedAt_21 ?_
    refine z_iadd C dX10_arrivedAt_24 ?_
    obtain ⟨v4, hv4, hf⟩ := zbind hf
    refine z_aI C hv4 dX10_arrivedAt_25 ?_
    refine z_iadd C dX10_arrivedAt_26 ?_
    refine z_istore_n (lv2 := [(2, .int (u2 + v4)), (0, .ref x0), (1, .int x1), (3, .int u3)]) C dX10_arrivedAt_27 rfl (by decide) rfl ?_
    refine z_iinc (lv2 := [(3, .int (u3 + 1)), (2, .int (u2 + v4)), (0, .ref x0), (1, .int x1)]) C (u3 + 1) dX10_arrivedAt_28 3 rfl rfl (by decide) rfl ?_
    refine z_goto C 4 dX10_arrivedAt_31 (by decide) ?_
    cases hf
    refine z_sub [2, 3, 1, 0] rfl ?_
    exact hk.1 _ rfl

theorem wsX10_arrivedAt_4 (C : zC p s m args meth c cX10_arrivedAt RX10 4 D Ca B En) (hRm : zRm R 1 21 cells slots) (x0 : Nat) (x1 : Int32) (n : Nat) (z : (zS × Int32 × Int32)) (x : (zS × Int32)) (hf : zloop (sX10_arrivedAt_4 x0 x1) n z = some x) (hk : (∀ o : (zS × Int32), x = o → zW p l e R s m args below meth c cells slots Q D Ca B 4 o.1 N 34 [(2, .int o.2)] [])) : zW p l e R s m args below meth c cells slots Q D Ca B 4 z.1 N 4 [(0, .ref x0), (1, .int x1), (2, .int z.2.1), (3, .int z.2.2)] [] := by
  refine zloop_W (P := fun z : (zS × Int32 × Int32) => zW p l e R s m args below meth c cells slots Q D Ca B 4 z.1 N 4 [(0, .ref x0), (1, .int x1), (2, .int z.2.1), (3, .int z.2.2)] []) (K := fun x : (zS × Int32) => (∀ o : (zS × Int32), x = o → zW p l e R s m args below meth c cells slots Q D Ca B 4 o.1 N 34 [(2, .int o.2)] [])) ?_ n z x hf hk
  intro z y hy h1 h2
  refine wsX10_arrivedAt_4b C hRm x0 x1 z.1 z.2.1 z.2.2 y hy ⟨fun z2 e => h1 z2 e, fun o e => (h2 _ e) o rfl⟩
def fX10_arrivedAt (σ : zS) (x0 : Nat) (x1 : Int32) : Option (zS × Int32) :=
  (zloop (sX10_arrivedAt_4 x0 x1) zfuel (σ, 0, 0)).bind fun o6 => some (o6.1, o6.2)
set_option maxRecDepth 100000 in
set_option maxHeartbeats 4000000 in
theorem wfX10_arrivedAt (C : zC p s m args meth c cX10_arrivedAt RX10 4 D Ca B En) (hRm : zRm R 1 21 cells slots) (σ : zS) (x0 : Nat) (x1 : Int32) (τ : zS) (r : Int32) (hf : fX10_arrivedAt σ x0 x1 = some (τ, r)) (hq : ∀ (pc : Nat) (lv : List (Nat × Value)), decode cX10_arrivedAt pc = .ok (.ireturn, 1) → zW p l e R s m args below meth c cells slots Q D Ca B 4 τ N pc lv [.int r]) : zW p l e R s m args below meth c cells slots Q D Ca B 4 σ N 0 [(0, .ref x0), (1, .int x1)] [] := by
  unfold fX10_arrivedAt at hf
  refine z_iconst C 0 dX10_arrivedAt_0 (by decide) ?_
  refine z_istore_n (lv2 := [(2, .int 0), (0, .ref x0), (1, .int x1)]) C dX10_arrivedAt_1 rfl (by decide) rfl ?_
  refine z_iconst C 0 dX10_arrivedAt_2 (by decide) ?_
  refine z_istore_n (lv2 := [(3, .int 0), (2, .int 0), (0, .ref x0), (1, .int x1)]) C dX10_arrivedAt_3 rfl (by decide) rfl ?_
  obtain ⟨o6, ho6, hf⟩ := zbind hf
  refine z_sub [2, 3, 1, 0] rfl ?_
  refine wsX10_arrivedAt_4 C hRm _ _ zfuel (σ, 0, 0) o6 ho6 ?_
  intro z9 e9
  subst e9
  refine z_iload_n C dX10_arrivedAt_34 rfl 0 rfl ?_
  cases hf
  exact hq _ _ dX10_arrivedAt_35

theorem mX10_arrivedAt (l : Launch) (D : va_G) (Ca : Nat → ClassId) (B : Nat) (En : State → Prop) (hE : zEk B En) (σ : zS) (N : Nat) (x0 : Nat) (x1 : Int32) (X : zS × Int32) (hf : fX10_arrivedAt σ x0 x1 = some X) : zMi l D Ca B En yX10_arrivedAt cX10_arrivedAt 4 (Option.some Jvm.ClassFile.FieldType.int) 1 21 [.ref x0, .int x1] σ N X.1 X.2 :=
  zMet_i (own := RX10) hE (by decide +kernel) rfl (Nat.le_of_ble_eq_true rfl) (fun p e s m args below meth c C hr hRm => wfX10_arrivedAt C hRm σ x0 x1 X.1 X.2 hf (fun pc lv hd => zfin_i C hr hd))
theorem dX10_arrivedAtSink_0 : decode cX10_arrivedAtSink 0 = .ok (.iconst 0, 1) := by decide +kernel
theorem dX10_arrivedAtSink_1 : decode cX10_arrivedAtSink 1 = .ok (.istore_n 2, 1) := by decide +kernel
theorem dX10_arrivedAtSink_2 : decode cX10_arrivedAtSink 2 = .ok (.iconst 0, 1) := by decide +kernel
theorem dX10_arrivedAtSink_3 : decode cX10_arrivedAtSink 3 = .ok (.istore_n 3, 1) := by decide +kernel
theorem dX10_arrivedAtSink_4 : decode cX10_arrivedAtSink 4 = .ok (.iload_n 3, 1) := by decide +kernel
theorem dX10_arrivedAtSink_5 : decode cX10_arrivedAtSink 5 = .ok (.aload_n 0, 1) := by decide +kernel
theorem dX10_arrivedAtSink_6 : decode cX10_arrivedAtSink 6 = .ok (.getfield 21, 3) := by decide +kernel
theorem dX10_arrivedAtSink_9 : decode cX10_arrivedAtSink 9 = .ok (.iconst 1, 1) := by decide +kernel
theorem dX10_arrivedAtSink_10 : decode cX10_arrivedAtSink 10 = .ok (.iaload, 1) := by decide +kernel
theorem dX10_arrivedAtSink_11 : decode cX10_arrivedAtSink 11 = .ok (.if_icmp .ge 25, 3) := by decide +kernel
theorem dX10_arrivedAtSink_14 : decode cX10_arrivedAtSink 14 = .ok (.iload_n 2, 1) := by decide +kernel
theorem dX10_arrivedAtSink_15 : decode cX10_arrivedAtSink 15 = .ok (.aload_n 0, 1) := by decide +kernel
theorem dX10_arrivedAtSink_16 : decode cX10_arrivedAtSink 16 = .ok (.getfield 21, 3) := by decide +kernel
theorem dX10_arrivedAtSink_19 : decode cX10_arrivedAtSink 19 = .ok (.bipush 90, 2) := by decide +kernel
theorem dX10_arrivedAtSink_21 : decode cX10_arrivedAtSink 21 = .ok (.iload_n 3, 1) := by decide +kernel
theorem dX10_arrivedAtSink_22 : decode cX10_arrivedAtSink 22 = .ok (.iload_n 1, 1) := by decide +kernel
theorem dX10_arrivedAtSink_23 : decode cX10_arrivedAtSink 23 = .ok (.invokestatic 125, 3) := by decide +kernel
theorem dX10_arrivedAtSink_26 : decode cX10_arrivedAtSink 26 = .ok (.iadd, 1) := by decide +kernel
theorem dX10_arrivedAtSink_27 : decode cX10_arrivedAtSink 27 = .ok (.iaload, 1) := by decide +kernel
theorem dX10_arrivedAtSink_28 : decode cX10_arrivedAtSink 28 = .ok (.iadd, 1) := by decide +kernel
theorem dX10_arrivedAtSink_29 : decode cX10_arrivedAtSink 29 = .ok (.istore_n 2, 1) := by decide +kernel
theorem dX10_arrivedAtSink_30 : decode cX10_arrivedAtSink 30 = .ok (.iinc 3 1, 3) := by decide +kernel
theorem dX10_arrivedAtSink_33 : decode cX10_arrivedAtSink 33 = .ok (.goto (-29), 3) := by decide +kernel
theorem dX10_arrivedAtSink_36 : decode cX10_arrivedAtSink 36 = .ok (.iload_n 2, 1) := by decide +kernel
theorem dX10_arrivedAtSink_37 : decode cX10_arrivedAtSink 37 = .ok (.ireturn, 1) := by decide +kernel
theorem hyX10_arrivedAtSink : yX10_arrivedAtSink.cls ≠ "java/lang/invoke/MethodHandle" ∧ yX10_arrivedAtSink.cls ≠ "java/lang/invoke/VarHandle" ∧ (parseMethodDescriptor yX10_arrivedAtSink.desc).map (fun d => d.parameters.length) = some 1 := ⟨by decide +kernel, by decide +kernel, by decide +kernel⟩
def sX10_arrivedAtSink_4b (x0 : Nat) (x1 : Int32) (σ : zS) (u2 : Int32) (u3 : Int32) : Option ((zS × Int32 × Int32) ⊕ (zS × Int32)) :=
  (zgR 9 6 σ x0).bind fun v1 => (zaI σ v1 1).bind fun v2 => (if v2 ≤ u3 then some (.inr (σ, u2)) else (zgR 9 6 σ x0).bind fun v3 => (fX10_channelOut σ u3 x1).bind fun c4 => (zaI c4.1 v3 (90 + c4.2)).bind fun v5 => some (.inl (c4.1, u2 + v5, u3 + 1)))
def sX10_arrivedAtSink_4 (x0 : Nat) (x1 : Int32) (z : (zS × Int32 × Int32)) : Option ((zS × Int32 × Int32) ⊕ (zS × Int32)) := sX10_arrivedAtSink_4b x0 x1 z.1 z.2.1 z.2.2
set_option maxRecDepth 100000 in
set_option maxHeartbeats 4000000 in
theorem wsX10_arrivedAtSink_4b (C : zC p s m args meth c cX10_arrivedAtSink RX10 4 D Ca B En) (hRm : zRm R 1 21 cells slots) (x0 : Nat) (x1 : Int32) (σ : zS) (u2 : Int32) (u3 : Int32) (y : (zS × Int32 × Int32) ⊕ (zS × Int32)) (hf : sX10_arrivedAtSink_4b x0 x1 σ u2 u3 = some y) (hk : (∀ z : (zS × Int32 × Int32), y = .inl z → zW p l e R s m args below meth c cells slots Q D Ca B 4 z.1 N 4 [(0, .ref x0), (1, .int x1), (2, .int z.2.1), (3, .int z.2.2)] []) ∧ (∀ z : (zS × Int32), y = .inr z → zW p l e R s m args below meth c cells slots Q D Ca B 4 z.1 N 36 [(2, .int z.2)] [])) : zW p l e R s m args below meth c cells slots Q D Ca B 4 σ N 4 [(0, .ref x0), (1, .int x1), (2, .int u2), (3, .int u3)] [] := by
  unfold sX10_arrivedAtSink_4b at hf
  refine z_iload_n C dX10_arrivedAtSink_4 rfl 3 rfl ?_
  refine z_aload_n C dX10_arrivedAtSink_5 rfl 0 rfl ?_
  obtain ⟨v1, hv1, hf⟩ := zbind hf
  refine gf_RX10_21 C hv1 dX10_arrivedAtSink_6 ?_
  refine z_iconst C 1 dX10_arrivedAtSink_9 (by decide) ?_
  obtain ⟨v2, hv2, hf⟩ := zbind hf
  refine z_aI C hv2 dX10_arrivedAtSink_10 ?_
  refine z_icmp_ge C 36 dX10_arrivedAtSink_11 (by decide) (fun q6 => ?_) (fun q6 => ?_)
  · rw [if_pos q6] at hf
    cases hf
    refine z_sub [2] rfl ?_
    exact hk.2 _ rfl
  · rw [if_neg q6] at hf
    refine z_iload_n C dX10_arrivedAtSink_14 rfl 2 rfl ?_
    refine z_aload_n C dX10_arrivedAtSink_15 rfl 0 rfl ?_
    obtain ⟨v3, hv3, hf⟩ := zbind hf
    refine gf_RX10_21 C hv3 dX10_arrivedAtSink_16 ?_
    refine z_bipush C 90 dX10_arrivedAtSink_19 (by decide) ?_
    refine z_iload_n C dX10_arrivedAtSink_21 rfl 3 rfl ?_
    refine z_iload_n C dX10_arrivedAtSink_22 rfl 1 rfl ?_
    obtain ⟨c4, hc4, hf⟩ := zbind hf
    refine z_callSi (As := [.int u3, .int x1]) (F0 := 1) (L0 := 21) C (mX10_channelOut l D Ca B En C.2.2.2.2.2.2.2.1 σ N u3 x1 _ hc4) hRm kw_1424 kw_14 kw_1422 kw_1423 hyX10_channelOut (Nat.le_of_ble_eq_true rfl) (Nat.le_of_ble_eq_true rfl) rfl rfl (Nat.le_of_ble_eq_true rfl) dX10_arrivedAtSink_23 ?_
    refine z_iadd C dX10_arrivedAtSink_26 ?_
    obtain ⟨v5, hv5, hf⟩ := zbind hf
    refine z_aI C hv5 dX10_arrivedAtSink_27 ?_
    refine z_iadd C dX10_arrivedAtSink_28 ?_
    refine z_istore_n (lv2 := [(2, .int (u2 + v5)), (0, .ref x0), (1, .int x1), (3, .int u3)]) C dX10_arrivedAtSink_29 rfl (by decide) rfl ?_
    refine z_iinc (lv2 := [(3, .int (u3 + 1)), (2, .int (u2 + v5)), (0, .ref x0), (1, .int x1)]) C (u3 + 1) dX10_arrivedAtSink_30 3 rfl rfl (by decide) rfl ?_
    refine z_goto C 4 dX10_arrivedAtSink_33 (by decide) ?_
    cases hf
    refine z_sub [2, 3, 1, 0] rfl ?_
    exact hk.1 _ rfl

theorem wsX10_arrivedAtSink_4 (C : zC p s m args meth c cX10_arrivedAtSink RX10 4 D Ca B En) (hRm : zRm R 1 21 cells slots) (x0 : Nat) (x1 : Int32) (n : Nat) (z : (zS × Int32 × Int32)) (x : (zS × Int32)) (hf : zloop (sX10_arrivedAtSink_4 x0 x1) n z = some x) (hk : (∀ o : (zS × Int32), x = o → zW p l e R s m args below meth c cells slots Q D Ca B 4 o.1 N 36 [(2, .int o.2)] [])) : zW p l e R s m args below meth c cells slots Q D Ca B 4 z.1 N 4 [(0, .ref x0), (1, .int x1), (2, .int z.2.1), (3, .int z.2.2)] [] := by
  refine zloop_W (P := fun z : (zS × Int32 × Int32) => zW p l e R s m args below meth c cells slots Q D Ca B 4 z.1 N 4 [(0, .ref x0), (1, .int x1), (2, .int z.2.1), (3, .int z.2.2)] []) (K := fun x : (zS × Int32) => (∀ o : (zS × Int32), x = o → zW p l e R s m args below meth c cells slots Q D Ca B 4 o.1 N 36 [(2, .int o.2)] [])) ?_ n z x hf hk
  intro z y hy h1 h2
  refine wsX10_arrivedAtSink_4b C hRm x0 x1 z.1 z.2.1 z.2.2 y hy ⟨fun z2 e => h1 z2 e, fun o e => (h2 _ e) o rfl⟩
def fX10_arrivedAtSink (σ : zS) (x0 : Nat) (x1 : Int32) : Option (zS × Int32) :=
  (zloop (sX10_arrivedAtSink_4 x0 x1) zfuel (σ, 0, 0)).bind fun o7 => some (o7.1, o7.2)
set_option maxRecDepth 100000 in
set_option maxHeartbeats 4000000 in
theorem wfX10_arrivedAtSink (C : zC p s m args meth c cX10_arrivedAtSink RX10 4 D Ca B En) (hRm : zRm R 1 21 cells slots) (σ : zS) (x0 : Nat) (x1 : Int32) (τ : zS) (r : Int32) (hf : fX10_arrivedAtSink σ x0 x1 = some (τ, r)) (hq : ∀ (pc : Nat) (lv : List (Nat × Value)), decode cX10_arrivedAtSink pc = .ok (.ireturn, 1) → zW p l e R s m args below meth c cells slots Q D Ca B 4 τ N pc lv [.int r]) : zW p l e R s m args below meth c cells slots Q D Ca B 4 σ N 0 [(0, .ref x0), (1, .int x1)] [] := by
  unfold fX10_arrivedAtSink at hf
  refine z_iconst C 0 dX10_arrivedAtSink_0 (by decide) ?_
  refine z_istore_n (lv2 := [(2, .int 0), (0, .ref x0), (1, .int x1)]) C dX10_arrivedAtSink_1 rfl (by decide) rfl ?_
  refine z_iconst C 0 dX10_arrivedAtSink_2 (by decide) ?_
  refine z_istore_n (lv2 := [(3, .int 0), (2, .int 0), (0, .ref x0), (1, .int x1)]) C dX10_arrivedAtSink_3 rfl (by decide) rfl ?_
  obtain ⟨o7, ho7, hf⟩ := zbind hf
  refine z_sub [2, 3, 1, 0] rfl ?_
  refine wsX10_arrivedAtSink_4 C hRm _ _ zfuel (σ, 0, 0) o7 ho7 ?_
  intro z9 e9
  subst e9
  refine z_iload_n C dX10_arrivedAtSink_36 rfl 0 rfl ?_
  cases hf
  exact hq _ _ dX10_arrivedAtSink_37

theorem mX10_arrivedAtSink (l : Launch) (D : va_G) (Ca : Nat → ClassId) (B : Nat) (En : State → Prop) (hE : zEk B En) (σ : zS) (N : Nat) (x0 : Nat) (x1 : Int32) (X : zS × Int32) (hf : fX10_arrivedAtSink σ x0 x1 = some X) : zMi l D Ca B En yX10_arrivedAtSink cX10_arrivedAtSink 4 (Option.some Jvm.ClassFile.FieldType.int) 1 21 [.ref x0, .int x1] σ N X.1 X.2 :=
  zMet_i (own := RX10) hE (by decide +kernel) rfl (Nat.le_of_ble_eq_true rfl) (fun p e s m args below meth c C hr hRm => wfX10_arrivedAtSink C hRm σ x0 x1 X.1 X.2 hf (fun pc lv hd => zfin_i C hr hd))
theorem dX10_notes_0 : decode cX10_notes 0 = .ok (.iconst 0, 1) := by decide +kernel
theorem dX10_notes_1 : decode cX10_notes 1 = .ok (.istore_n 2, 1) := by decide +kernel
theorem dX10_notes_2 : decode cX10_notes 2 = .ok (.iload_n 2, 1) := by decide +kernel
theorem dX10_notes_3 : decode cX10_notes 3 = .ok (.bipush 16, 2) := by decide +kernel
theorem dX10_notes_5 : decode cX10_notes 5 = .ok (.if_icmp .ge 36, 3) := by decide +kernel
theorem dX10_notes_8 : decode cX10_notes 8 = .ok (.aload_n 0, 1) := by decide +kernel
theorem dX10_notes_9 : decode cX10_notes 9 = .ok (.iload_n 2, 1) := by decide +kernel
theorem dX10_notes_10 : decode cX10_notes 10 = .ok (.invokevirtual 149, 3) := by decide +kernel
theorem dX10_notes_13 : decode cX10_notes 13 = .ok (.iload_n 1, 1) := by decide +kernel
theorem dX10_notes_14 : decode cX10_notes 14 = .ok (.if_icmp .ne 21, 3) := by decide +kernel
theorem dX10_notes_17 : decode cX10_notes 17 = .ok (.aload_n 0, 1) := by decide +kernel
theorem dX10_notes_18 : decode cX10_notes 18 = .ok (.getfield 21, 3) := by decide +kernel
theorem dX10_notes_21 : decode cX10_notes 21 = .ok (.bipush 102, 2) := by decide +kernel
theorem dX10_notes_23 : decode cX10_notes 23 = .ok (.iload_n 2, 1) := by decide +kernel
theorem dX10_notes_24 : decode cX10_notes 24 = .ok (.iadd, 1) := by decide +kernel
theorem dX10_notes_25 : decode cX10_notes 25 = .ok (.aload_n 0, 1) := by decide +kernel
theorem dX10_notes_26 : decode cX10_notes 26 = .ok (.getfield 21, 3) := by decide +kernel
theorem dX10_notes_29 : decode cX10_notes 29 = .ok (.bipush 17, 2) := by decide +kernel
theorem dX10_notes_31 : decode cX10_notes 31 = .ok (.iload_n 2, 1) := by decide +kernel
theorem dX10_notes_32 : decode cX10_notes 32 = .ok (.iadd, 1) := by decide +kernel
theorem dX10_notes_33 : decode cX10_notes 33 = .ok (.iaload, 1) := by decide +kernel
theorem dX10_notes_34 : decode cX10_notes 34 = .ok (.iastore, 1) := by decide +kernel
theorem dX10_notes_35 : decode cX10_notes 35 = .ok (.iinc 2 1, 3) := by decide +kernel
theorem dX10_notes_38 : decode cX10_notes 38 = .ok (.goto (-36), 3) := by decide +kernel
theorem dX10_notes_41 : decode cX10_notes 41 = .ok (.iconst 0, 1) := by decide +kernel
theorem dX10_notes_42 : decode cX10_notes 42 = .ok (.istore_n 2, 1) := by decide +kernel
theorem dX10_notes_43 : decode cX10_notes 43 = .ok (.iload_n 2, 1) := by decide +kernel
theorem dX10_notes_44 : decode cX10_notes 44 = .ok (.aload_n 0, 1) := by decide +kernel
theorem dX10_notes_45 : decode cX10_notes 45 = .ok (.getfield 78, 3) := by decide +kernel
theorem dX10_notes_48 : decode cX10_notes 48 = .ok (.if_icmp .ge 19, 3) := by decide +kernel
theorem dX10_notes_51 : decode cX10_notes 51 = .ok (.aload_n 0, 1) := by decide +kernel
theorem dX10_notes_52 : decode cX10_notes 52 = .ok (.iload_n 1, 1) := by decide +kernel
theorem dX10_notes_53 : decode cX10_notes 53 = .ok (.iload_n 2, 1) := by decide +kernel
theorem dX10_notes_54 : decode cX10_notes 54 = .ok (.invokestatic 152, 3) := by decide +kernel
theorem dX10_notes_57 : decode cX10_notes 57 = .ok (.iconst (-1), 1) := by decide +kernel
theorem dX10_notes_58 : decode cX10_notes 58 = .ok (.invokevirtual 104, 3) := by decide +kernel
theorem dX10_notes_61 : decode cX10_notes 61 = .ok (.iinc 2 1, 3) := by decide +kernel
theorem dX10_notes_64 : decode cX10_notes 64 = .ok (.goto (-21), 3) := by decide +kernel
theorem dX10_notes_67 : decode cX10_notes 67 = .ok (.return_, 1) := by decide +kernel
theorem hyX10_notes : yX10_notes.cls ≠ "java/lang/invoke/MethodHandle" ∧ yX10_notes.cls ≠ "java/lang/invoke/VarHandle" ∧ (parseMethodDescriptor yX10_notes.desc).map (fun d => d.parameters.length) = some 1 := ⟨by decide +kernel, by decide +kernel, by decide +kernel⟩
def jX10_notes_35_L2 (σ : zS) (x0 : Nat) (x1 : Int32) (x2 : Int32)  : Option ((zS × Int32) ⊕ zS) :=
  some (.inl (σ, x2 + 1))
set_option maxRecDepth 100000 in
set_option maxHeartbeats 4000000 in
theorem wjX10_notes_35_L2 (C : zC p s m args meth c cX10_notes RX10 3 D Ca B En) (hRm : zRm R 2 42 cells slots) (σ : zS) (x0 : Nat) (x1 : Int32) (x2 : Int32)  (y : (zS × Int32) ⊕ zS) (hf : jX10_notes_35_L2 σ x0 x1 x2  = some y) (hk : (∀ z : (zS × Int32), y = .inl z → zW p l e R s m args below meth c cells slots Q D Ca B 3 z.1 N 2 [(0, .ref x0), (1, .int x1), (2, .int z.2)] []) ∧ (∀ z : zS, y = .inr z → zW p l e R s m args below meth c cells slots Q D Ca B 3 z N 41 [(0, .ref x0), (1, .int x1)] [])) : zW p l e R s m args below meth c cells slots Q D Ca B 3 σ N 35 [(0, .ref x0), (1, .int x1), (2, .int x2)] [] := by
  unfold jX10_notes_35_L2 at hf
  refine z_iinc (lv2 := [(2, .int (x2 + 1)), (0, .ref x0), (1, .int x1)]) C (x2 + 1) dX10_notes_35 2 rfl rfl (by decide) rfl ?_
  refine z_goto C 2 dX10_notes_38 (by decide) ?_
  cases hf
  refine z_sub [1, 2, 0] rfl ?_
  exact hk.1 _ rfl

def sX10_notes_2b (x0 : Nat) (x1 : Int32) (σ : zS) (u2 : Int32) : Option ((zS × Int32) ⊕ zS) :=
  (if 16 ≤ u2 then some (.inr σ) else (zck 9 σ x0 (fX10_ownerOf σ x0 u2)).bind fun c1 => (if c1.2 = x1 then (zgR 9 6 c1.1 x0).bind fun v2 => (zgR 9 6 c1.1 x0).bind fun v3 => (zaI c1.1 v3 (17 + u2)).bind fun v4 => (zsI c1.1 v2 (102 + u2) v4).bind fun σ5 => jX10_notes_35_L2 σ5 x0 x1 u2 else jX10_notes_35_L2 c1.1 x0 x1 u2))
def sX10_notes_2 (x0 : Nat) (x1 : Int32) (z : (zS × Int32)) : Option ((zS × Int32) ⊕ zS) := sX10_notes_2b x0 x1 z.1 z.2
set_option maxRecDepth 100000 in
set_option maxHeartbeats 4000000 in
theorem wsX10_notes_2b (C : zC p s m args meth c cX10_notes RX10 3 D Ca B En) (hRm : zRm R 2 42 cells slots) (x0 : Nat) (x1 : Int32) (σ : zS) (u2 : Int32) (y : (zS × Int32) ⊕ zS) (hf : sX10_notes_2b x0 x1 σ u2 = some y) (hk : (∀ z : (zS × Int32), y = .inl z → zW p l e R s m args below meth c cells slots Q D Ca B 3 z.1 N 2 [(0, .ref x0), (1, .int x1), (2, .int z.2)] []) ∧ (∀ z : zS, y = .inr z → zW p l e R s m args below meth c cells slots Q D Ca B 3 z N 41 [(0, .ref x0), (1, .int x1)] [])) : zW p l e R s m args below meth c cells slots Q D Ca B 3 σ N 2 [(0, .ref x0), (1, .int x1), (2, .int u2)] [] := by
  unfold sX10_notes_2b at hf
  refine z_iload_n C dX10_notes_2 rfl 2 rfl ?_
  refine z_bipush C 16 dX10_notes_3 (by decide) ?_
  refine z_icmp_ge C 41 dX10_notes_5 (by decide) (fun q7 => ?_) (fun q7 => ?_)
  · rw [if_pos q7] at hf
    cases hf
    refine z_sub [0, 1] rfl ?_
    exact hk.2 _ rfl
  · rw [if_neg q7] at hf
    refine z_aload_n C dX10_notes_8 rfl 0 rfl ?_
    refine z_iload_n C dX10_notes_9 rfl 2 rfl ?_
    obtain ⟨c1, hc1, hf⟩ := zbind hf
    obtain ⟨kc1, hc1⟩ := zck_ok hc1
    refine z_callVi (As := [.int u2]) (F0 := 2) (L0 := 42) C (mX10_ownerOf l D Ca B En C.2.2.2.2.2.2.2.1 σ N x0 u2 _ hc1) hRm kc1 rfl kw_1458 kw_14 kw_1455 kw_1457 kp_49 hyX10_ownerOf (Nat.le_of_ble_eq_true rfl) (Nat.le_of_ble_eq_true rfl) rfl rfl (Nat.le_of_ble_eq_true rfl) dX10_notes_10 ?_
    refine z_iload_n C dX10_notes_13 rfl 1 rfl ?_
    refine z_icmp_ne C 35 dX10_notes_14 (by decide) (fun q6 => ?_) (fun q6 => ?_)
    · rw [if_neg q6] at hf
      refine z_sub [0, 1, 2] rfl ?_
      exact wjX10_notes_35_L2 C hRm _ _ _ _  _ hf hk
    · rw [if_pos q6] at hf
      refine z_aload_n C dX10_notes_17 rfl 0 rfl ?_
      obtain ⟨v2, hv2, hf⟩ := zbind hf
      refine gf_RX10_21 C hv2 dX10_notes_18 ?_
      refine z_bipush C 102 dX10_notes_21 (by decide) ?_
      refine z_iload_n C dX10_notes_23 rfl 2 rfl ?_
      refine z_iadd C dX10_notes_24 ?_
      refine z_aload_n C dX10_notes_25 rfl 0 rfl ?_
      obtain ⟨v3, hv3, hf⟩ := zbind hf
      refine gf_RX10_21 C hv3 dX10_notes_26 ?_
      refine z_bipush C 17 dX10_notes_29 (by decide) ?_
      refine z_iload_n C dX10_notes_31 rfl 2 rfl ?_
      refine z_iadd C dX10_notes_32 ?_
      obtain ⟨v4, hv4, hf⟩ := zbind hf
      refine z_aI C hv4 dX10_notes_33 ?_
      obtain ⟨σ5, hσ5, hf⟩ := zbind hf
      refine z_sI C hσ5 dX10_notes_34 ?_
      refine z_sub [0, 1, 2] rfl ?_
      exact wjX10_notes_35_L2 C hRm _ _ _ _  _ hf hk

theorem wsX10_notes_2 (C : zC p s m args meth c cX10_notes RX10 3 D Ca B En) (hRm : zRm R 2 42 cells slots) (x0 : Nat) (x1 : Int32) (n : Nat) (z : (zS × Int32)) (x : zS) (hf : zloop (sX10_notes_2 x0 x1) n z = some x) (hk : (∀ o : zS, x = o → zW p l e R s m args below meth c cells slots Q D Ca B 3 o N 41 [(0, .ref x0), (1, .int x1)] [])) : zW p l e R s m args below meth c cells slots Q D Ca B 3 z.1 N 2 [(0, .ref x0), (1, .int x1), (2, .int z.2)] [] := by
  refine zloop_W (P := fun z : (zS × Int32) => zW p l e R s m args below meth c cells slots Q D Ca B 3 z.1 N 2 [(0, .ref x0), (1, .int x1), (2, .int z.2)] []) (K := fun x : zS => (∀ o : zS, x = o → zW p l e R s m args below meth c cells slots Q D Ca B 3 o N 41 [(0, .ref x0), (1, .int x1)] [])) ?_ n z x hf hk
  intro z y hy h1 h2
  refine wsX10_notes_2b C hRm x0 x1 z.1 z.2 y hy ⟨fun z2 e => h1 z2 e, fun o e => (h2 _ e) o rfl⟩
def sX10_notes_43b (x0 : Nat) (x1 : Int32) (σ : zS) (u2 : Int32) : Option ((zS × Int32) ⊕ zS) :=
  (zgI 9 2 σ x0).bind fun v9 => (if v9 ≤ u2 then some (.inr σ) else (fX10_toSink σ x1 u2).bind fun c10 => (zck 9 c10.1 x0 (fX10_adds c10.1 x0 c10.2 ((-1)))).bind fun c11 => some (.inl (c11, u2 + 1)))
def sX10_notes_43 (x0 : Nat) (x1 : Int32) (z : (zS × Int32)) : Option ((zS × Int32) ⊕ zS) := sX10_notes_43b x0 x1 z.1 z.2
set_option maxRecDepth 100000 in
set_option maxHeartbeats 4000000 in
theorem wsX10_notes_43b (C : zC p s m args meth c cX10_notes RX10 3 D Ca B En) (hRm : zRm R 2 42 cells slots) (x0 : Nat) (x1 : Int32) (σ : zS) (u2 : Int32) (y : (zS × Int32) ⊕ zS) (hf : sX10_notes_43b x0 x1 σ u2 = some y) (hk : (∀ z : (zS × Int32), y = .inl z → zW p l e R s m args below meth c cells slots Q D Ca B 3 z.1 N 43 [(0, .ref x0), (1, .int x1), (2, .int z.2)] []) ∧ (∀ z : zS, y = .inr z → zW p l e R s m args below meth c cells slots Q D Ca B 3 z N 67 [] [])) : zW p l e R s m args below meth c cells slots Q D Ca B 3 σ N 43 [(0, .ref x0), (1, .int x1), (2, .int u2)] [] := by
  unfold sX10_notes_43b at hf
  refine z_iload_n C dX10_notes_43 rfl 2 rfl ?_
  refine z_aload_n C dX10_notes_44 rfl 0 rfl ?_
  obtain ⟨v9, hv9, hf⟩ := zbind hf
  refine gf_RX10_78 C hv9 dX10_notes_45 ?_
  refine z_icmp_ge C 67 dX10_notes_48 (by decide) (fun q12 => ?_) (fun q12 => ?_)
  · rw [if_pos q12] at hf
    cases hf
    refine z_sub [] rfl ?_
    exact hk.2 _ rfl
  · rw [if_neg q12] at hf
    refine z_aload_n C dX10_notes_51 rfl 0 rfl ?_
    refine z_iload_n C dX10_notes_52 rfl 1 rfl ?_
    refine z_iload_n C dX10_notes_53 rfl 2 rfl ?_
    obtain ⟨c10, hc10, hf⟩ := zbind hf
    refine z_callSi (As := [.int x1, .int u2]) (F0 := 2) (L0 := 42) C (mX10_toSink l D Ca B En C.2.2.2.2.2.2.2.1 σ N x1 u2 _ hc10) hRm kw_1496 kw_14 kw_1494 kw_1495 hyX10_toSink (Nat.le_of_ble_eq_true rfl) (Nat.le_of_ble_eq_true rfl) rfl rfl (Nat.le_of_ble_eq_true rfl) dX10_notes_54 ?_
    refine z_iconst C (-1) dX10_notes_57 (by decide) ?_
    obtain ⟨c11, hc11, hf⟩ := zbind hf
    obtain ⟨kc11, hc11⟩ := zck_ok hc11
    refine z_callVv (As := [.int c10.2, .int ((-1))]) (F0 := 2) (L0 := 42) C (mX10_adds l D Ca B En C.2.2.2.2.2.2.2.1 c10.1 N x0 c10.2 ((-1)) _ hc11) hRm kc11 rfl kw_1443 kw_14 kw_1440 kw_1442 kp_46 hyX10_adds (Nat.le_of_ble_eq_true rfl) (Nat.le_of_ble_eq_true rfl) rfl rfl (Nat.le_of_ble_eq_true rfl) dX10_notes_58 ?_
    refine z_iinc (lv2 := [(2, .int (u2 + 1)), (0, .ref x0), (1, .int x1)]) C (u2 + 1) dX10_notes_61 2 rfl rfl (by decide) rfl ?_
    refine z_goto C 43 dX10_notes_64 (by decide) ?_
    cases hf
    refine z_sub [1, 2, 0] rfl ?_
    exact hk.1 _ rfl

theorem wsX10_notes_43 (C : zC p s m args meth c cX10_notes RX10 3 D Ca B En) (hRm : zRm R 2 42 cells slots) (x0 : Nat) (x1 : Int32) (n : Nat) (z : (zS × Int32)) (x : zS) (hf : zloop (sX10_notes_43 x0 x1) n z = some x) (hk : (∀ o : zS, x = o → zW p l e R s m args below meth c cells slots Q D Ca B 3 o N 67 [] [])) : zW p l e R s m args below meth c cells slots Q D Ca B 3 z.1 N 43 [(0, .ref x0), (1, .int x1), (2, .int z.2)] [] := by
  refine zloop_W (P := fun z : (zS × Int32) => zW p l e R s m args below meth c cells slots Q D Ca B 3 z.1 N 43 [(0, .ref x0), (1, .int x1), (2, .int z.2)] []) (K := fun x : zS => (∀ o : zS, x = o → zW p l e R s m args below meth c cells slots Q D Ca B 3 o N 67 [] [])) ?_ n z x hf hk
  intro z y hy h1 h2
  refine wsX10_notes_43b C hRm x0 x1 z.1 z.2 y hy ⟨fun z2 e => h1 z2 e, fun o e => (h2 _ e) o rfl⟩
def fX10_notes (σ : zS) (x0 : Nat) (x1 : Int32) : Option zS :=
  (zloop (sX10_notes_2 x0 x1) zfuel (σ, 0)).bind fun o8 => (zloop (sX10_notes_43 x0 x1) zfuel (o8, 0)).bind fun o13 => some o13
set_option maxRecDepth 100000 in
set_option maxHeartbeats 4000000 in
theorem wfX10_notes (C : zC p s m args meth c cX10_notes RX10 3 D Ca B En) (hRm : zRm R 2 42 cells slots) (σ : zS) (x0 : Nat) (x1 : Int32) (τ : zS) (hf : fX10_notes σ x0 x1 = some τ) (hq : ∀ (pc : Nat) (lv : List (Nat × Value)), decode cX10_notes pc = .ok (.return_, 1) → zW p l e R s m args below meth c cells slots Q D Ca B 3 τ N pc lv []) : zW p l e R s m args below meth c cells slots Q D Ca B 3 σ N 0 [(0, .ref x0), (1, .int x1)] [] := by
  unfold fX10_notes at hf
  refine z_iconst C 0 dX10_notes_0 (by decide) ?_
  refine z_istore_n (lv2 := [(2, .int 0), (0, .ref x0), (1, .int x1)]) C dX10_notes_1 rfl (by decide) rfl ?_
  obtain ⟨o8, ho8, hf⟩ := zbind hf
  refine z_sub [1, 2, 0] rfl ?_
  refine wsX10_notes_2 C hRm _ _ zfuel (σ, 0) o8 ho8 ?_
  intro z9 e9
  subst e9
  refine z_iconst C 0 dX10_notes_41 (by decide) ?_
  refine z_istore_n (lv2 := [(2, .int 0), (0, .ref x0), (1, .int x1)]) C dX10_notes_42 rfl (by decide) rfl ?_
  obtain ⟨o13, ho13, hf⟩ := zbind hf
  refine z_sub [1, 2, 0] rfl ?_
  refine wsX10_notes_43 C hRm _ _ zfuel (o8, 0) o13 ho13 ?_
  intro z9 e9
  subst e9
  cases hf
  exact hq _ _ dX10_notes_67

theorem mX10_notes (l : Launch) (D : va_G) (Ca : Nat → ClassId) (B : Nat) (En : State → Prop) (hE : zEk B En) (σ : zS) (N : Nat) (x0 : Nat) (x1 : Int32) (X : zS) (hf : fX10_notes σ x0 x1 = some X) : zMv l D Ca B En yX10_notes cX10_notes 3 (Option.none : Option Jvm.ClassFile.FieldType) 2 42 [.ref x0, .int x1] σ N X () :=
  zMet_v (own := RX10) hE (by decide +kernel) rfl (Nat.le_of_ble_eq_true rfl) (fun p e s m args below meth c C hr hRm => wfX10_notes C hRm σ x0 x1 X hf (fun pc lv hd => zfin_v (r := ()) C hr hd))
theorem dX10_closes_0 : decode cX10_closes 0 = .ok (.aload_n 0, 1) := by decide +kernel
theorem dX10_closes_1 : decode cX10_closes 1 = .ok (.sipush 11394, 3) := by decide +kernel
theorem dX10_closes_4 : decode cX10_closes 4 = .ok (.iload_n 1, 1) := by decide +kernel
theorem dX10_closes_5 : decode cX10_closes 5 = .ok (.invokestatic 155, 3) := by decide +kernel
theorem dX10_closes_8 : decode cX10_closes 8 = .ok (.sipush 9792, 3) := by decide +kernel
theorem dX10_closes_11 : decode cX10_closes 11 = .ok (.iload_n 1, 1) := by decide +kernel
theorem dX10_closes_12 : decode cX10_closes 12 = .ok (.invokestatic 155, 3) := by decide +kernel
theorem dX10_closes_15 : decode cX10_closes 15 = .ok (.invokevirtual 143, 3) := by decide +kernel
theorem dX10_closes_18 : decode cX10_closes 18 = .ok (.aload_n 0, 1) := by decide +kernel
theorem dX10_closes_19 : decode cX10_closes 19 = .ok (.sipush 9792, 3) := by decide +kernel
theorem dX10_closes_22 : decode cX10_closes 22 = .ok (.iload_n 1, 1) := by decide +kernel
theorem dX10_closes_23 : decode cX10_closes 23 = .ok (.invokestatic 155, 3) := by decide +kernel
theorem dX10_closes_26 : decode cX10_closes 26 = .ok (.invokevirtual 108, 3) := by decide +kernel
theorem dX10_closes_29 : decode cX10_closes 29 = .ok (.return_, 1) := by decide +kernel
theorem hyX10_closes : yX10_closes.cls ≠ "java/lang/invoke/MethodHandle" ∧ yX10_closes.cls ≠ "java/lang/invoke/VarHandle" ∧ (parseMethodDescriptor yX10_closes.desc).map (fun d => d.parameters.length) = some 1 := ⟨by decide +kernel, by decide +kernel, by decide +kernel⟩
def fX10_closes (σ : zS) (x0 : Nat) (x1 : Int32) : Option zS :=
  (fX10_results σ 11394 x1).bind fun c1 => (fX10_results c1.1 9792 x1).bind fun c2 => (zck 9 c2.1 x0 (fX10_becomes c2.1 x0 c1.2 c2.2)).bind fun c3 => (fX10_results c3 9792 x1).bind fun c4 => (zck 9 c4.1 x0 (fX10_empties c4.1 x0 c4.2)).bind fun c5 => some c5
set_option maxRecDepth 100000 in
set_option maxHeartbeats 4000000 in
theorem wfX10_closes (C : zC p s m args meth c cX10_closes RX10 2 D Ca B En) (hRm : zRm R 3 67 cells slots) (σ : zS) (x0 : Nat) (x1 : Int32) (τ : zS) (hf : fX10_closes σ x0 x1 = some τ) (hq : ∀ (pc : Nat) (lv : List (Nat × Value)), decode cX10_closes pc = .ok (.return_, 1) → zW p l e R s m args below meth c cells slots Q D Ca B 2 τ N pc lv []) : zW p l e R s m args below meth c cells slots Q D Ca B 2 σ N 0 [(0, .ref x0), (1, .int x1)] [] := by
  unfold fX10_closes at hf
  refine z_aload_n C dX10_closes_0 rfl 0 rfl ?_
  refine z_sipush C 11394 dX10_closes_1 (by decide) ?_
  refine z_iload_n C dX10_closes_4 rfl 1 rfl ?_
  obtain ⟨c1, hc1, hf⟩ := zbind hf
  refine z_callSi (As := [.int 11394, .int x1]) (F0 := 3) (L0 := 67) C (mX10_results l D Ca B En C.2.2.2.2.2.2.2.1 σ N 11394 x1 _ hc1) hRm kw_1431 kw_14 kw_1429 kw_1430 hyX10_results (Nat.le_of_ble_eq_true rfl) (Nat.le_of_ble_eq_true rfl) rfl rfl (Nat.le_of_ble_eq_true rfl) dX10_closes_5 ?_
  refine z_sipush C 9792 dX10_closes_8 (by decide) ?_
  refine z_iload_n C dX10_closes_11 rfl 1 rfl ?_
  obtain ⟨c2, hc2, hf⟩ := zbind hf
  refine z_callSi (As := [.int 9792, .int x1]) (F0 := 3) (L0 := 67) C (mX10_results l D Ca B En C.2.2.2.2.2.2.2.1 c1.1 N 9792 x1 _ hc2) hRm kw_1431 kw_14 kw_1429 kw_1430 hyX10_results (Nat.le_of_ble_eq_true rfl) (Nat.le_of_ble_eq_true rfl) rfl rfl (Nat.le_of_ble_eq_true rfl) dX10_closes_12 ?_
  obtain ⟨c3, hc3, hf⟩ := zbind hf
  obtain ⟨kc3, hc3⟩ := zck_ok hc3
  refine z_callVv (As := [.int c1.2, .int c2.2]) (F0 := 3) (L0 := 67) C (mX10_becomes l D Ca B En C.2.2.2.2.2.2.2.1 c2.1 N x0 c1.2 c2.2 _ hc3) hRm kc3 rfl kw_1544 kw_14 kw_1541 kw_1543 kp_69 hyX10_becomes (Nat.le_of_ble_eq_true rfl) (Nat.le_of_ble_eq_true rfl) rfl rfl (Nat.le_of_ble_eq_true rfl) dX10_closes_15 ?_
  refine z_aload_n C dX10_closes_18 rfl 0 rfl ?_
  refine z_sipush C 9792 dX10_closes_19 (by decide) ?_
  refine z_iload_n C dX10_closes_22 rfl 1 rfl ?_
  obtain ⟨c4, hc4, hf⟩ := zbind hf
  refine z_callSi (As := [.int 9792, .int x1]) (F0 := 3) (L0 := 67) C (mX10_results l D Ca B En C.2.2.2.2.2.2.2.1 c3 N 9792 x1 _ hc4) hRm kw_1431 kw_14 kw_1429 kw_1430 hyX10_results (Nat.le_of_ble_eq_true rfl) (Nat.le_of_ble_eq_true rfl) rfl rfl (Nat.le_of_ble_eq_true rfl) dX10_closes_23 ?_
  obtain ⟨c5, hc5, hf⟩ := zbind hf
  obtain ⟨kc5, hc5⟩ := zck_ok hc5
  refine z_callVv (As := [.int c4.2]) (F0 := 3) (L0 := 67) C (mX10_empties l D Ca B En C.2.2.2.2.2.2.2.1 c4.1 N x0 c4.2 _ hc5) hRm kc5 rfl kw_1418 kw_14 kw_1415 kw_1417 kp_42 hyX10_empties (Nat.le_of_ble_eq_true rfl) (Nat.le_of_ble_eq_true rfl) rfl rfl (Nat.le_of_ble_eq_true rfl) dX10_closes_26 ?_
  cases hf
  exact hq _ _ dX10_closes_29

theorem mX10_closes (l : Launch) (D : va_G) (Ca : Nat → ClassId) (B : Nat) (En : State → Prop) (hE : zEk B En) (σ : zS) (N : Nat) (x0 : Nat) (x1 : Int32) (X : zS) (hf : fX10_closes σ x0 x1 = some X) : zMv l D Ca B En yX10_closes cX10_closes 2 (Option.none : Option Jvm.ClassFile.FieldType) 3 67 [.ref x0, .int x1] σ N X () :=
  zMet_v (own := RX10) hE (by decide +kernel) rfl (Nat.le_of_ble_eq_true rfl) (fun p e s m args below meth c C hr hRm => wfX10_closes C hRm σ x0 x1 X hf (fun pc lv hd => zfin_v (r := ()) C hr hd))
theorem dX10_aligns_0 : decode cX10_aligns 0 = .ok (.aload_n 0, 1) := by decide +kernel
theorem dX10_aligns_1 : decode cX10_aligns 1 = .ok (.getfield 21, 3) := by decide +kernel
theorem dX10_aligns_4 : decode cX10_aligns 4 = .ok (.bipush 74, 2) := by decide +kernel
theorem dX10_aligns_6 : decode cX10_aligns 6 = .ok (.iload_n 1, 1) := by decide +kernel
theorem dX10_aligns_7 : decode cX10_aligns 7 = .ok (.iload_n 2, 1) := by decide +kernel
theorem dX10_aligns_8 : decode cX10_aligns 8 = .ok (.invokestatic 122, 3) := by decide +kernel
theorem dX10_aligns_11 : decode cX10_aligns 11 = .ok (.iadd, 1) := by decide +kernel
theorem dX10_aligns_12 : decode cX10_aligns 12 = .ok (.iconst 1, 1) := by decide +kernel
theorem dX10_aligns_13 : decode cX10_aligns 13 = .ok (.iastore, 1) := by decide +kernel
theorem dX10_aligns_14 : decode cX10_aligns 14 = .ok (.aload_n 0, 1) := by decide +kernel
theorem dX10_aligns_15 : decode cX10_aligns 15 = .ok (.getfield 21, 3) := by decide +kernel
theorem dX10_aligns_18 : decode cX10_aligns 18 = .ok (.bipush 43, 2) := by decide +kernel
theorem dX10_aligns_20 : decode cX10_aligns 20 = .ok (.iload_n 1, 1) := by decide +kernel
theorem dX10_aligns_21 : decode cX10_aligns 21 = .ok (.iload_n 2, 1) := by decide +kernel
theorem dX10_aligns_22 : decode cX10_aligns 22 = .ok (.invokestatic 122, 3) := by decide +kernel
theorem dX10_aligns_25 : decode cX10_aligns 25 = .ok (.iadd, 1) := by decide +kernel
theorem dX10_aligns_26 : decode cX10_aligns 26 = .ok (.iconst 1, 1) := by decide +kernel
theorem dX10_aligns_27 : decode cX10_aligns 27 = .ok (.iastore, 1) := by decide +kernel
theorem dX10_aligns_28 : decode cX10_aligns 28 = .ok (.aload_n 0, 1) := by decide +kernel
theorem dX10_aligns_29 : decode cX10_aligns 29 = .ok (.iload_n 2, 1) := by decide +kernel
theorem dX10_aligns_30 : decode cX10_aligns 30 = .ok (.invokevirtual 158, 3) := by decide +kernel
theorem dX10_aligns_33 : decode cX10_aligns 33 = .ok (.aload_n 0, 1) := by decide +kernel
theorem dX10_aligns_34 : decode cX10_aligns 34 = .ok (.getfield 75, 3) := by decide +kernel
theorem dX10_aligns_37 : decode cX10_aligns 37 = .ok (.if_icmp .ge 4, 3) := by decide +kernel
theorem dX10_aligns_40 : decode cX10_aligns 40 = .ok (.return_, 1) := by decide +kernel
theorem dX10_aligns_41 : decode cX10_aligns 41 = .ok (.aload_n 0, 1) := by decide +kernel
theorem dX10_aligns_42 : decode cX10_aligns 42 = .ok (.iload_n 2, 1) := by decide +kernel
theorem dX10_aligns_43 : decode cX10_aligns 43 = .ok (.invokevirtual 161, 3) := by decide +kernel
theorem dX10_aligns_46 : decode cX10_aligns 46 = .ok (.iconst 0, 1) := by decide +kernel
theorem dX10_aligns_47 : decode cX10_aligns 47 = .ok (.istore_n 3, 1) := by decide +kernel
theorem dX10_aligns_48 : decode cX10_aligns 48 = .ok (.iload_n 3, 1) := by decide +kernel
theorem dX10_aligns_49 : decode cX10_aligns 49 = .ok (.aload_n 0, 1) := by decide +kernel
theorem dX10_aligns_50 : decode cX10_aligns 50 = .ok (.getfield 75, 3) := by decide +kernel
theorem dX10_aligns_53 : decode cX10_aligns 53 = .ok (.if_icmp .ge 23, 3) := by decide +kernel
theorem dX10_aligns_56 : decode cX10_aligns 56 = .ok (.aload_n 0, 1) := by decide +kernel
theorem dX10_aligns_57 : decode cX10_aligns 57 = .ok (.getfield 21, 3) := by decide +kernel
theorem dX10_aligns_60 : decode cX10_aligns 60 = .ok (.bipush 43, 2) := by decide +kernel
theorem dX10_aligns_62 : decode cX10_aligns 62 = .ok (.iload_n 3, 1) := by decide +kernel
theorem dX10_aligns_63 : decode cX10_aligns 63 = .ok (.iload_n 2, 1) := by decide +kernel
theorem dX10_aligns_64 : decode cX10_aligns 64 = .ok (.invokestatic 122, 3) := by decide +kernel
theorem dX10_aligns_67 : decode cX10_aligns 67 = .ok (.iadd, 1) := by decide +kernel
theorem dX10_aligns_68 : decode cX10_aligns 68 = .ok (.iconst 0, 1) := by decide +kernel
theorem dX10_aligns_69 : decode cX10_aligns 69 = .ok (.iastore, 1) := by decide +kernel
theorem dX10_aligns_70 : decode cX10_aligns 70 = .ok (.iinc 3 1, 3) := by decide +kernel
theorem dX10_aligns_73 : decode cX10_aligns 73 = .ok (.goto (-25), 3) := by decide +kernel
theorem dX10_aligns_76 : decode cX10_aligns 76 = .ok (.return_, 1) := by decide +kernel
theorem hyX10_aligns : yX10_aligns.cls ≠ "java/lang/invoke/MethodHandle" ∧ yX10_aligns.cls ≠ "java/lang/invoke/VarHandle" ∧ (parseMethodDescriptor yX10_aligns.desc).map (fun d => d.parameters.length) = some 2 := ⟨by decide +kernel, by decide +kernel, by decide +kernel⟩
def sX10_aligns_48b (x0 : Nat) (x2 : Int32) (σ : zS) (u3 : Int32) : Option ((zS × Int32) ⊕ zS) :=
  (zgI 9 1 σ x0).bind fun v10 => (if v10 ≤ u3 then some (.inr σ) else (zgR 9 6 σ x0).bind fun v11 => (fX10_channelIn σ u3 x2).bind fun c12 => (zsI c12.1 v11 (43 + c12.2) 0).bind fun σ13 => some (.inl (σ13, u3 + 1)))
def sX10_aligns_48 (x0 : Nat) (x2 : Int32) (z : (zS × Int32)) : Option ((zS × Int32) ⊕ zS) := sX10_aligns_48b x0 x2 z.1 z.2
set_option maxRecDepth 100000 in
set_option maxHeartbeats 4000000 in
theorem wsX10_aligns_48b (C : zC p s m args meth c cX10_aligns RX10 4 D Ca B En) (hRm : zRm R 3 64 cells slots) (x0 : Nat) (x2 : Int32) (σ : zS) (u3 : Int32) (y : (zS × Int32) ⊕ zS) (hf : sX10_aligns_48b x0 x2 σ u3 = some y) (hk : (∀ z : (zS × Int32), y = .inl z → zW p l e R s m args below meth c cells slots Q D Ca B 4 z.1 N 48 [(0, .ref x0), (2, .int x2), (3, .int z.2)] []) ∧ (∀ z : zS, y = .inr z → zW p l e R s m args below meth c cells slots Q D Ca B 4 z N 76 [] [])) : zW p l e R s m args below meth c cells slots Q D Ca B 4 σ N 48 [(0, .ref x0), (2, .int x2), (3, .int u3)] [] := by
  unfold sX10_aligns_48b at hf
  refine z_iload_n C dX10_aligns_48 rfl 2 rfl ?_
  refine z_aload_n C dX10_aligns_49 rfl 0 rfl ?_
  obtain ⟨v10, hv10, hf⟩ := zbind hf
  refine gf_RX10_75 C hv10 dX10_aligns_50 ?_
  refine z_icmp_ge C 76 dX10_aligns_53 (by decide) (fun q14 => ?_) (fun q14 => ?_)
  · rw [if_pos q14] at hf
    cases hf
    refine z_sub [] rfl ?_
    exact hk.2 _ rfl
  · rw [if_neg q14] at hf
    refine z_aload_n C dX10_aligns_56 rfl 0 rfl ?_
    obtain ⟨v11, hv11, hf⟩ := zbind hf
    refine gf_RX10_21 C hv11 dX10_aligns_57 ?_
    refine z_bipush C 43 dX10_aligns_60 (by decide) ?_
    refine z_iload_n C dX10_aligns_62 rfl 2 rfl ?_
    refine z_iload_n C dX10_aligns_63 rfl 1 rfl ?_
    obtain ⟨c12, hc12, hf⟩ := zbind hf
    refine z_callSi (As := [.int u3, .int x2]) (F0 := 3) (L0 := 64) C (mX10_channelIn l D Ca B En C.2.2.2.2.2.2.2.1 σ N u3 x2 _ hc12) hRm kw_1414 kw_14 kw_1412 kw_1413 hyX10_channelIn (Nat.le_of_ble_eq_true rfl) (Nat.le_of_ble_eq_true rfl) rfl rfl (Nat.le_of_ble_eq_true rfl) dX10_aligns_64 ?_
    refine z_iadd C dX10_aligns_67 ?_
    refine z_iconst C 0 dX10_aligns_68 (by decide) ?_
    obtain ⟨σ13, hσ13, hf⟩ := zbind hf
    refine z_sI C hσ13 dX10_aligns_69 ?_
    refine z_iinc (lv2 := [(3, .int (u3 + 1)), (0, .ref x0), (2, .int x2)]) C (u3 + 1) dX10_aligns_70 2 rfl rfl (by decide) rfl ?_
    refine z_goto C 48 dX10_aligns_73 (by decide) ?_
    cases hf
    refine z_sub [1, 2, 0] rfl ?_
    exact hk.1 _ rfl

theorem wsX10_aligns_48 (C : zC p s m args meth c cX10_aligns RX10 4 D Ca B En) (hRm : zRm R 3 64 cells slots) (x0 : Nat) (x2 : Int32) (n : Nat) (z : (zS × Int32)) (x : zS) (hf : zloop (sX10_aligns_48 x0 x2) n z = some x) (hk : (∀ o : zS, x = o → zW p l e R s m args below meth c cells slots Q D Ca B 4 o N 76 [] [])) : zW p l e R s m args below meth c cells slots Q D Ca B 4 z.1 N 48 [(0, .ref x0), (2, .int x2), (3, .int z.2)] [] := by
  refine zloop_W (P := fun z : (zS × Int32) => zW p l e R s m args below meth c cells slots Q D Ca B 4 z.1 N 48 [(0, .ref x0), (2, .int x2), (3, .int z.2)] []) (K := fun x : zS => (∀ o : zS, x = o → zW p l e R s m args below meth c cells slots Q D Ca B 4 o N 76 [] [])) ?_ n z x hf hk
  intro z y hy h1 h2
  refine wsX10_aligns_48b C hRm x0 x2 z.1 z.2 y hy ⟨fun z2 e => h1 z2 e, fun o e => (h2 _ e) o rfl⟩
def fX10_aligns (σ : zS) (x0 : Nat) (x1 : Int32) (x2 : Int32) : Option zS :=
  (zgR 9 6 σ x0).bind fun v1 => (fX10_channelIn σ x1 x2).bind fun c2 => (zsI c2.1 v1 (74 + c2.2) 1).bind fun σ3 => (zgR 9 6 σ3 x0).bind fun v4 => (fX10_channelIn σ3 x1 x2).bind fun c5 => (zsI c5.1 v4 (43 + c5.2) 1).bind fun σ6 => (zck 9 σ6 x0 (fX10_arrivedAt σ6 x0 x2)).bind fun c7 => (zgI 9 1 c7.1 x0).bind fun v8 => (if v8 ≤ c7.2 then (zck 9 c7.1 x0 (fX10_notes c7.1 x0 x2)).bind fun c9 => (zloop (sX10_aligns_48 x0 x2) zfuel (c9, 0)).bind fun o15 => some o15 else some c7.1)
set_option maxRecDepth 100000 in
set_option maxHeartbeats 4000000 in
theorem wfX10_aligns (C : zC p s m args meth c cX10_aligns RX10 4 D Ca B En) (hRm : zRm R 3 64 cells slots) (σ : zS) (x0 : Nat) (x1 : Int32) (x2 : Int32) (τ : zS) (hf : fX10_aligns σ x0 x1 x2 = some τ) (hq : ∀ (pc : Nat) (lv : List (Nat × Value)), decode cX10_aligns pc = .ok (.return_, 1) → zW p l e R s m args below meth c cells slots Q D Ca B 4 τ N pc lv []) : zW p l e R s m args below meth c cells slots Q D Ca B 4 σ N 0 [(0, .ref x0), (1, .int x1), (2, .int x2)] [] := by
  unfold fX10_aligns at hf
  refine z_aload_n C dX10_aligns_0 rfl 0 rfl ?_
  obtain ⟨v1, hv1, hf⟩ := zbind hf
  refine gf_RX10_21 C hv1 dX10_aligns_1 ?_
  refine z_bipush C 74 dX10_aligns_4 (by decide) ?_
  refine z_iload_n C dX10_aligns_6 rfl 1 rfl ?_
  refine z_iload_n C dX10_aligns_7 rfl 2 rfl ?_
  obtain ⟨c2, hc2, hf⟩ := zbind hf
  refine z_callSi (As := [.int x1, .int x2]) (F0 := 3) (L0 := 64) C (mX10_channelIn l D Ca B En C.2.2.2.2.2.2.2.1 σ N x1 x2 _ hc2) hRm kw_1414 kw_14 kw_1412 kw_1413 hyX10_channelIn (Nat.le_of_ble_eq_true rfl) (Nat.le_of_ble_eq_true rfl) rfl rfl (Nat.le_of_ble_eq_true rfl) dX10_aligns_8 ?_
  refine z_iadd C dX10_aligns_11 ?_
  refine z_iconst C 1 dX10_aligns_12 (by decide) ?_
  obtain ⟨σ3, hσ3, hf⟩ := zbind hf
  refine z_sI C hσ3 dX10_aligns_13 ?_
  refine z_aload_n C dX10_aligns_14 rfl 0 rfl ?_
  obtain ⟨v4, hv4, hf⟩ := zbind hf
  refine gf_RX10_21 C hv4 dX10_aligns_15 ?_
  refine z_bipush C 43 dX10_aligns_18 (by decide) ?_
  refine z_iload_n C dX10_aligns_20 rfl 1 rfl ?_
  refine z_iload_n C dX10_aligns_21 rfl 2 rfl ?_
  obtain ⟨c5, hc5, hf⟩ := zbind hf
  refine z_callSi (As := [.int x1, .int x2]) (F0 := 3) (L0 := 64) C (mX10_channelIn l D Ca B En C.2.2.2.2.2.2.2.1 σ3 N x1 x2 _ hc5) hRm kw_1414 kw_14 kw_1412 kw_1413 hyX10_channelIn (Nat.le_of_ble_eq_true rfl) (Nat.le_of_ble_eq_true rfl) rfl rfl (Nat.le_of_ble_eq_true rfl) dX10_aligns_22 ?_
  refine z_iadd C dX10_aligns_25 ?_
  refine z_iconst C 1 dX10_aligns_26 (by decide) ?_
  obtain ⟨σ6, hσ6, hf⟩ := zbind hf
  refine z_sI C hσ6 dX10_aligns_27 ?_
  refine z_aload_n C dX10_aligns_28 rfl 0 rfl ?_
  refine z_iload_n C dX10_aligns_29 rfl 2 rfl ?_
  obtain ⟨c7, hc7, hf⟩ := zbind hf
  obtain ⟨kc7, hc7⟩ := zck_ok hc7
  refine z_callVi (As := [.int x2]) (F0 := 3) (L0 := 64) C (mX10_arrivedAt l D Ca B En C.2.2.2.2.2.2.2.1 σ6 N x0 x2 _ hc7) hRm kc7 rfl kw_1489 kw_14 kw_1486 kw_1488 kp_56 hyX10_arrivedAt (Nat.le_of_ble_eq_true rfl) (Nat.le_of_ble_eq_true rfl) rfl rfl (Nat.le_of_ble_eq_true rfl) dX10_aligns_30 ?_
  refine z_aload_n C dX10_aligns_33 rfl 0 rfl ?_
  obtain ⟨v8, hv8, hf⟩ := zbind hf
  refine gf_RX10_75 C hv8 dX10_aligns_34 ?_
  refine z_icmp_ge C 41 dX10_aligns_37 (by decide) (fun q16 => ?_) (fun q16 => ?_)
  · rw [if_pos q16] at hf
    refine z_aload_n C dX10_aligns_41 rfl 0 rfl ?_
    refine z_iload_n C dX10_aligns_42 rfl 2 rfl ?_
    obtain ⟨c9, hc9, hf⟩ := zbind hf
    obtain ⟨kc9, hc9⟩ := zck_ok hc9
    refine z_callVv (As := [.int x2]) (F0 := 3) (L0 := 64) C (mX10_notes l D Ca B En C.2.2.2.2.2.2.2.1 c7.1 N x0 x2 _ hc9) hRm kc9 rfl kw_1493 kw_14 kw_1490 kw_1492 kp_57 hyX10_notes (Nat.le_of_ble_eq_true rfl) (Nat.le_of_ble_eq_true rfl) rfl rfl (Nat.le_of_ble_eq_true rfl) dX10_aligns_43 ?_
    refine z_iconst C 0 dX10_aligns_46 (by decide) ?_
    refine z_istore_n (lv2 := [(3, .int 0), (0, .ref x0), (1, .int x1), (2, .int x2)]) C dX10_aligns_47 rfl (by decide) rfl ?_
    obtain ⟨o15, ho15, hf⟩ := zbind hf
    refine z_sub [1, 3, 0] rfl ?_
    refine wsX10_aligns_48 C hRm _ _ zfuel (c9, 0) o15 ho15 ?_
    intro z9 e9
    subst e9
    cases hf
    exact hq _ _ dX10_aligns_76
  · rw [if_neg q16] at hf
    cases hf
    exact hq _ _ dX10_aligns_40

theorem mX10_aligns (l : Launch) (D : va_G) (Ca : Nat → ClassId) (B : Nat) (En : State → Prop) (hE : zEk B En) (σ : zS) (N : Nat) (x0 : Nat) (x1 : Int32) (x2 : Int32) (X : zS) (hf : fX10_aligns σ x0 x1 x2 = some X) : zMv l D Ca B En yX10_aligns cX10_aligns 4 (Option.none : Option Jvm.ClassFile.FieldType) 3 64 [.ref x0, .int x1, .int x2] σ N X () :=
  zMet_v (own := RX10) hE (by decide +kernel) rfl (Nat.le_of_ble_eq_true rfl) (fun p e s m args below meth c C hr hRm => wfX10_aligns C hRm σ x0 x1 x2 X hf (fun pc lv hd => zfin_v (r := ()) C hr hd))
theorem dX10_alignsAtSink_0 : decode cX10_alignsAtSink 0 = .ok (.aload_n 0, 1) := by decide +kernel
theorem dX10_alignsAtSink_1 : decode cX10_alignsAtSink 1 = .ok (.getfield 21, 3) := by decide +kernel
theorem dX10_alignsAtSink_4 : decode cX10_alignsAtSink 4 = .ok (.bipush 90, 2) := by decide +kernel
theorem dX10_alignsAtSink_6 : decode cX10_alignsAtSink 6 = .ok (.iload_n 1, 1) := by decide +kernel
theorem dX10_alignsAtSink_7 : decode cX10_alignsAtSink 7 = .ok (.iload_n 2, 1) := by decide +kernel
theorem dX10_alignsAtSink_8 : decode cX10_alignsAtSink 8 = .ok (.invokestatic 125, 3) := by decide +kernel
theorem dX10_alignsAtSink_11 : decode cX10_alignsAtSink 11 = .ok (.iadd, 1) := by decide +kernel
theorem dX10_alignsAtSink_12 : decode cX10_alignsAtSink 12 = .ok (.iconst 1, 1) := by decide +kernel
theorem dX10_alignsAtSink_13 : decode cX10_alignsAtSink 13 = .ok (.iastore, 1) := by decide +kernel
theorem dX10_alignsAtSink_14 : decode cX10_alignsAtSink 14 = .ok (.aload_n 0, 1) := by decide +kernel
theorem dX10_alignsAtSink_15 : decode cX10_alignsAtSink 15 = .ok (.getfield 21, 3) := by decide +kernel
theorem dX10_alignsAtSink_18 : decode cX10_alignsAtSink 18 = .ok (.bipush 59, 2) := by decide +kernel
theorem dX10_alignsAtSink_20 : decode cX10_alignsAtSink 20 = .ok (.iload_n 1, 1) := by decide +kernel
theorem dX10_alignsAtSink_21 : decode cX10_alignsAtSink 21 = .ok (.iload_n 2, 1) := by decide +kernel
theorem dX10_alignsAtSink_22 : decode cX10_alignsAtSink 22 = .ok (.invokestatic 125, 3) := by decide +kernel
theorem dX10_alignsAtSink_25 : decode cX10_alignsAtSink 25 = .ok (.iadd, 1) := by decide +kernel
theorem dX10_alignsAtSink_26 : decode cX10_alignsAtSink 26 = .ok (.iconst 1, 1) := by decide +kernel
theorem dX10_alignsAtSink_27 : decode cX10_alignsAtSink 27 = .ok (.iastore, 1) := by decide +kernel
theorem dX10_alignsAtSink_28 : decode cX10_alignsAtSink 28 = .ok (.aload_n 0, 1) := by decide +kernel
theorem dX10_alignsAtSink_29 : decode cX10_alignsAtSink 29 = .ok (.iload_n 2, 1) := by decide +kernel
theorem dX10_alignsAtSink_30 : decode cX10_alignsAtSink 30 = .ok (.invokevirtual 164, 3) := by decide +kernel
theorem dX10_alignsAtSink_33 : decode cX10_alignsAtSink 33 = .ok (.aload_n 0, 1) := by decide +kernel
theorem dX10_alignsAtSink_34 : decode cX10_alignsAtSink 34 = .ok (.getfield 21, 3) := by decide +kernel
theorem dX10_alignsAtSink_37 : decode cX10_alignsAtSink 37 = .ok (.iconst 1, 1) := by decide +kernel
theorem dX10_alignsAtSink_38 : decode cX10_alignsAtSink 38 = .ok (.iaload, 1) := by decide +kernel
theorem dX10_alignsAtSink_39 : decode cX10_alignsAtSink 39 = .ok (.if_icmp .ge 4, 3) := by decide +kernel
theorem dX10_alignsAtSink_42 : decode cX10_alignsAtSink 42 = .ok (.return_, 1) := by decide +kernel
theorem dX10_alignsAtSink_43 : decode cX10_alignsAtSink 43 = .ok (.aload_n 0, 1) := by decide +kernel
theorem dX10_alignsAtSink_44 : decode cX10_alignsAtSink 44 = .ok (.iload_n 2, 1) := by decide +kernel
theorem dX10_alignsAtSink_45 : decode cX10_alignsAtSink 45 = .ok (.invokevirtual 167, 3) := by decide +kernel
theorem dX10_alignsAtSink_48 : decode cX10_alignsAtSink 48 = .ok (.iconst 0, 1) := by decide +kernel
theorem dX10_alignsAtSink_49 : decode cX10_alignsAtSink 49 = .ok (.istore_n 3, 1) := by decide +kernel
theorem dX10_alignsAtSink_50 : decode cX10_alignsAtSink 50 = .ok (.iload_n 3, 1) := by decide +kernel
theorem dX10_alignsAtSink_51 : decode cX10_alignsAtSink 51 = .ok (.aload_n 0, 1) := by decide +kernel
theorem dX10_alignsAtSink_52 : decode cX10_alignsAtSink 52 = .ok (.getfield 21, 3) := by decide +kernel
theorem dX10_alignsAtSink_55 : decode cX10_alignsAtSink 55 = .ok (.iconst 1, 1) := by decide +kernel
theorem dX10_alignsAtSink_56 : decode cX10_alignsAtSink 56 = .ok (.iaload, 1) := by decide +kernel
theorem dX10_alignsAtSink_57 : decode cX10_alignsAtSink 57 = .ok (.if_icmp .ge 23, 3) := by decide +kernel
theorem dX10_alignsAtSink_60 : decode cX10_alignsAtSink 60 = .ok (.aload_n 0, 1) := by decide +kernel
theorem dX10_alignsAtSink_61 : decode cX10_alignsAtSink 61 = .ok (.getfield 21, 3) := by decide +kernel
theorem dX10_alignsAtSink_64 : decode cX10_alignsAtSink 64 = .ok (.bipush 59, 2) := by decide +kernel
theorem dX10_alignsAtSink_66 : decode cX10_alignsAtSink 66 = .ok (.iload_n 3, 1) := by decide +kernel
theorem dX10_alignsAtSink_67 : decode cX10_alignsAtSink 67 = .ok (.iload_n 2, 1) := by decide +kernel
theorem dX10_alignsAtSink_68 : decode cX10_alignsAtSink 68 = .ok (.invokestatic 125, 3) := by decide +kernel
theorem dX10_alignsAtSink_71 : decode cX10_alignsAtSink 71 = .ok (.iadd, 1) := by decide +kernel
theorem dX10_alignsAtSink_72 : decode cX10_alignsAtSink 72 = .ok (.iconst 0, 1) := by decide +kernel
theorem dX10_alignsAtSink_73 : decode cX10_alignsAtSink 73 = .ok (.iastore, 1) := by decide +kernel
theorem dX10_alignsAtSink_74 : decode cX10_alignsAtSink 74 = .ok (.iinc 3 1, 3) := by decide +kernel
theorem dX10_alignsAtSink_77 : decode cX10_alignsAtSink 77 = .ok (.goto (-27), 3) := by decide +kernel
theorem dX10_alignsAtSink_80 : decode cX10_alignsAtSink 80 = .ok (.return_, 1) := by decide +kernel
theorem hyX10_alignsAtSink : yX10_alignsAtSink.cls ≠ "java/lang/invoke/MethodHandle" ∧ yX10_alignsAtSink.cls ≠ "java/lang/invoke/VarHandle" ∧ (parseMethodDescriptor yX10_alignsAtSink.desc).map (fun d => d.parameters.length) = some 2 := ⟨by decide +kernel, by decide +kernel, by decide +kernel⟩
def sX10_alignsAtSink_50b (x0 : Nat) (x2 : Int32) (σ : zS) (u3 : Int32) : Option ((zS × Int32) ⊕ zS) :=
  (zgR 9 6 σ x0).bind fun v11 => (zaI σ v11 1).bind fun v12 => (if v12 ≤ u3 then some (.inr σ) else (zgR 9 6 σ x0).bind fun v13 => (fX10_channelOut σ u3 x2).bind fun c14 => (zsI c14.1 v13 (59 + c14.2) 0).bind fun σ15 => some (.inl (σ15, u3 + 1)))
def sX10_alignsAtSink_50 (x0 : Nat) (x2 : Int32) (z : (zS × Int32)) : Option ((zS × Int32) ⊕ zS) := sX10_alignsAtSink_50b x0 x2 z.1 z.2
set_option maxRecDepth 100000 in
set_option maxHeartbeats 4000000 in
theorem wsX10_alignsAtSink_50b (C : zC p s m args meth c cX10_alignsAtSink RX10 4 D Ca B En) (hRm : zRm R 4 88 cells slots) (x0 : Nat) (x2 : Int32) (σ : zS) (u3 : Int32) (y : (zS × Int32) ⊕ zS) (hf : sX10_alignsAtSink_50b x0 x2 σ u3 = some y) (hk : (∀ z : (zS × Int32), y = .inl z → zW p l e R s m args below meth c cells slots Q D Ca B 4 z.1 N 50 [(0, .ref x0), (2, .int x2), (3, .int z.2)] []) ∧ (∀ z : zS, y = .inr z → zW p l e R s m args below meth c cells slots Q D Ca B 4 z N 80 [] [])) : zW p l e R s m args below meth c cells slots Q D Ca B 4 σ N 50 [(0, .ref x0), (2, .int x2), (3, .int u3)] [] := by
  unfold sX10_alignsAtSink_50b at hf
  refine z_iload_n C dX10_alignsAtSink_50 rfl 2 rfl ?_
  refine z_aload_n C dX10_alignsAtSink_51 rfl 0 rfl ?_
  obtain ⟨v11, hv11, hf⟩ := zbind hf
  refine gf_RX10_21 C hv11 dX10_alignsAtSink_52 ?_
  refine z_iconst C 1 dX10_alignsAtSink_55 (by decide) ?_
  obtain ⟨v12, hv12, hf⟩ := zbind hf
  refine z_aI C hv12 dX10_alignsAtSink_56 ?_
  refine z_icmp_ge C 80 dX10_alignsAtSink_57 (by decide) (fun q16 => ?_) (fun q16 => ?_)
  · rw [if_pos q16] at hf
    cases hf
    refine z_sub [] rfl ?_
    exact hk.2 _ rfl
  · rw [if_neg q16] at hf
    refine z_aload_n C dX10_alignsAtSink_60 rfl 0 rfl ?_
    obtain ⟨v13, hv13, hf⟩ := zbind hf
    refine gf_RX10_21 C hv13 dX10_alignsAtSink_61 ?_
    refine z_bipush C 59 dX10_alignsAtSink_64 (by decide) ?_
    refine z_iload_n C dX10_alignsAtSink_66 rfl 2 rfl ?_
    refine z_iload_n C dX10_alignsAtSink_67 rfl 1 rfl ?_
    obtain ⟨c14, hc14, hf⟩ := zbind hf
    refine z_callSi (As := [.int u3, .int x2]) (F0 := 4) (L0 := 88) C (mX10_channelOut l D Ca B En C.2.2.2.2.2.2.2.1 σ N u3 x2 _ hc14) hRm kw_1424 kw_14 kw_1422 kw_1423 hyX10_channelOut (Nat.le_of_ble_eq_true rfl) (Nat.le_of_ble_eq_true rfl) rfl rfl (Nat.le_of_ble_eq_true rfl) dX10_alignsAtSink_68 ?_
    refine z_iadd C dX10_alignsAtSink_71 ?_
    refine z_iconst C 0 dX10_alignsAtSink_72 (by decide) ?_
    obtain ⟨σ15, hσ15, hf⟩ := zbind hf
    refine z_sI C hσ15 dX10_alignsAtSink_73 ?_
    refine z_iinc (lv2 := [(3, .int (u3 + 1)), (0, .ref x0), (2, .int x2)]) C (u3 + 1) dX10_alignsAtSink_74 2 rfl rfl (by decide) rfl ?_
    refine z_goto C 50 dX10_alignsAtSink_77 (by decide) ?_
    cases hf
    refine z_sub [1, 2, 0] rfl ?_
    exact hk.1 _ rfl

theorem wsX10_alignsAtSink_50 (C : zC p s m args meth c cX10_alignsAtSink RX10 4 D Ca B En) (hRm : zRm R 4 88 cells slots) (x0 : Nat) (x2 : Int32) (n : Nat) (z : (zS × Int32)) (x : zS) (hf : zloop (sX10_alignsAtSink_50 x0 x2) n z = some x) (hk : (∀ o : zS, x = o → zW p l e R s m args below meth c cells slots Q D Ca B 4 o N 80 [] [])) : zW p l e R s m args below meth c cells slots Q D Ca B 4 z.1 N 50 [(0, .ref x0), (2, .int x2), (3, .int z.2)] [] := by
  refine zloop_W (P := fun z : (zS × Int32) => zW p l e R s m args below meth c cells slots Q D Ca B 4 z.1 N 50 [(0, .ref x0), (2, .int x2), (3, .int z.2)] []) (K := fun x : zS => (∀ o : zS, x = o → zW p l e R s m args below meth c cells slots Q D Ca B 4 o N 80 [] [])) ?_ n z x hf hk
  intro z y hy h1 h2
  refine wsX10_alignsAtSink_50b C hRm x0 x2 z.1 z.2 y hy ⟨fun z2 e => h1 z2 e, fun o e => (h2 _ e) o rfl⟩
def fX10_alignsAtSink (σ : zS) (x0 : Nat) (x1 : Int32) (x2 : Int32) : Option zS :=
  (zgR 9 6 σ x0).bind fun v1 => (fX10_channelOut σ x1 x2).bind fun c2 => (zsI c2.1 v1 (90 + c2.2) 1).bind fun σ3 => (zgR 9 6 σ3 x0).bind fun v4 => (fX10_channelOut σ3 x1 x2).bind fun c5 => (zsI c5.1 v4 (59 + c5.2) 1).bind fun σ6 => (zck 9 σ6 x0 (fX10_arrivedAtSink σ6 x0 x2)).bind fun c7 => (zgR 9 6 c7.1 x0).bind fun v8 => (zaI c7.1 v8 1).bind fun v9 => (if v9 ≤ c7.2 then (zck 9 c7.1 x0 (fX10_closes c7.1 x0 x2)).bind fun c10 => (zloop (sX10_alignsAtSink_50 x0 x2) zfuel (c10, 0)).bind fun o17 => some o17 else some c7.1)
set_option maxRecDepth 100000 in
set_option maxHeartbeats 4000000 in
theorem wfX10_alignsAtSink (C : zC p s m args meth c cX10_alignsAtSink RX10 4 D Ca B En) (hRm : zRm R 4 88 cells slots) (σ : zS) (x0 : Nat) (x1 : Int32) (x2 : Int32) (τ : zS) (hf : fX10_alignsAtSink σ x0 x1 x2 = some τ) (hq : ∀ (pc : Nat) (lv : List (Nat × Value)), decode cX10_alignsAtSink pc = .ok (.return_, 1) → zW p l e R s m args below meth c cells slots Q D Ca B 4 τ N pc lv []) : zW p l e R s m args below meth c cells slots Q D Ca B 4 σ N 0 [(0, .ref x0), (1, .int x1), (2, .int x2)] [] := by
  unfold fX10_alignsAtSink at hf
  refine z_aload_n C dX10_alignsAtSink_0 rfl 0 rfl ?_
  obtain ⟨v1, hv1, hf⟩ := zbind hf
  refine gf_RX10_21 C hv1 dX10_alignsAtSink_1 ?_
  refine z_bipush C 90 dX10_alignsAtSink_4 (by decide) ?_
  refine z_iload_n C dX10_alignsAtSink_6 rfl 1 rfl ?_
  refine z_iload_n C dX10_alignsAtSink_7 rfl 2 rfl ?_
  obtain ⟨c2, hc2, hf⟩ := zbind hf
  refine z_callSi (As := [.int x1, .int x2]) (F0 := 4) (L0 := 88) C (mX10_channelOut l D Ca B En C.2.2.2.2.2.2.2.1 σ N x1 x2 _ hc2) hRm kw_1424 kw_14 kw_1422 kw_1423 hyX10_channelOut (Nat.le_of_ble_eq_true rfl) (Nat.le_of_ble_eq_true rfl) rfl rfl (Nat.le_of_ble_eq_true rfl) dX10_alignsAtSink_8 ?_
  refine z_iadd C dX10_alignsAtSink_11 ?_
  refine z_iconst C 1 dX10_alignsAtSink_12 (by decide) ?_
  obtain ⟨σ3, hσ3, hf⟩ := zbind hf
  refine z_sI C hσ3 dX10_alignsAtSink_13 ?_
  refine z_aload_n C dX10_alignsAtSink_14 rfl 0 rfl ?_
  obtain ⟨v4, hv4, hf⟩ := zbind hf
  refine gf_RX10_21 C hv4 dX10_alignsAtSink_15 ?_
  refine z_bipush C 59 dX10_alignsAtSink_18 (by decide) ?_
  refine z_iload_n C dX10_alignsAtSink_20 rfl 1 rfl ?_
  refine z_iload_n C dX10_alignsAtSink_21 rfl 2 rfl ?_
  obtain ⟨c5, hc5, hf⟩ := zbind hf
  refine z_callSi (As := [.int x1, .int x2]) (F0 := 4) (L0 := 88) C (mX10_channelOut l D Ca B En C.2.2.2.2.2.2.2.1 σ3 N x1 x2 _ hc5) hRm kw_1424 kw_14 kw_1422 kw_1423 hyX10_channelOut (Nat.le_of_ble_eq_true rfl) (Nat.le_of_ble_eq_true rfl) rfl rfl (Nat.le_of_ble_eq_true rfl) dX10_alignsAtSink_22 ?_
  refine z_iadd C dX10_alignsAtSink_25 ?_
  refine z_iconst C 1 dX10_alignsAtSink_26 (by decide) ?_
  obtain ⟨σ6, hσ6, hf⟩ := zbind hf
  refine z_sI C hσ6 dX10_alignsAtSink_27 ?_
  refine z_aload_n C dX10_alignsAtSink_28 rfl 0 rfl ?_
  refine z_iload_n C dX10_alignsAtSink_29 rfl 2 rfl ?_
  obtain ⟨c7, hc7, hf⟩ := zbind hf
  obtain ⟨kc7, hc7⟩ := zck_ok hc7
  refine z_callVi (As := [.int x2]) (F0 := 4) (L0 := 88) C (mX10_arrivedAtSink l D Ca B En C.2.2.2.2.2.2.2.1 σ6 N x0 x2 _ hc7) hRm kc7 rfl kw_1536 kw_14 kw_1533 kw_1535 kp_67 hyX10_arrivedAtSink (Nat.le_of_ble_eq_true rfl) (Nat.le_of_ble_eq_true rfl) rfl rfl (Nat.le_of_ble_eq_true rfl) dX10_alignsAtSink_30 ?_
  refine z_aload_n C dX10_alignsAtSink_33 rfl 0 rfl ?_
  obtain ⟨v8, hv8, hf⟩ := zbind hf
  refine gf_RX10_21 C hv8 dX10_alignsAtSink_34 ?_
  refine z_iconst C 1 dX10_alignsAtSink_37 (by decide) ?_
  obtain ⟨v9, hv9, hf⟩ := zbind hf
  refine z_aI C hv9 dX10_alignsAtSink_38 ?_
  refine z_icmp_ge C 43 dX10_alignsAtSink_39 (by decide) (fun q18 => ?_) (fun q18 => ?_)
  · rw [if_pos q18] at hf
    refine z_aload_n C dX10_alignsAtSink_43 rfl 0 rfl ?_
    refine z_iload_n C dX10_alignsAtSink_44 rfl 2 rfl ?_
    obtain ⟨c10, hc10, hf⟩ := zbind hf
    obtain ⟨kc10, hc10⟩ := zck_ok hc10
    refine z_callVv (As := [.int x2]) (F0 := 4) (L0 := 88) C (mX10_closes l D Ca B En C.2.2.2.2.2.2.2.1 c7.1 N x0 x2 _ hc10) hRm kc10 rfl kw_1540 kw_14 kw_1537 kw_1539 kp_68 hyX10_closes (Nat.le_of_ble_eq_true rfl) (Nat.le_of_ble_eq_true rfl) rfl rfl (Nat.le_of_ble_eq_true rfl) dX10_alignsAtSink_45 ?_
    refine z_iconst C 0 dX10_alignsAtSink_48 (by decide) ?_
    refine z_istore_n (lv2 := [(3, .int 0), (0, .ref x0), (1, .int x1), (2, .int x2)]) C dX10_alignsAtSink_49 rfl (by decide) rfl ?_
    obtain ⟨o17, ho17, hf⟩ := zbind hf
    refine z_sub [1, 3, 0] rfl ?_
    refine wsX10_alignsAtSink_50 C hRm _ _ zfuel (c10, 0) o17 ho17 ?_
    intro z9 e9
    subst e9
    cases hf
    exact hq _ _ dX10_alignsAtSink_80
  · rw [if_neg q18] at hf
    cases hf
    exact hq _ _ dX10_alignsAtSink_42

theorem mX10_alignsAtSink (l : Launch) (D : va_G) (Ca : Nat → ClassId) (B : Nat) (En : State → Prop) (hE : zEk B En) (σ : zS) (N : Nat) (x0 : Nat) (x1 : Int32) (x2 : Int32) (X : zS) (hf : fX10_alignsAtSink σ x0 x1 x2 = some X) : zMv l D Ca B En yX10_alignsAtSink cX10_alignsAtSink 4 (Option.none : Option Jvm.ClassFile.FieldType) 4 88 [.ref x0, .int x1, .int x2] σ N X () :=
  zMet_v (own := RX10) hE (by decide +kernel) rfl (Nat.le_of_ble_eq_true rfl) (fun p e s m args below meth c C hr hRm => wfX10_alignsAtSink C hRm σ x0 x1 x2 X hf (fun pc lv hd => zfin_v (r := ()) C hr hd))
theorem dX10_keepsAhead_0 : decode cX10_keepsAhead 0 = .ok (.aload_n 0, 1) := by decide +kernel
theorem dX10_keepsAhead_1 : decode cX10_keepsAhead 1 = .ok (.iload_n 1, 1) := by decide +kernel
theorem dX10_keepsAhead_2 : decode cX10_keepsAhead 2 = .ok (.invokevirtual 170, 3) := by decide +kernel
theorem dX10_keepsAhead_5 : decode cX10_keepsAhead 5 = .ok (.istore_n 3, 1) := by decide +kernel
theorem dX10_keepsAhead_6 : decode cX10_keepsAhead 6 = .ok (.iconst 0, 1) := by decide +kernel
theorem dX10_keepsAhead_7 : decode cX10_keepsAhead 7 = .ok (.istore 4, 2) := by decide +kernel
theorem dX10_keepsAhead_9 : decode cX10_keepsAhead 9 = .ok (.iload 4, 2) := by decide +kernel
theorem dX10_keepsAhead_11 : decode cX10_keepsAhead 11 = .ok (.iload_n 3, 1) := by decide +kernel
theorem dX10_keepsAhead_12 : decode cX10_keepsAhead 12 = .ok (.if_icmp .ge 21, 3) := by decide +kernel
theorem dX10_keepsAhead_15 : decode cX10_keepsAhead 15 = .ok (.aload_n 0, 1) := by decide +kernel
theorem dX10_keepsAhead_16 : decode cX10_keepsAhead 16 = .ok (.iload_n 2, 1) := by decide +kernel
theorem dX10_keepsAhead_17 : decode cX10_keepsAhead 17 = .ok (.aload_n 0, 1) := by decide +kernel
theorem dX10_keepsAhead_18 : decode cX10_keepsAhead 18 = .ok (.iload_n 1, 1) := by decide +kernel
theorem dX10_keepsAhead_19 : decode cX10_keepsAhead 19 = .ok (.iload 4, 2) := by decide +kernel
theorem dX10_keepsAhead_21 : decode cX10_keepsAhead 21 = .ok (.invokevirtual 100, 3) := by decide +kernel
theorem dX10_keepsAhead_24 : decode cX10_keepsAhead 24 = .ok (.invokevirtual 104, 3) := by decide +kernel
theorem dX10_keepsAhead_27 : decode cX10_keepsAhead 27 = .ok (.iinc 4 1, 3) := by decide +kernel
theorem dX10_keepsAhead_30 : decode cX10_keepsAhead 30 = .ok (.goto (-21), 3) := by decide +kernel
theorem dX10_keepsAhead_33 : decode cX10_keepsAhead 33 = .ok (.aload_n 0, 1) := by decide +kernel
theorem dX10_keepsAhead_34 : decode cX10_keepsAhead 34 = .ok (.iload_n 1, 1) := by decide +kernel
theorem dX10_keepsAhead_35 : decode cX10_keepsAhead 35 = .ok (.iload_n 3, 1) := by decide +kernel
theorem dX10_keepsAhead_36 : decode cX10_keepsAhead 36 = .ok (.invokevirtual 173, 3) := by decide +kernel
theorem dX10_keepsAhead_39 : decode cX10_keepsAhead 39 = .ok (.return_, 1) := by decide +kernel
theorem hyX10_keepsAhead : yX10_keepsAhead.cls ≠ "java/lang/invoke/MethodHandle" ∧ yX10_keepsAhead.cls ≠ "java/lang/invoke/VarHandle" ∧ (parseMethodDescriptor yX10_keepsAhead.desc).map (fun d => d.parameters.length) = some 2 := ⟨by decide +kernel, by decide +kernel, by decide +kernel⟩
def sX10_keepsAhead_9b (x0 : Nat) (x1 : Int32) (x2 : Int32) (x3 : Int32) (σ : zS) (u4 : Int32) : Option ((zS × Int32) ⊕ zS) :=
  (if x3 ≤ u4 then some (.inr σ) else (zck 9 σ x0 (fX10_at σ x0 x1 u4)).bind fun c2 => (zck 9 c2.1 x0 (fX10_adds c2.1 x0 x2 c2.2)).bind fun c3 => some (.inl (c3, u4 + 1)))
def sX10_keepsAhead_9 (x0 : Nat) (x1 : Int32) (x2 : Int32) (x3 : Int32) (z : (zS × Int32)) : Option ((zS × Int32) ⊕ zS) := sX10_keepsAhead_9b x0 x1 x2 x3 z.1 z.2
set_option maxRecDepth 100000 in
set_option maxHeartbeats 4000000 in
theorem wsX10_keepsAhead_9b (C : zC p s m args meth c cX10_keepsAhead RX10 5 D Ca B En) (hRm : zRm R 2 44 cells slots) (x0 : Nat) (x1 : Int32) (x2 : Int32) (x3 : Int32) (σ : zS) (u4 : Int32) (y : (zS × Int32) ⊕ zS) (hf : sX10_keepsAhead_9b x0 x1 x2 x3 σ u4 = some y) (hk : (∀ z : (zS × Int32), y = .inl z → zW p l e R s m args below meth c cells slots Q D Ca B 5 z.1 N 9 [(0, .ref x0), (1, .int x1), (2, .int x2), (3, .int x3), (4, .int z.2)] []) ∧ (∀ z : zS, y = .inr z → zW p l e R s m args below meth c cells slots Q D Ca B 5 z N 33 [(0, .ref x0), (1, .int x1), (3, .int x3)] [])) : zW p l e R s m args below meth c cells slots Q D Ca B 5 σ N 9 [(0, .ref x0), (1, .int x1), (2, .int x2), (3, .int x3), (4, .int u4)] [] := by
  unfold sX10_keepsAhead_9b at hf
  refine z_iload C dX10_keepsAhead_9 4 rfl ?_
  refine z_iload_n C dX10_keepsAhead_11 rfl 3 rfl ?_
  refine z_icmp_ge C 33 dX10_keepsAhead_12 (by decide) (fun q4 => ?_) (fun q4 => ?_)
  · rw [if_pos q4] at hf
    cases hf
    refine z_sub [0, 1, 3] rfl ?_
    exact hk.2 _ rfl
  · rw [if_neg q4] at hf
    refine z_aload_n C dX10_keepsAhead_15 rfl 0 rfl ?_
    refine z_iload_n C dX10_keepsAhead_16 rfl 2 rfl ?_
    refine z_aload_n C dX10_keepsAhead_17 rfl 0 rfl ?_
    refine z_iload_n C dX10_keepsAhead_18 rfl 1 rfl ?_
    refine z_iload C dX10_keepsAhead_19 4 rfl ?_
    obtain ⟨c2, hc2, hf⟩ := zbind hf
    obtain ⟨kc2, hc2⟩ := zck_ok hc2
    refine z_callVi (As := [.int x1, .int u4]) (F0 := 2) (L0 := 44) C (mX10_at l D Ca B En C.2.2.2.2.2.2.2.1 σ N x0 x1 u4 _ hc2) hRm kc2 rfl kw_1439 kw_14 kw_1436 kw_1438 kp_45 hyX10_at (Nat.le_of_ble_eq_true rfl) (Nat.le_of_ble_eq_true rfl) rfl rfl (Nat.le_of_ble_eq_true rfl) dX10_keepsAhead_21 ?_
    obtain ⟨c3, hc3, hf⟩ := zbind hf
    obtain ⟨kc3, hc3⟩ := zck_ok hc3
    refine z_callVv (As := [.int x2, .int c2.2]) (F0 := 2) (L0 := 44) C (mX10_adds l D Ca B En C.2.2.2.2.2.2.2.1 c2.1 N x0 x2 c2.2 _ hc3) hRm kc3 rfl kw_1443 kw_14 kw_1440 kw_1442 kp_46 hyX10_adds (Nat.le_of_ble_eq_true rfl) (Nat.le_of_ble_eq_true rfl) rfl rfl (Nat.le_of_ble_eq_true rfl) dX10_keepsAhead_24 ?_
    refine z_iinc (lv2 := [(4, .int (u4 + 1)), (0, .ref x0), (1, .int x1), (2, .int x2), (3, .int x3)]) C (u4 + 1) dX10_keepsAhead_27 4 rfl rfl (by decide) rfl ?_
    refine z_goto C 9 dX10_keepsAhead_30 (by decide) ?_
    cases hf
    refine z_sub [1, 2, 3, 4, 0] rfl ?_
    exact hk.1 _ rfl

theorem wsX10_keepsAhead_9 (C : zC p s m args meth c cX10_keepsAhead RX10 5 D Ca B En) (hRm : zRm R 2 44 cells slots) (x0 : Nat) (x1 : Int32) (x2 : Int32) (x3 : Int32) (n : Nat) (z : (zS × Int32)) (x : zS) (hf : zloop (sX10_keepsAhead_9 x0 x1 x2 x3) n z = some x) (hk : (∀ o : zS, x = o → zW p l e R s m args below meth c cells slots Q D Ca B 5 o N 33 [(0, .ref x0), (1, .int x1), (3, .int x3)] [])) : zW p l e R s m args below meth c cells slots Q D Ca B 5 z.1 N 9 [(0, .ref x0), (1, .int x1), (2, .int x2), (3, .int x3), (4, .int z.2)] [] := by
  refine zloop_W (P := fun z : (zS × Int32) => zW p l e R s m args below meth c cells slots Q D Ca B 5 z.1 N 9 [(0, .ref x0), (1, .int x1), (2, .int x2), (3, .int x3), (4, .int z.2)] []) (K := fun x : zS => (∀ o : zS, x = o → zW p l e R s m args below meth c cells slots Q D Ca B 5 o N 33 [(0, .ref x0), (1, .int x1), (3, .int x3)] [])) ?_ n z x hf hk
  intro z y hy h1 h2
  refine wsX10_keepsAhead_9b C hRm x0 x1 x2 x3 z.1 z.2 y hy ⟨fun z2 e => h1 z2 e, fun o e => (h2 _ e) o rfl⟩
def fX10_keepsAhead (σ : zS) (x0 : Nat) (x1 : Int32) (x2 : Int32) : Option zS :=
  (zck 9 σ x0 (fX10_barrierIn σ x0 x1)).bind fun c1 => (zloop (sX10_keepsAhead_9 x0 x1 x2 c1.2) zfuel (c1.1, 0)).bind fun o5 => (zck 9 o5 x0 (fX10_removes o5 x0 x1 c1.2)).bind fun c6 => some c6
set_option maxRecDepth 100000 in
set_option maxHeartbeats 4000000 in
theorem wfX10_keepsAhead (C : zC p s m args meth c cX10_keepsAhead RX10 5 D Ca B En) (hRm : zRm R 2 44 cells slots) (σ : zS) (x0 : Nat) (x1 : Int32) (x2 : Int32) (τ : zS) (hf : fX10_keepsAhead σ x0 x1 x2 = some τ) (hq : ∀ (pc : Nat) (lv : List (Nat × Value)), decode cX10_keepsAhead pc = .ok (.return_, 1) → zW p l e R s m args below meth c cells slots Q D Ca B 5 τ N pc lv []) : zW p l e R s m args below meth c cells slots Q D Ca B 5 σ N 0 [(0, .ref x0), (1, .int x1), (2, .int x2)] [] := by
  unfold fX10_keepsAhead at hf
  refine z_aload_n C dX10_keepsAhead_0 rfl 0 rfl ?_
  refine z_iload_n C dX10_keepsAhead_1 rfl 1 rfl ?_
  obtain ⟨c1, hc1, hf⟩ := zbind hf
  obtain ⟨kc1, hc1⟩ := zck_ok hc1
  refine z_callVi (As := [.int x1]) (F0 := 2) (L0 := 44) C (mX10_barrierIn l D Ca B En C.2.2.2.2.2.2.2.1 σ N x0 x1 _ hc1) hRm kc1 rfl kw_1485 kw_14 kw_1482 kw_1484 kp_55 hyX10_barrierIn (Nat.le_of_ble_eq_true rfl) (Nat.le_of_ble_eq_true rfl) rfl rfl (Nat.le_of_ble_eq_true rfl) dX10_keepsAhead_2 ?_
  refine z_istore_n (lv2 := [(3, .int c1.2), (0, .ref x0), (1, .int x1), (2, .int x2)]) C dX10_keepsAhead_5 rfl (by decide) rfl ?_
  refine z_iconst C 0 dX10_keepsAhead_6 (by decide) ?_
  refine z_istore (lv2 := [(4, .int 0), (3, .int c1.2), (0, .ref x0), (1, .int x1), (2, .int x2)]) C dX10_keepsAhead_7 (by decide) rfl ?_
  obtain ⟨o5, ho5, hf⟩ := zbind hf
  refine z_sub [2, 3, 4, 1, 0] rfl ?_
  refine wsX10_keepsAhead_9 C hRm _ _ _ _ zfuel (c1.1, 0) o5 ho5 ?_
  intro z9 e9
  subst e9
  refine z_aload_n C dX10_keepsAhead_33 rfl 0 rfl ?_
  refine z_iload_n C dX10_keepsAhead_34 rfl 1 rfl ?_
  refine z_iload_n C dX10_keepsAhead_35 rfl 2 rfl ?_
  obtain ⟨c6, hc6, hf⟩ := zbind hf
  obtain ⟨kc6, hc6⟩ := zck_ok hc6
  refine z_callVv (As := [.int x1, .int c1.2]) (F0 := 2) (L0 := 44) C (mX10_removes l D Ca B En C.2.2.2.2.2.2.2.1 o5 N x0 x1 c1.2 _ hc6) hRm kc6 rfl kw_1504 kw_14 kw_1501 kw_1503 kp_59 hyX10_removes (Nat.le_of_ble_eq_true rfl) (Nat.le_of_ble_eq_true rfl) rfl rfl (Nat.le_of_ble_eq_true rfl) dX10_keepsAhead_36 ?_
  cases hf
  exact hq _ _ dX10_keepsAhead_39

theorem mX10_keepsAhead (l : Launch) (D : va_G) (Ca : Nat → ClassId) (B : Nat) (En : State → Prop) (hE : zEk B En) (σ : zS) (N : Nat) (x0 : Nat) (x1 : Int32) (x2 : Int32) (X : zS) (hf : fX10_keepsAhead σ x0 x1 x2 = some X) : zMv l D Ca B En yX10_keepsAhead cX10_keepsAhead 5 (Option.none : Option Jvm.ClassFile.FieldType) 2 44 [.ref x0, .int x1, .int x2] σ N X () :=
  zMet_v (own := RX10) hE (by decide +kernel) rfl (Nat.le_of_ble_eq_true rfl) (fun p e s m args below meth c C hr hRm => wfX10_keepsAhead C hRm σ x0 x1 x2 X hf (fun pc lv hd => zfin_v (r := ()) C hr hd))
theorem dX10_overtakesAt_0 : decode cX10_overtakesAt 0 = .ok (.aload_n 0, 1) := by decide +kernel
theorem dX10_overtakesAt_1 : decode cX10_overtakesAt 1 = .ok (.iload_n 1, 1) := by decide +kernel
theorem dX10_overtakesAt_2 : decode cX10_overtakesAt 2 = .ok (.iload_n 2, 1) := by decide +kernel
theorem dX10_overtakesAt_3 : decode cX10_overtakesAt 3 = .ok (.invokestatic 176, 3) := by decide +kernel
theorem dX10_overtakesAt_6 : decode cX10_overtakesAt 6 = .ok (.invokevirtual 170, 3) := by decide +kernel
theorem dX10_overtakesAt_9 : decode cX10_overtakesAt 9 = .ok (.iconst (-1), 1) := by decide +kernel
theorem dX10_overtakesAt_10 : decode cX10_overtakesAt 10 = .ok (.if_icmp .ne 4, 3) := by decide +kernel
theorem dX10_overtakesAt_13 : decode cX10_overtakesAt 13 = .ok (.return_, 1) := by decide +kernel
theorem dX10_overtakesAt_14 : decode cX10_overtakesAt 14 = .ok (.aload_n 0, 1) := by decide +kernel
theorem dX10_overtakesAt_15 : decode cX10_overtakesAt 15 = .ok (.iload_n 2, 1) := by decide +kernel
theorem dX10_overtakesAt_16 : decode cX10_overtakesAt 16 = .ok (.invokevirtual 158, 3) := by decide +kernel
theorem dX10_overtakesAt_19 : decode cX10_overtakesAt 19 = .ok (.ifCond .ne 8, 3) := by decide +kernel
theorem dX10_overtakesAt_22 : decode cX10_overtakesAt 22 = .ok (.aload_n 0, 1) := by decide +kernel
theorem dX10_overtakesAt_23 : decode cX10_overtakesAt 23 = .ok (.iload_n 2, 1) := by decide +kernel
theorem dX10_overtakesAt_24 : decode cX10_overtakesAt 24 = .ok (.invokevirtual 161, 3) := by decide +kernel
theorem dX10_overtakesAt_27 : decode cX10_overtakesAt 27 = .ok (.aload_n 0, 1) := by decide +kernel
theorem dX10_overtakesAt_28 : decode cX10_overtakesAt 28 = .ok (.iload_n 1, 1) := by decide +kernel
theorem dX10_overtakesAt_29 : decode cX10_overtakesAt 29 = .ok (.iload_n 2, 1) := by decide +kernel
theorem dX10_overtakesAt_30 : decode cX10_overtakesAt 30 = .ok (.invokestatic 176, 3) := by decide +kernel
theorem dX10_overtakesAt_33 : decode cX10_overtakesAt 33 = .ok (.iload_n 1, 1) := by decide +kernel
theorem dX10_overtakesAt_34 : decode cX10_overtakesAt 34 = .ok (.iload_n 2, 1) := by decide +kernel
theorem dX10_overtakesAt_35 : decode cX10_overtakesAt 35 = .ok (.invokestatic 134, 3) := by decide +kernel
theorem dX10_overtakesAt_38 : decode cX10_overtakesAt 38 = .ok (.invokevirtual 179, 3) := by decide +kernel
theorem dX10_overtakesAt_41 : decode cX10_overtakesAt 41 = .ok (.aload_n 0, 1) := by decide +kernel
theorem dX10_overtakesAt_42 : decode cX10_overtakesAt 42 = .ok (.getfield 21, 3) := by decide +kernel
theorem dX10_overtakesAt_45 : decode cX10_overtakesAt 45 = .ok (.bipush 74, 2) := by decide +kernel
theorem dX10_overtakesAt_47 : decode cX10_overtakesAt 47 = .ok (.iload_n 1, 1) := by decide +kernel
theorem dX10_overtakesAt_48 : decode cX10_overtakesAt 48 = .ok (.iload_n 2, 1) := by decide +kernel
theorem dX10_overtakesAt_49 : decode cX10_overtakesAt 49 = .ok (.invokestatic 122, 3) := by decide +kernel
theorem dX10_overtakesAt_52 : decode cX10_overtakesAt 52 = .ok (.iadd, 1) := by decide +kernel
theorem dX10_overtakesAt_53 : decode cX10_overtakesAt 53 = .ok (.iconst 1, 1) := by decide +kernel
theorem dX10_overtakesAt_54 : decode cX10_overtakesAt 54 = .ok (.iastore, 1) := by decide +kernel
theorem dX10_overtakesAt_55 : decode cX10_overtakesAt 55 = .ok (.return_, 1) := by decide +kernel
theorem hyX10_overtakesAt : yX10_overtakesAt.cls ≠ "java/lang/invoke/MethodHandle" ∧ yX10_overtakesAt.cls ≠ "java/lang/invoke/VarHandle" ∧ (parseMethodDescriptor yX10_overtakesAt.desc).map (fun d => d.parameters.length) = some 2 := ⟨by decide +kernel, by decide +kernel, by decide +kernel⟩
def jX10_overtakesAt_27 (σ : zS) (x0 : Nat) (x1 : Int32) (x2 : Int32)  : Option zS :=
  (fX10_toInstance σ x1 x2).bind fun c4 => (fX10_keptIn c4.1 x1 x2).bind fun c5 => (zck 9 c5.1 x0 (fX10_keepsAhead c5.1 x0 c4.2 c5.2)).bind fun c6 => (zgR 9 6 c6 x0).bind fun v7 => (fX10_channelIn c6 x1 x2).bind fun c8 => (zsI c8.1 v7 (74 + c8.2) 1).bind fun σ9 => some σ9
set_option maxRecDepth 100000 in
set_option maxHeartbeats 4000000 in
theorem wjX10_overtakesAt_27 (C : zC p s m args meth c cX10_overtakesAt RX10 3 D Ca B En) (hRm : zRm R 3 68 cells slots) (σ : zS) (x0 : Nat) (x1 : Int32) (x2 : Int32)  (τ : zS) (hf : jX10_overtakesAt_27 σ x0 x1 x2  = some τ) (hq : ∀ (pc : Nat) (lv : List (Nat × Value)), decode cX10_overtakesAt pc = .ok (.return_, 1) → zW p l e R s m args below meth c cells slots Q D Ca B 3 τ N pc lv []) : zW p l e R s m args below meth c cells slots Q D Ca B 3 σ N 27 [(0, .ref x0), (1, .int x1), (2, .int x2)] [] := by
  unfold jX10_overtakesAt_27 at hf
  refine z_aload_n C dX10_overtakesAt_27 rfl 0 rfl ?_
  refine z_iload_n C dX10_overtakesAt_28 rfl 1 rfl ?_
  refine z_iload_n C dX10_overtakesAt_29 rfl 2 rfl ?_
  obtain ⟨c4, hc4, hf⟩ := zbind hf
  refine z_callSi (As := [.int x1, .int x2]) (F0 := 3) (L0 := 68) C (mX10_toInstance l D Ca B En C.2.2.2.2.2.2.2.1 σ N x1 x2 _ hc4) hRm kw_1450 kw_14 kw_1448 kw_1449 hyX10_toInstance (Nat.le_of_ble_eq_true rfl) (Nat.le_of_ble_eq_true rfl) rfl rfl (Nat.le_of_ble_eq_true rfl) dX10_overtakesAt_30 ?_
  refine z_iload_n C dX10_overtakesAt_33 rfl 1 rfl ?_
  refine z_iload_n C dX10_overtakesAt_34 rfl 2 rfl ?_
  obtain ⟨c5, hc5, hf⟩ := zbind hf
  refine z_callSi (As := [.int x1, .int x2]) (F0 := 3) (L0 := 68) C (mX10_keptIn l D Ca B En C.2.2.2.2.2.2.2.1 c4.1 N x1 x2 _ hc5) hRm kw_1411 kw_14 kw_1409 kw_1410 hyX10_keptIn (Nat.le_of_ble_eq_true rfl) (Nat.le_of_ble_eq_true rfl) rfl rfl (Nat.le_of_ble_eq_true rfl) dX10_overtakesAt_35 ?_
  obtain ⟨c6, hc6, hf⟩ := zbind hf
  obtain ⟨kc6, hc6⟩ := zck_ok hc6
  refine z_callVv (As := [.int c4.2, .int c5.2]) (F0 := 3) (L0 := 68) C (mX10_keepsAhead l D Ca B En C.2.2.2.2.2.2.2.1 c5.1 N x0 c4.2 c5.2 _ hc6) hRm kc6 rfl kw_1500 kw_14 kw_1497 kw_1499 kp_58 hyX10_keepsAhead (Nat.le_of_ble_eq_true rfl) (Nat.le_of_ble_eq_true rfl) rfl rfl (Nat.le_of_ble_eq_true rfl) dX10_overtakesAt_38 ?_
  refine z_aload_n C dX10_overtakesAt_41 rfl 0 rfl ?_
  obtain ⟨v7, hv7, hf⟩ := zbind hf
  refine gf_RX10_21 C hv7 dX10_overtakesAt_42 ?_
  refine z_bipush C 74 dX10_overtakesAt_45 (by decide) ?_
  refine z_iload_n C dX10_overtakesAt_47 rfl 1 rfl ?_
  refine z_iload_n C dX10_overtakesAt_48 rfl 2 rfl ?_
  obtain ⟨c8, hc8, hf⟩ := zbind hf
  refine z_callSi (As := [.int x1, .int x2]) (F0 := 3) (L0 := 68) C (mX10_channelIn l D Ca B En C.2.2.2.2.2.2.2.1 c6 N x1 x2 _ hc8) hRm kw_1414 kw_14 kw_1412 kw_1413 hyX10_channelIn (Nat.le_of_ble_eq_true rfl) (Nat.le_of_ble_eq_true rfl) rfl rfl (Nat.le_of_ble_eq_true rfl) dX10_overtakesAt_49 ?_
  refine z_iadd C dX10_overtakesAt_52 ?_
  refine z_iconst C 1 dX10_overtakesAt_53 (by decide) ?_
  obtain ⟨σ9, hσ9, hf⟩ := zbind hf
  refine z_sI C hσ9 dX10_overtakesAt_54 ?_
  cases hf
  exact hq _ _ dX10_overtakesAt_55

def fX10_overtakesAt (σ : zS) (x0 : Nat) (x1 : Int32) (x2 : Int32) : Option zS :=
  (fX10_toInstance σ x1 x2).bind fun c1 => (zck 9 c1.1 x0 (fX10_barrierIn c1.1 x0 c1.2)).bind fun c2 => (if c2.2 = ((-1)) then some c2.1 else (zck 9 c2.1 x0 (fX10_arrivedAt c2.1 x0 x2)).bind fun c3 => (if c3.2 = 0 then (zck 9 c3.1 x0 (fX10_notes c3.1 x0 x2)).bind fun c10 => jX10_overtakesAt_27 c10 x0 x1 x2 else jX10_overtakesAt_27 c3.1 x0 x1 x2))
set_option maxRecDepth 100000 in
set_option maxHeartbeats 4000000 in
theorem wfX10_overtakesAt (C : zC p s m args meth c cX10_overtakesAt RX10 3 D Ca B En) (hRm : zRm R 3 68 cells slots) (σ : zS) (x0 : Nat) (x1 : Int32) (x2 : Int32) (τ : zS) (hf : fX10_overtakesAt σ x0 x1 x2 = some τ) (hq : ∀ (pc : Nat) (lv : List (Nat × Value)), decode cX10_overtakesAt pc = .ok (.return_, 1) → zW p l e R s m args below meth c cells slots Q D Ca B 3 τ N pc lv []) : zW p l e R s m args below meth c cells slots Q D Ca B 3 σ N 0 [(0, .ref x0), (1, .int x1), (2, .int x2)] [] := by
  unfold fX10_overtakesAt at hf
  refine z_aload_n C dX10_overtakesAt_0 rfl 0 rfl ?_
  refine z_iload_n C dX10_overtakesAt_1 rfl 1 rfl ?_
  refine z_iload_n C dX10_overtakesAt_2 rfl 2 rfl ?_
  obtain ⟨c1, hc1, hf⟩ := zbind hf
  refine z_callSi (As := [.int x1, .int x2]) (F0 := 3) (L0 := 68) C (mX10_toInstance l D Ca B En C.2.2.2.2.2.2.2.1 σ N x1 x2 _ hc1) hRm kw_1450 kw_14 kw_1448 kw_1449 hyX10_toInstance (Nat.le_of_ble_eq_true rfl) (Nat.le_of_ble_eq_true rfl) rfl rfl (Nat.le_of_ble_eq_true rfl) dX10_overtakesAt_3 ?_
  obtain ⟨c2, hc2, hf⟩ := zbind hf
  obtain ⟨kc2, hc2⟩ := zck_ok hc2
  refine z_callVi (As := [.int c1.2]) (F0 := 3) (L0 := 68) C (mX10_barrierIn l D Ca B En C.2.2.2.2.2.2.2.1 c1.1 N x0 c1.2 _ hc2) hRm kc2 rfl kw_1485 kw_14 kw_1482 kw_1484 kp_55 hyX10_barrierIn (Nat.le_of_ble_eq_true rfl) (Nat.le_of_ble_eq_true rfl) rfl rfl (Nat.le_of_ble_eq_true rfl) dX10_overtakesAt_6 ?_
  refine z_iconst C (-1) dX10_overtakesAt_9 (by decide) ?_
  refine z_icmp_ne C 14 dX10_overtakesAt_10 (by decide) (fun q12 => ?_) (fun q12 => ?_)
  · rw [if_neg q12] at hf
    refine z_aload_n C dX10_overtakesAt_14 rfl 0 rfl ?_
    refine z_iload_n C dX10_overtakesAt_15 rfl 2 rfl ?_
    obtain ⟨c3, hc3, hf⟩ := zbind hf
    obtain ⟨kc3, hc3⟩ := zck_ok hc3
    refine z_callVi (As := [.int x2]) (F0 := 3) (L0 := 68) C (mX10_arrivedAt l D Ca B En C.2.2.2.2.2.2.2.1 c2.1 N x0 x2 _ hc3) hRm kc3 rfl kw_1489 kw_14 kw_1486 kw_1488 kp_56 hyX10_arrivedAt (Nat.le_of_ble_eq_true rfl) (Nat.le_of_ble_eq_true rfl) rfl rfl (Nat.le_of_ble_eq_true rfl) dX10_overtakesAt_16 ?_
    refine z_if_ne C 27 dX10_overtakesAt_19 (by decide) (fun q11 => ?_) (fun q11 => ?_)
    · rw [if_neg q11] at hf
      refine z_sub [0, 1, 2] rfl ?_
      exact wjX10_overtakesAt_27 C hRm _ _ _ _  _ hf hq
    · rw [if_pos q11] at hf
      refine z_aload_n C dX10_overtakesAt_22 rfl 0 rfl ?_
      refine z_iload_n C dX10_overtakesAt_23 rfl 2 rfl ?_
      obtain ⟨c10, hc10, hf⟩ := zbind hf
      obtain ⟨kc10, hc10⟩ := zck_ok hc10
      refine z_callVv (As := [.int x2]) (F0 := 3) (L0 := 68) C (mX10_notes l D Ca B En C.2.2.2.2.2.2.2.1 c3.1 N x0 x2 _ hc10) hRm kc10 rfl kw_1493 kw_14 kw_1490 kw_1492 kp_57 hyX10_notes (Nat.le_of_ble_eq_true rfl) (Nat.le_of_ble_eq_true rfl) rfl rfl (Nat.le_of_ble_eq_true rfl) dX10_overtakesAt_24 ?_
      refine z_sub [0, 1, 2] rfl ?_
      exact wjX10_overtakesAt_27 C hRm _ _ _ _  _ hf hq
  · rw [if_pos q12] at hf
    cases hf
    exact hq _ _ dX10_overtakesAt_13

theorem mX10_overtakesAt (l : Launch) (D : va_G) (Ca : Nat → ClassId) (B : Nat) (En : State → Prop) (hE : zEk B En) (σ : zS) (N : Nat) (x0 : Nat) (x1 : Int32) (x2 : Int32) (X : zS) (hf : fX10_overtakesAt σ x0 x1 x2 = some X) : zMv l D Ca B En yX10_overtakesAt cX10_overtakesAt 3 (Option.none : Option Jvm.ClassFile.FieldType) 3 68 [.ref x0, .int x1, .int x2] σ N X () :=
  zMet_v (own := RX10) hE (by decide +kernel) rfl (Nat.le_of_ble_eq_true rfl) (fun p e s m args below meth c C hr hRm => wfX10_overtakesAt C hRm σ x0 x1 x2 X hf (fun pc lv hd => zfin_v (r := ()) C hr hd))
theorem dX10_overtakesAtSink_0 : decode cX10_overtakesAtSink 0 = .ok (.aload_n 0, 1) := by decide +kernel
theorem dX10_overtakesAtSink_1 : decode cX10_overtakesAtSink 1 = .ok (.iload_n 1, 1) := by decide +kernel
theorem dX10_overtakesAtSink_2 : decode cX10_overtakesAtSink 2 = .ok (.iload_n 2, 1) := by decide +kernel
theorem dX10_overtakesAtSink_3 : decode cX10_overtakesAtSink 3 = .ok (.invokestatic 152, 3) := by decide +kernel
theorem dX10_overtakesAtSink_6 : decode cX10_overtakesAtSink 6 = .ok (.invokevirtual 170, 3) := by decide +kernel
theorem dX10_overtakesAtSink_9 : decode cX10_overtakesAtSink 9 = .ok (.iconst (-1), 1) := by decide +kernel
theorem dX10_overtakesAtSink_10 : decode cX10_overtakesAtSink 10 = .ok (.if_icmp .ne 4, 3) := by decide +kernel
theorem dX10_overtakesAtSink_13 : decode cX10_overtakesAtSink 13 = .ok (.return_, 1) := by decide +kernel
theorem dX10_overtakesAtSink_14 : decode cX10_overtakesAtSink 14 = .ok (.aload_n 0, 1) := by decide +kernel
theorem dX10_overtakesAtSink_15 : decode cX10_overtakesAtSink 15 = .ok (.iload_n 2, 1) := by decide +kernel
theorem dX10_overtakesAtSink_16 : decode cX10_overtakesAtSink 16 = .ok (.invokevirtual 164, 3) := by decide +kernel
theorem dX10_overtakesAtSink_19 : decode cX10_overtakesAtSink 19 = .ok (.ifCond .ne 8, 3) := by decide +kernel
theorem dX10_overtakesAtSink_22 : decode cX10_overtakesAtSink 22 = .ok (.aload_n 0, 1) := by decide +kernel
theorem dX10_overtakesAtSink_23 : decode cX10_overtakesAtSink 23 = .ok (.iload_n 2, 1) := by decide +kernel
theorem dX10_overtakesAtSink_24 : decode cX10_overtakesAtSink 24 = .ok (.invokevirtual 167, 3) := by decide +kernel
theorem dX10_overtakesAtSink_27 : decode cX10_overtakesAtSink 27 = .ok (.aload_n 0, 1) := by decide +kernel
theorem dX10_overtakesAtSink_28 : decode cX10_overtakesAtSink 28 = .ok (.iload_n 1, 1) := by decide +kernel
theorem dX10_overtakesAtSink_29 : decode cX10_overtakesAtSink 29 = .ok (.iload_n 2, 1) := by decide +kernel
theorem dX10_overtakesAtSink_30 : decode cX10_overtakesAtSink 30 = .ok (.invokestatic 152, 3) := by decide +kernel
theorem dX10_overtakesAtSink_33 : decode cX10_overtakesAtSink 33 = .ok (.iload_n 1, 1) := by decide +kernel
theorem dX10_overtakesAtSink_34 : decode cX10_overtakesAtSink 34 = .ok (.iload_n 2, 1) := by decide +kernel
theorem dX10_overtakesAtSink_35 : decode cX10_overtakesAtSink 35 = .ok (.invokestatic 137, 3) := by decide +kernel
theorem dX10_overtakesAtSink_38 : decode cX10_overtakesAtSink 38 = .ok (.invokevirtual 179, 3) := by decide +kernel
theorem dX10_overtakesAtSink_41 : decode cX10_overtakesAtSink 41 = .ok (.aload_n 0, 1) := by decide +kernel
theorem dX10_overtakesAtSink_42 : decode cX10_overtakesAtSink 42 = .ok (.getfield 21, 3) := by decide +kernel
theorem dX10_overtakesAtSink_45 : decode cX10_overtakesAtSink 45 = .ok (.bipush 90, 2) := by decide +kernel
theorem dX10_overtakesAtSink_47 : decode cX10_overtakesAtSink 47 = .ok (.iload_n 1, 1) := by decide +kernel
theorem dX10_overtakesAtSink_48 : decode cX10_overtakesAtSink 48 = .ok (.iload_n 2, 1) := by decide +kernel
theorem dX10_overtakesAtSink_49 : decode cX10_overtakesAtSink 49 = .ok (.invokestatic 125, 3) := by decide +kernel
theorem dX10_overtakesAtSink_52 : decode cX10_overtakesAtSink 52 = .ok (.iadd, 1) := by decide +kernel
theorem dX10_overtakesAtSink_53 : decode cX10_overtakesAtSink 53 = .ok (.iconst 1, 1) := by decide +kernel
theorem dX10_overtakesAtSink_54 : decode cX10_overtakesAtSink 54 = .ok (.iastore, 1) := by decide +kernel
theorem dX10_overtakesAtSink_55 : decode cX10_overtakesAtSink 55 = .ok (.return_, 1) := by decide +kernel
theorem hyX10_overtakesAtSink : yX10_overtakesAtSink.cls ≠ "java/lang/invoke/MethodHandle" ∧ yX10_overtakesAtSink.cls ≠ "java/lang/invoke/VarHandle" ∧ (parseMethodDescriptor yX10_overtakesAtSink.desc).map (fun d => d.parameters.length) = some 2 := ⟨by decide +kernel, by decide +kernel, by decide +kernel⟩
def jX10_overtakesAtSink_27 (σ : zS) (x0 : Nat) (x1 : Int32) (x2 : Int32)  : Option zS :=
  (fX10_toSink σ x1 x2).bind fun c4 => (fX10_keptOut c4.1 x1 x2).bind fun c5 => (zck 9 c5.1 x0 (fX10_keepsAhead c5.1 x0 c4.2 c5.2)).bind fun c6 => (zgR 9 6 c6 x0).bind fun v7 => (fX10_channelOut c6 x1 x2).bind fun c8 => (zsI c8.1 v7 (90 + c8.2) 1).bind fun σ9 => some σ9
set_option maxRecDepth 100000 in
set_option maxHeartbeats 4000000 in
theorem wjX10_overtakesAtSink_27 (C : zC p s m args meth c cX10_overtakesAtSink RX10 3 D Ca B En) (hRm : zRm R 4 88 cells slots) (σ : zS) (x0 : Nat) (x1 : Int32) (x2 : Int32)  (τ : zS) (hf : jX10_overtakesAtSink_27 σ x0 x1 x2  = some τ) (hq : ∀ (pc : Nat) (lv : List (Nat × Value)), decode cX10_overtakesAtSink pc = .ok (.return_, 1) → zW p l e R s m args below meth c cells slots Q D Ca B 3 τ N pc lv []) : zW p l e R s m args below meth c cells slots Q D Ca B 3 σ N 27 [(0, .ref x0), (1, .int x1), (2, .int x2)] [] := by
  unfold jX10_overtakesAtSink_27 at hf
  refine z_aload_n C dX10_overtakesAtSink_27 rfl 0 rfl ?_
  refine z_iload_n C dX10_overtakesAtSink_28 rfl 1 rfl ?_
  refine z_iload_n C dX10_overtakesAtSink_29 rfl 2 rfl ?_
  obtain ⟨c4, hc4, hf⟩ := zbind hf
  refine z_callSi (As := [.int x1, .int x2]) (F0 := 4) (L0 := 88) C (mX10_toSink l D Ca B En C.2.2.2.2.2.2.2.1 σ N x1 x2 _ hc4) hRm kw_1496 kw_14 kw_1494 kw_1495 hyX10_toSink (Nat.le_of_ble_eq_true rfl) (Nat.le_of_ble_eq_true rfl) rfl rfl (Nat.le_of_ble_eq_true rfl) dX10_overtakesAtSink_30 ?_
  refine z_iload_n C dX10_overtakesAtSink_33 rfl 1 rfl ?_
  refine z_iload_n C dX10_overtakesAtSink_34 rfl 2 rfl ?_
  obtain ⟨c5, hc5, hf⟩ := zbind hf
  refine z_callSi (As := [.int x1, .int x2]) (F0 := 4) (L0 := 88) C (mX10_keptOut l D Ca B En C.2.2.2.2.2.2.2.1 c4.1 N x1 x2 _ hc5) hRm kw_1421 kw_14 kw_1419 kw_1420 hyX10_keptOut (Nat.le_of_ble_eq_true rfl) (Nat.le_of_ble_eq_true rfl) rfl rfl (Nat.le_of_ble_eq_true rfl) dX10_overtakesAtSink_35 ?_
  obtain ⟨c6, hc6, hf⟩ := zbind hf
  obtain ⟨kc6, hc6⟩ := zck_ok hc6
  refine z_callVv (As := [.int c4.2, .int c5.2]) (F0 := 4) (L0 := 88) C (mX10_keepsAhead l D Ca B En C.2.2.2.2.2.2.2.1 c5.1 N x0 c4.2 c5.2 _ hc6) hRm kc6 rfl kw_1500 kw_14 kw_1497 kw_1499 kp_58 hyX10_keepsAhead (Nat.le_of_ble_eq_true rfl) (Nat.le_of_ble_eq_true rfl) rfl rfl (Nat.le_of_ble_eq_true rfl) dX10_overtakesAtSink_38 ?_
  refine z_aload_n C dX10_overtakesAtSink_41 rfl 0 rfl ?_
  obtain ⟨v7, hv7, hf⟩ := zbind hf
  refine gf_RX10_21 C hv7 dX10_overtakesAtSink_42 ?_
  refine z_bipush C 90 dX10_overtakesAtSink_45 (by decide) ?_
  refine z_iload_n C dX10_overtakesAtSink_47 rfl 1 rfl ?_
  refine z_iload_n C dX10_overtakesAtSink_48 rfl 2 rfl ?_
  obtain ⟨c8, hc8, hf⟩ := zbind hf
  refine z_callSi (As := [.int x1, .int x2]) (F0 := 4) (L0 := 88) C (mX10_channelOut l D Ca B En C.2.2.2.2.2.2.2.1 c6 N x1 x2 _ hc8) hRm kw_1424 kw_14 kw_1422 kw_1423 hyX10_channelOut (Nat.le_of_ble_eq_true rfl) (Nat.le_of_ble_eq_true rfl) rfl rfl (Nat.le_of_ble_eq_true rfl) dX10_overtakesAtSink_49 ?_
  refine z_iadd C dX10_overtakesAtSink_52 ?_
  refine z_iconst C 1 dX10_overtakesAtSink_53 (by decide) ?_
  obtain ⟨σ9, hσ9, hf⟩ := zbind hf
  refine z_sI C hσ9 dX10_overtakesAtSink_54 ?_
  cases hf
  exact hq _ _ dX10_overtakesAtSink_55

def fX10_overtakesAtSink (σ : zS) (x0 : Nat) (x1 : Int32) (x2 : Int32) : Option zS :=
  (fX10_toSink σ x1 x2).bind fun c1 => (zck 9 c1.1 x0 (fX10_barrierIn c1.1 x0 c1.2)).bind fun c2 => (if c2.2 = ((-1)) then some c2.1 else (zck 9 c2.1 x0 (fX10_arrivedAtSink c2.1 x0 x2)).bind fun c3 => (if c3.2 = 0 then (zck 9 c3.1 x0 (fX10_closes c3.1 x0 x2)).bind fun c10 => jX10_overtakesAtSink_27 c10 x0 x1 x2 else jX10_overtakesAtSink_27 c3.1 x0 x1 x2))
set_option maxRecDepth 100000 in
set_option maxHeartbeats 4000000 in
theorem wfX10_overtakesAtSink (C : zC p s m args meth c cX10_overtakesAtSink RX10 3 D Ca B En) (hRm : zRm R 4 88 cells slots) (σ : zS) (x0 : Nat) (x1 : Int32) (x2 : Int32) (τ : zS) (hf : fX10_overtakesAtSink σ x0 x1 x2 = some τ) (hq : ∀ (pc : Nat) (lv : List (Nat × Value)), decode cX10_overtakesAtSink pc = .ok (.return_, 1) → zW p l e R s m args below meth c cells slots Q D Ca B 3 τ N pc lv []) : zW p l e R s m args below meth c cells slots Q D Ca B 3 σ N 0 [(0, .ref x0), (1, .int x1), (2, .int x2)] [] := by
  unfold fX10_overtakesAtSink at hf
  refine z_aload_n C dX10_overtakesAtSink_0 rfl 0 rfl ?_
  refine z_iload_n C dX10_overtakesAtSink_1 rfl 1 rfl ?_
  refine z_iload_n C dX10_overtakesAtSink_2 rfl 2 rfl ?_
  obtain ⟨c1, hc1, hf⟩ := zbind hf
  refine z_callSi (As := [.int x1, .int x2]) (F0 := 4) (L0 := 88) C (mX10_toSink l D Ca B En C.2.2.2.2.2.2.2.1 σ N x1 x2 _ hc1) hRm kw_1496 kw_14 kw_1494 kw_1495 hyX10_toSink (Nat.le_of_ble_eq_true rfl) (Nat.le_of_ble_eq_true rfl) rfl rfl (Nat.le_of_ble_eq_true rfl) dX10_overtakesAtSink_3 ?_
  obtain ⟨c2, hc2, hf⟩ := zbind hf
  obtain ⟨kc2, hc2⟩ := zck_ok hc2
  refine z_callVi (As := [.int c1.2]) (F0 := 4) (L0 := 88) C (mX10_barrierIn l D Ca B En C.2.2.2.2.2.2.2.1 c1.1 N x0 c1.2 _ hc2) hRm kc2 rfl kw_1485 kw_14 kw_1482 kw_1484 kp_55 hyX10_barrierIn (Nat.le_of_ble_eq_true rfl) (Nat.le_of_ble_eq_true rfl) rfl rfl (Nat.le_of_ble_eq_true rfl) dX10_overtakesAtSink_6 ?_
  refine z_iconst C (-1) dX10_overtakesAtSink_9 (by decide) ?_
  refine z_icmp_ne C 14 dX10_overtakesAtSink_10 (by decide) (fun q12 => ?_) (fun q12 => ?_)
  · rw [if_neg q12] at hf
    refine z_aload_n C dX10_overtakesAtSink_14 rfl 0 rfl ?_
    refine z_iload_n C dX10_overtakesAtSink_15 rfl 2 rfl ?_
    obtain ⟨c3, hc3, hf⟩ := zbind hf
    obtain ⟨kc3, hc3⟩ := zck_ok hc3
    refine z_callVi (As := [.int x2]) (F0 := 4) (L0 := 88) C (mX10_arrivedAtSink l D Ca B En C.2.2.2.2.2.2.2.1 c2.1 N x0 x2 _ hc3) hRm kc3 rfl kw_1536 kw_14 kw_1533 kw_1535 kp_67 hyX10_arrivedAtSink (Nat.le_of_ble_eq_true rfl) (Nat.le_of_ble_eq_true rfl) rfl rfl (Nat.le_of_ble_eq_true rfl) dX10_overtakesAtSink_16 ?_
    refine z_if_ne C 27 dX10_overtakesAtSink_19 (by decide) (fun q11 => ?_) (fun q11 => ?_)
    · rw [if_neg q11] at hf
      refine z_sub [0, 1, 2] rfl ?_
      exact wjX10_overtakesAtSink_27 C hRm _ _ _ _  _ hf hq
    · rw [if_pos q11] at hf
      refine z_aload_n C dX10_overtakesAtSink_22 rfl 0 rfl ?_
      refine z_iload_n C dX10_overtakesAtSink_23 rfl 2 rfl ?_
      obtain ⟨c10, hc10, hf⟩ := zbind hf
      obtain ⟨kc10, hc10⟩ := zck_ok hc10
      refine z_callVv (As := [.int x2]) (F0 := 4) (L0 := 88) C (mX10_closes l D Ca B En C.2.2.2.2.2.2.2.1 c3.1 N x0 x2 _ hc10) hRm kc10 rfl kw_1540 kw_14 kw_1537 kw_1539 kp_68 hyX10_closes (Nat.le_of_ble_eq_true rfl) (Nat.le_of_ble_eq_true rfl) rfl rfl (Nat.le_of_ble_eq_true rfl) dX10_overtakesAtSink_24 ?_
      refine z_sub [0, 1, 2] rfl ?_
      exact wjX10_overtakesAtSink_27 C hRm _ _ _ _  _ hf hq
  · rw [if_pos q12] at hf
    cases hf
    exact hq _ _ dX10_overtakesAtSink_13

theorem mX10_overtakesAtSink (l : Launch) (D : va_G) (Ca : Nat → ClassId) (B : Nat) (En : State → Prop) (hE : zEk B En) (σ : zS) (N : Nat) (x0 : Nat) (x1 : Int32) (x2 : Int32) (X : zS) (hf : fX10_overtakesAtSink σ x0 x1 x2 = some X) : zMv l D Ca B En yX10_overtakesAtSink cX10_overtakesAtSink 3 (Option.none : Option Jvm.ClassFile.FieldType) 4 88 [.ref x0, .int x1, .int x2] σ N X () :=
  zMet_v (own := RX10) hE (by decide +kernel) rfl (Nat.le_of_ble_eq_true rfl) (fun p e s m args below meth c C hr hRm => wfX10_overtakesAtSink C hRm σ x0 x1 x2 X hf (fun pc lv hd => zfin_v (r := ()) C hr hd))
theorem dX10_isComplete_0 : decode cX10_isComplete 0 = .ok (.iconst 0, 1) := by decide +kernel
theorem dX10_isComplete_1 : decode cX10_isComplete 1 = .ok (.istore_n 1, 1) := by decide +kernel
theorem dX10_isComplete_2 : decode cX10_isComplete 2 = .ok (.iload_n 1, 1) := by decide +kernel
theorem dX10_isComplete_3 : decode cX10_isComplete 3 = .ok (.aload_n 0, 1) := by decide +kernel
theorem dX10_isComplete_4 : decode cX10_isComplete 4 = .ok (.getfield 75, 3) := by decide +kernel
theorem dX10_isComplete_7 : decode cX10_isComplete 7 = .ok (.if_icmp .ge 23, 3) := by decide +kernel
theorem dX10_isComplete_10 : decode cX10_isComplete 10 = .ok (.aload_n 0, 1) := by decide +kernel
theorem dX10_isComplete_11 : decode cX10_isComplete 11 = .ok (.getfield 21, 3) := by decide +kernel
theorem dX10_isComplete_14 : decode cX10_isComplete 14 = .ok (.bipush 70, 2) := by decide +kernel
theorem dX10_isComplete_16 : decode cX10_isComplete 16 = .ok (.iload_n 1, 1) := by decide +kernel
theorem dX10_isComplete_17 : decode cX10_isComplete 17 = .ok (.iadd, 1) := by decide +kernel
theorem dX10_isComplete_18 : decode cX10_isComplete 18 = .ok (.iaload, 1) := by decide +kernel
theorem dX10_isComplete_19 : decode cX10_isComplete 19 = .ok (.ifCond .ne 5, 3) := by decide +kernel
theorem dX10_isComplete_22 : decode cX10_isComplete 22 = .ok (.iconst 0, 1) := by decide +kernel
theorem dX10_isComplete_23 : decode cX10_isComplete 23 = .ok (.ireturn, 1) := by decide +kernel
theorem dX10_isComplete_24 : decode cX10_isComplete 24 = .ok (.iinc 1 1, 3) := by decide +kernel
theorem dX10_isComplete_27 : decode cX10_isComplete 27 = .ok (.goto (-25), 3) := by decide +kernel
theorem dX10_isComplete_30 : decode cX10_isComplete 30 = .ok (.iconst 0, 1) := by decide +kernel
theorem dX10_isComplete_31 : decode cX10_isComplete 31 = .ok (.istore_n 1, 1) := by decide +kernel
theorem dX10_isComplete_32 : decode cX10_isComplete 32 = .ok (.iload_n 1, 1) := by decide +kernel
theorem dX10_isComplete_33 : decode cX10_isComplete 33 = .ok (.aload_n 0, 1) := by decide +kernel
theorem dX10_isComplete_34 : decode cX10_isComplete 34 = .ok (.getfield 21, 3) := by decide +kernel
theorem dX10_isComplete_37 : decode cX10_isComplete 37 = .ok (.iconst 1, 1) := by decide +kernel
theorem dX10_isComplete_38 : decode cX10_isComplete 38 = .ok (.iaload, 1) := by decide +kernel
theorem dX10_isComplete_39 : decode cX10_isComplete 39 = .ok (.if_icmp .ge 23, 3) := by decide +kernel
theorem dX10_isComplete_42 : decode cX10_isComplete 42 = .ok (.aload_n 0, 1) := by decide +kernel
theorem dX10_isComplete_43 : decode cX10_isComplete 43 = .ok (.iload_n 1, 1) := by decide +kernel
theorem dX10_isComplete_44 : decode cX10_isComplete 44 = .ok (.invokevirtual 158, 3) := by decide +kernel
theorem dX10_isComplete_47 : decode cX10_isComplete 47 = .ok (.aload_n 0, 1) := by decide +kernel
theorem dX10_isComplete_48 : decode cX10_isComplete 48 = .ok (.getfield 75, 3) := by decide +kernel
theorem dX10_isComplete_51 : decode cX10_isComplete 51 = .ok (.if_icmp .ge 5, 3) := by decide +kernel
theorem dX10_isComplete_54 : decode cX10_isComplete 54 = .ok (.iconst 0, 1) := by decide +kernel
theorem dX10_isComplete_55 : decode cX10_isComplete 55 = .ok (.ireturn, 1) := by decide +kernel
theorem dX10_isComplete_56 : decode cX10_isComplete 56 = .ok (.iinc 1 1, 3) := by decide +kernel
theorem dX10_isComplete_59 : decode cX10_isComplete 59 = .ok (.goto (-27), 3) := by decide +kernel
theorem dX10_isComplete_62 : decode cX10_isComplete 62 = .ok (.iconst 0, 1) := by decide +kernel
theorem dX10_isComplete_63 : decode cX10_isComplete 63 = .ok (.istore_n 1, 1) := by decide +kernel
theorem dX10_isComplete_64 : decode cX10_isComplete 64 = .ok (.iload_n 1, 1) := by decide +kernel
theorem dX10_isComplete_65 : decode cX10_isComplete 65 = .ok (.aload_n 0, 1) := by decide +kernel
theorem dX10_isComplete_66 : decode cX10_isComplete 66 = .ok (.getfield 78, 3) := by decide +kernel
theorem dX10_isComplete_69 : decode cX10_isComplete 69 = .ok (.if_icmp .ge 25, 3) := by decide +kernel
theorem dX10_isComplete_72 : decode cX10_isComplete 72 = .ok (.aload_n 0, 1) := by decide +kernel
theorem dX10_isComplete_73 : decode cX10_isComplete 73 = .ok (.iload_n 1, 1) := by decide +kernel
theorem dX10_isComplete_74 : decode cX10_isComplete 74 = .ok (.invokevirtual 164, 3) := by decide +kernel
theorem dX10_isComplete_77 : decode cX10_isComplete 77 = .ok (.aload_n 0, 1) := by decide +kernel
theorem dX10_isComplete_78 : decode cX10_isComplete 78 = .ok (.getfield 21, 3) := by decide +kernel
theorem dX10_isComplete_81 : decode cX10_isComplete 81 = .ok (.iconst 1, 1) := by decide +kernel
theorem dX10_isComplete_82 : decode cX10_isComplete 82 = .ok (.iaload, 1) := by decide +kernel
theorem dX10_isComplete_83 : decode cX10_isComplete 83 = .ok (.if_icmp .ge 5, 3) := by decide +kernel
theorem dX10_isComplete_86 : decode cX10_isComplete 86 = .ok (.iconst 0, 1) := by decide +kernel
theorem dX10_isComplete_87 : decode cX10_isComplete 87 = .ok (.ireturn, 1) := by decide +kernel
theorem dX10_isComplete_88 : decode cX10_isComplete 88 = .ok (.iinc 1 1, 3) := by decide +kernel
theorem dX10_isComplete_91 : decode cX10_isComplete 91 = .ok (.goto (-27), 3) := by decide +kernel
theorem dX10_isComplete_94 : decode cX10_isComplete 94 = .ok (.iconst 1, 1) := by decide +kernel
theorem dX10_isComplete_95 : decode cX10_isComplete 95 = .ok (.ireturn, 1) := by decide +kernel
theorem hyX10_isComplete : yX10_isComplete.cls ≠ "java/lang/invoke/MethodHandle" ∧ yX10_isComplete.cls ≠ "java/lang/invoke/VarHandle" ∧ (parseMethodDescriptor yX10_isComplete.desc).map (fun d => d.parameters.length) = some 0 := ⟨by decide +kernel, by decide +kernel, by decide +kernel⟩
def sX10_isComplete_2b (x0 : Nat) (σ : zS) (u1 : Int32) : Option ((zS × Int32) ⊕ (zS ⊕ zS)) :=
  (zgI 9 1 σ x0).bind fun v1 => (if v1 ≤ u1 then some (.inr (.inr σ)) else (zgR 9 6 σ x0).bind fun v2 => (zaI σ v2 (70 + u1)).bind fun v3 => (if v3 = 0 then some (.inr (.inl σ)) else some (.inl (σ, u1 + 1))))
def sX10_isComplete_2 (x0 : Nat) (z : (zS × Int32)) : Option ((zS × Int32) ⊕ (zS ⊕ zS)) := sX10_isComplete_2b x0 z.1 z.2
set_option maxRecDepth 100000 in
set_option maxHeartbeats 4000000 in
theorem wsX10_isComplete_2b (C : zC p s m args meth c cX10_isComplete RX10 2 D Ca B En) (hRm : zRm R 2 44 cells slots) (x0 : Nat) (σ : zS) (u1 : Int32) (y : (zS × Int32) ⊕ (zS ⊕ zS)) (hf : sX10_isComplete_2b x0 σ u1 = some y) (hk : (∀ z : (zS × Int32), y = .inl z → zW p l e R s m args below meth c cells slots Q D Ca B 2 z.1 N 2 [(0, .ref x0), (1, .int z.2)] []) ∧ (∀ z : zS, y = .inr (.inl z) → zW p l e R s m args below meth c cells slots Q D Ca B 2 z N 22 [] []) ∧ (∀ z : zS, y = .inr (.inr z) → zW p l e R s m args below meth c cells slots Q D Ca B 2 z N 30 [(0, .ref x0)] [])) : zW p l e R s m args below meth c cells slots Q D Ca B 2 σ N 2 [(0, .ref x0), (1, .int u1)] [] := by
  unfold sX10_isComplete_2b at hf
  refine z_iload_n C dX10_isComplete_2 rfl 1 rfl ?_
  refine z_aload_n C dX10_isComplete_3 rfl 0 rfl ?_
  obtain ⟨v1, hv1, hf⟩ := zbind hf
  refine gf_RX10_75 C hv1 dX10_isComplete_4 ?_
  refine z_icmp_ge C 30 dX10_isComplete_7 (by decide) (fun q5 => ?_) (fun q5 => ?_)
  · rw [if_pos q5] at hf
    cases hf
    refine z_sub [0] rfl ?_
    exact hk.2.2 _ rfl
  · rw [if_neg q5] at hf
    refine z_aload_n C dX10_isComplete_10 rfl 0 rfl ?_
    obtain ⟨v2, hv2, hf⟩ := zbind hf
    refine gf_RX10_21 C hv2 dX10_isComplete_11 ?_
    refine z_bipush C 70 dX10_isComplete_14 (by decide) ?_
    refine z_iload_n C dX10_isComplete_16 rfl 1 rfl ?_
    refine z_iadd C dX10_isComplete_17 ?_
    obtain ⟨v3, hv3, hf⟩ := zbind hf
    refine z_aI C hv3 dX10_isComplete_18 ?_
    refine z_if_ne C 24 dX10_isComplete_19 (by decide) (fun q4 => ?_) (fun q4 => ?_)
    · rw [if_neg q4] at hf
      refine z_iinc (lv2 := [(1, .int (u1 + 1)), (0, .ref x0)]) C (u1 + 1) dX10_isComplete_24 1 rfl rfl (by decide) rfl ?_
      refine z_goto C 2 dX10_isComplete_27 (by decide) ?_
      cases hf
      refine z_sub [1, 0] rfl ?_
      exact hk.1 _ rfl
    · rw [if_pos q4] at hf
      cases hf
      refine z_sub [] rfl ?_
      exact hk.2.1 _ rfl

theorem wsX10_isComplete_2 (C : zC p s m args meth c cX10_isComplete RX10 2 D Ca B En) (hRm : zRm R 2 44 cells slots) (x0 : Nat) (n : Nat) (z : (zS × Int32)) (x : (zS ⊕ zS)) (hf : zloop (sX10_isComplete_2 x0) n z = some x) (hk : (∀ o : zS, x = (.inl o) → zW p l e R s m args below meth c cells slots Q D Ca B 2 o N 22 [] []) ∧ (∀ o : zS, x = (.inr o) → zW p l e R s m args below meth c cells slots Q D Ca B 2 o N 30 [(0, .ref x0)] [])) : zW p l e R s m args below meth c cells slots Q D Ca B 2 z.1 N 2 [(0, .ref x0), (1, .int z.2)] [] := by
  refine zloop_W (P := fun z : (zS × Int32) => zW p l e R s m args below meth c cells slots Q D Ca B 2 z.1 N 2 [(0, .ref x0), (1, .int z.2)] []) (K := fun x : (zS ⊕ zS) => (∀ o : zS, x = (.inl o) → zW p l e R s m args below meth c cells slots Q D Ca B 2 o N 22 [] []) ∧ (∀ o : zS, x = (.inr o) → zW p l e R s m args below meth c cells slots Q D Ca B 2 o N 30 [(0, .ref x0)] [])) ?_ n z x hf hk
  intro z y hy h1 h2
  refine wsX10_isComplete_2b C hRm x0 z.1 z.2 y hy ⟨fun z2 e => h1 z2 e, fun o e => (h2 _ e).1 o rfl, fun o e => (h2 _ e).2 o rfl⟩
def sX10_isComplete_32b (x0 : Nat) (σ : zS) (u1 : Int32) : Option ((zS × Int32) ⊕ (zS ⊕ zS)) :=
  (zgR 9 6 σ x0).bind fun v9 => (zaI σ v9 1).bind fun v10 => (if v10 ≤ u1 then some (.inr (.inr σ)) else (zck 9 σ x0 (fX10_arrivedAt σ x0 u1)).bind fun c11 => (zgI 9 1 c11.1 x0).bind fun v12 => (if v12 ≤ c11.2 then some (.inl (c11.1, u1 + 1)) else some (.inr (.inl c11.1))))
def sX10_isComplete_32 (x0 : Nat) (z : (zS × Int32)) : Option ((zS × Int32) ⊕ (zS ⊕ zS)) := sX10_isComplete_32b x0 z.1 z.2
set_option maxRecDepth 100000 in
set_option maxHeartbeats 4000000 in
theorem wsX10_isComplete_32b (C : zC p s m args meth c cX10_isComplete RX10 2 D Ca B En) (hRm : zRm R 2 44 cells slots) (x0 : Nat) (σ : zS) (u1 : Int32) (y : (zS × Int32) ⊕ (zS ⊕ zS)) (hf : sX10_isComplete_32b x0 σ u1 = some y) (hk : (∀ z : (zS × Int32), y = .inl z → zW p l e R s m args below meth c cells slots Q D Ca B 2 z.1 N 32 [(0, .ref x0), (1, .int z.2)] []) ∧ (∀ z : zS, y = .inr (.inl z) → zW p l e R s m args below meth c cells slots Q D Ca B 2 z N 54 [] []) ∧ (∀ z : zS, y = .inr (.inr z) → zW p l e R s m args below meth c cells slots Q D Ca B 2 z N 62 [(0, .ref x0)] [])) : zW p l e R s m args below meth c cells slots Q D Ca B 2 σ N 32 [(0, .ref x0), (1, .int u1)] [] := by
  unfold sX10_isComplete_32b at hf
  refine z_iload_n C dX10_isComplete_32 rfl 1 rfl ?_
  refine z_aload_n C dX10_isComplete_33 rfl 0 rfl ?_
  obtain ⟨v9, hv9, hf⟩ := zbind hf
  refine gf_RX10_21 C hv9 dX10_isComplete_34 ?_
  refine z_iconst C 1 dX10_isComplete_37 (by decide) ?_
  obtain ⟨v10, hv10, hf⟩ := zbind hf
  refine z_aI C hv10 dX10_isComplete_38 ?_
  refine z_icmp_ge C 62 dX10_isComplete_39 (by decide) (fun q14 => ?_) (fun q14 => ?_)
  · rw [if_pos q14] at hf
    cases hf
    refine z_sub [0] rfl ?_
    exact hk.2.2 _ rfl
  · rw [if_neg q14] at hf
    refine z_aload_n C dX10_isComplete_42 rfl 0 rfl ?_
    refine z_iload_n C dX10_isComplete_43 rfl 1 rfl ?_
    obtain ⟨c11, hc11, hf⟩ := zbind hf
    obtain ⟨kc11, hc11⟩ := zck_ok hc11
    refine z_callVi (As := [.int u1]) (F0 := 2) (L0 := 44) C (mX10_arrivedAt l D Ca B En C.2.2.2.2.2.2.2.1 σ N x0 u1 _ hc11) hRm kc11 rfl kw_1489 kw_14 kw_1486 kw_1488 kp_56 hyX10_arrivedAt (Nat.le_of_ble_eq_true rfl) (Nat.le_of_ble_eq_true rfl) rfl rfl (Nat.le_of_ble_eq_true rfl) dX10_isComplete_44 ?_
    refine z_aload_n C dX10_isComplete_47 rfl 0 rfl ?_
    obtain ⟨v12, hv12, hf⟩ := zbind hf
    refine gf_RX10_75 C hv12 dX10_isComplete_48 ?_
    refine z_icmp_ge C 56 dX10_isComplete_51 (by decide) (fun q13 => ?_) (fun q13 => ?_)
    · rw [if_pos q13] at hf
      refine z_iinc (lv2 := [(1, .int (u1 + 1)), (0, .ref x0)]) C (u1 + 1) dX10_isComplete_56 1 rfl rfl (by decide) rfl ?_
      refine z_goto C 32 dX10_isComplete_59 (by decide) ?_
      cases hf
      refine z_sub [1, 0] rfl ?_
      exact hk.1 _ rfl
    · rw [if_neg q13] at hf
      cases hf
      refine z_sub [] rfl ?_
      exact hk.2.1 _ rfl

theorem wsX10_isComplete_32 (C : zC p s m args meth c cX10_isComplete RX10 2 D Ca B En) (hRm : zRm R 2 44 cells slots) (x0 : Nat) (n : Nat) (z : (zS × Int32)) (x : (zS ⊕ zS)) (hf : zloop (sX10_isComplete_32 x0) n z = some x) (hk : (∀ o : zS, x = (.inl o) → zW p l e R s m args below meth c cells slots Q D Ca B 2 o N 54 [] []) ∧ (∀ o : zS, x = (.inr o) → zW p l e R s m args below meth c cells slots Q D Ca B 2 o N 62 [(0, .ref x0)] [])) : zW p l e R s m args below meth c cells slots Q D Ca B 2 z.1 N 32 [(0, .ref x0), (1, .int z.2)] [] := by
  refine zloop_W (P := fun z : (zS × Int32) => zW p l e R s m args below meth c cells slots Q D Ca B 2 z.1 N 32 [(0, .ref x0), (1, .int z.2)] []) (K := fun x : (zS ⊕ zS) => (∀ o : zS, x = (.inl o) → zW p l e R s m args below meth c cells slots Q D Ca B 2 o N 54 [] []) ∧ (∀ o : zS, x = (.inr o) → zW p l e R s m args below meth c cells slots Q D Ca B 2 o N 62 [(0, .ref x0)] [])) ?_ n z x hf hk
  intro z y hy h1 h2
  refine wsX10_isComplete_32b C hRm x0 z.1 z.2 y hy ⟨fun z2 e => h1 z2 e, fun o e => (h2 _ e).1 o rfl, fun o e => (h2 _ e).2 o rfl⟩
def sX10_isComplete_64b (x0 : Nat) (σ : zS) (u1 : Int32) : Option ((zS × Int32) ⊕ (zS ⊕ zS)) :=
  (zgI 9 2 σ x0).bind fun v18 => (if v18 ≤ u1 then some (.inr (.inr σ)) else (zck 9 σ x0 (fX10_arrivedAtSink σ x0 u1)).bind fun c19 => (zgR 9 6 c19.1 x0).bind fun v20 => (zaI c19.1 v20 1).bind fun v21 => (if v21 ≤ c19.2 then some (.inl (c19.1, u1 + 1)) else some (.inr (.inl c19.1))))
def sX10_isComplete_64 (x0 : Nat) (z : (zS × Int32)) : Option ((zS × Int32) ⊕ (zS ⊕ zS)) := sX10_isComplete_64b x0 z.1 z.2
set_option maxRecDepth 100000 in
set_option maxHeartbeats 4000000 in
theorem wsX10_isComplete_64b (C : zC p s m args meth c cX10_isComplete RX10 2 D Ca B En) (hRm : zRm R 2 44 cells slots) (x0 : Nat) (σ : zS) (u1 : Int32) (y : (zS × Int32) ⊕ (zS ⊕ zS)) (hf : sX10_isComplete_64b x0 σ u1 = some y) (hk : (∀ z : (zS × Int32), y = .inl z → zW p l e R s m args below meth c cells slots Q D Ca B 2 z.1 N 64 [(0, .ref x0), (1, .int z.2)] []) ∧ (∀ z : zS, y = .inr (.inl z) → zW p l e R s m args below meth c cells slots Q D Ca B 2 z N 86 [] []) ∧ (∀ z : zS, y = .inr (.inr z) → zW p l e R s m args below meth c cells slots Q D Ca B 2 z N 94 [] [])) : zW p l e R s m args below meth c cells slots Q D Ca B 2 σ N 64 [(0, .ref x0), (1, .int u1)] [] := by
  unfold sX10_isComplete_64b at hf
  refine z_iload_n C dX10_isComplete_64 rfl 1 rfl ?_
  refine z_aload_n C dX10_isComplete_65 rfl 0 rfl ?_
  obtain ⟨v18, hv18, hf⟩ := zbind hf
  refine gf_RX10_78 C hv18 dX10_isComplete_66 ?_
  refine z_icmp_ge C 94 dX10_isComplete_69 (by decide) (fun q23 => ?_) (fun q23 => ?_)
  · rw [if_pos q23] at hf
    cases hf
    refine z_sub [] rfl ?_
    exact hk.2.2 _ rfl
  · rw [if_neg q23] at hf
    refine z_aload_n C dX10_isComplete_72 rfl 0 rfl ?_
    refine z_iload_n C dX10_isComplete_73 rfl 1 rfl ?_
    obtain ⟨c19, hc19, hf⟩ := zbind hf
    obtain ⟨kc19, hc19⟩ := zck_ok hc19
    refine z_callVi (As := [.int u1]) (F0 := 2) (L0 := 44) C (mX10_arrivedAtSink l D Ca B En C.2.2.2.2.2.2.2.1 σ N x0 u1 _ hc19) hRm kc19 rfl kw_1536 kw_14 kw_1533 kw_1535 kp_67 hyX10_arrivedAtSink (Nat.le_of_ble_eq_true rfl) (Nat.le_of_ble_eq_true rfl) rfl rfl (Nat.le_of_ble_eq_true rfl) dX10_isComplete_74 ?_
    refine z_aload_n C dX10_isComplete_77 rfl 0 rfl ?_
    obtain ⟨v20, hv20, hf⟩ := zbind hf
    refine gf_RX10_21 C hv20 dX10_isComplete_78 ?_
    refine z_iconst C 1 dX10_isComplete_81 (by decide) ?_
    obtain ⟨v21, hv21, hf⟩ := zbind hf
    refine z_aI C hv21 dX10_isComplete_82 ?_
    refine z_icmp_ge C 88 dX10_isComplete_83 (by decide) (fun q22 => ?_) (fun q22 => ?_)
    · rw [if_pos q22] at hf
      refine z_iinc (lv2 := [(1, .int (u1 + 1)), (0, .ref x0)]) C (u1 + 1) dX10_isComplete_88 1 rfl rfl (by decide) rfl ?_
      refine z_goto C 64 dX10_isComplete_91 (by decide) ?_
      cases hf
      refine z_sub [1, 0] rfl ?_
      exact hk.1 _ rfl
    · rw [if_neg q22] at hf
      cases hf
      refine z_sub [] rfl ?_
      exact hk.2.1 _ rfl

theorem wsX10_isComplete_64 (C : zC p s m args meth c cX10_isComplete RX10 2 D Ca B En) (hRm : zRm R 2 44 cells slots) (x0 : Nat) (n : Nat) (z : (zS × Int32)) (x : (zS ⊕ zS)) (hf : zloop (sX10_isComplete_64 x0) n z = some x) (hk : (∀ o : zS, x = (.inl o) → zW p l e R s m args below meth c cells slots Q D Ca B 2 o N 86 [] []) ∧ (∀ o : zS, x = (.inr o) → zW p l e R s m args below meth c cells slots Q D Ca B 2 o N 94 [] [])) : zW p l e R s m args below meth c cells slots Q D Ca B 2 z.1 N 64 [(0, .ref x0), (1, .int z.2)] [] := by
  refine zloop_W (P := fun z : (zS × Int32) => zW p l e R s m args below meth c cells slots Q D Ca B 2 z.1 N 64 [(0, .ref x0), (1, .int z.2)] []) (K := fun x : (zS ⊕ zS) => (∀ o : zS, x = (.inl o) → zW p l e R s m args below meth c cells slots Q D Ca B 2 o N 86 [] []) ∧ (∀ o : zS, x = (.inr o) → zW p l e R s m args below meth c cells slots Q D Ca B 2 o N 94 [] [])) ?_ n z x hf hk
  intro z y hy h1 h2
  refine wsX10_isComplete_64b C hRm x0 z.1 z.2 y hy ⟨fun z2 e => h1 z2 e, fun o e => (h2 _ e).1 o rfl, fun o e => (h2 _ e).2 o rfl⟩
def fX10_isComplete (σ : zS) (x0 : Nat) : Option (zS × Int32) :=
  (zloop (sX10_isComplete_2 x0) zfuel (σ, 0)).bind fun o6 => (match o6 with | (.inl z7) => zrZ z7 0 | (.inr z8) => (zloop (sX10_isComplete_32 x0) zfuel (z8, 0)).bind fun o15 => (match o15 with | (.inl z16) => zrZ z16 0 | (.inr z17) => (zloop (sX10_isComplete_64 x0) zfuel (z17, 0)).bind fun o24 => (match o24 with | (.inl z25) => zrZ z25 0 | (.inr z26) => zrZ z26 1)))
set_option maxRecDepth 100000 in
set_option maxHeartbeats 4000000 in
theorem wfX10_isComplete (C : zC p s m args meth c cX10_isComplete RX10 2 D Ca B En) (hRm : zRm R 2 44 cells slots) (σ : zS) (x0 : Nat) (τ : zS) (r : Int32) (hf : fX10_isComplete σ x0 = some (τ, r)) (hq : ∀ (pc : Nat) (lv : List (Nat × Value)), (r = 0 ∨ r = 1) → decode cX10_isComplete pc = .ok (.ireturn, 1) → zW p l e R s m args below meth c cells slots Q D Ca B 2 τ N pc lv [.int r]) : zW p l e R s m args below meth c cells slots Q D Ca B 2 σ N 0 [(0, .ref x0)] [] := by
  unfold fX10_isComplete at hf
  refine z_iconst C 0 dX10_isComplete_0 (by decide) ?_
  refine z_istore_n (lv2 := [(1, .int 0), (0, .ref x0)]) C dX10_isComplete_1 rfl (by decide) rfl ?_
  obtain ⟨o6, ho6, hf⟩ := zbind hf
  refine z_sub [1, 0] rfl ?_
  refine wsX10_isComplete_2 C hRm _ zfuel (σ, 0) o6 ho6 ⟨?_, ?_⟩
  · intro z7 e9
    subst e9
    dsimp only at hf
    refine z_iconst C 0 dX10_isComplete_22 (by decide) ?_
    obtain ⟨e9, b9⟩ := zrZ_ok hf
    cases e9
    exact hq _ _ b9 dX10_isComplete_23
  · intro z8 e9
    subst e9
    dsimp only at hf
    refine z_iconst C 0 dX10_isComplete_30 (by decide) ?_
    refine z_istore_n (lv2 := [(1, .int 0), (0, .ref x0)]) C dX10_isComplete_31 rfl (by decide) rfl ?_
    obtain ⟨o15, ho15, hf⟩ := zbind hf
    refine z_sub [1, 0] rfl ?_
    refine wsX10_isComplete_32 C hRm _ zfuel (z8, 0) o15 ho15 ⟨?_, ?_⟩
    · intro z16 e9
      subst e9
      dsimp only at hf
      refine z_iconst C 0 dX10_isComplete_54 (by decide) ?_
      obtain ⟨e9, b9⟩ := zrZ_ok hf
      cases e9
      exact hq _ _ b9 dX10_isComplete_55
    · intro z17 e9
      subst e9
      dsimp only at hf
      refine z_iconst C 0 dX10_isComplete_62 (by decide) ?_
      refine z_istore_n (lv2 := [(1, .int 0), (0, .ref x0)]) C dX10_isComplete_63 rfl (by decide) rfl ?_
      obtain ⟨o24, ho24, hf⟩ := zbind hf
      refine z_sub [1, 0] rfl ?_
      refine wsX10_isComplete_64 C hRm _ zfuel (z17, 0) o24 ho24 ⟨?_, ?_⟩
      · intro z25 e9
        subst e9
        dsimp only at hf
        refine z_iconst C 0 dX10_isComplete_86 (by decide) ?_
        obtain ⟨e9, b9⟩ := zrZ_ok hf
        cases e9
        exact hq _ _ b9 dX10_isComplete_87
      · intro z26 e9
        subst e9
        dsimp only at hf
        refine z_iconst C 1 dX10_isComplete_94 (by decide) ?_
        obtain ⟨e9, b9⟩ := zrZ_ok hf
        cases e9
        exact hq _ _ b9 dX10_isComplete_95

theorem mX10_isComplete (l : Launch) (D : va_G) (Ca : Nat → ClassId) (B : Nat) (En : State → Prop) (hE : zEk B En) (σ : zS) (N : Nat) (x0 : Nat) (X : zS × Int32) (hf : fX10_isComplete σ x0 = some X) : zMi l D Ca B En yX10_isComplete cX10_isComplete 2 (Option.some Jvm.ClassFile.FieldType.boolean) 2 44 [.ref x0] σ N X.1 X.2 :=
  zMet_i (own := RX10) hE (by decide +kernel) rfl (Nat.le_of_ble_eq_true rfl) (fun p e s m args below meth c C hr hRm => wfX10_isComplete C hRm σ x0 X.1 X.2 hf (fun pc lv hb hd => zfin_z C hb hr hd))
theorem dX10_completes_0 : decode cX10_completes 0 = .ok (.aload_n 0, 1) := by decide +kernel
theorem dX10_completes_1 : decode cX10_completes 1 = .ok (.getfield 21, 3) := by decide +kernel
theorem dX10_completes_4 : decode cX10_completes 4 = .ok (.bipush 67, 2) := by decide +kernel
theorem dX10_completes_6 : decode cX10_completes 6 = .ok (.iconst 0, 1) := by decide +kernel
theorem dX10_completes_7 : decode cX10_completes 7 = .ok (.iastore, 1) := by decide +kernel
theorem dX10_completes_8 : decode cX10_completes 8 = .ok (.aload_n 0, 1) := by decide +kernel
theorem dX10_completes_9 : decode cX10_completes 9 = .ok (.getfield 21, 3) := by decide +kernel
theorem dX10_completes_12 : decode cX10_completes 12 = .ok (.bipush 6, 2) := by decide +kernel
theorem dX10_completes_14 : decode cX10_completes 14 = .ok (.aload_n 0, 1) := by decide +kernel
theorem dX10_completes_15 : decode cX10_completes 15 = .ok (.getfield 21, 3) := by decide +kernel
theorem dX10_completes_18 : decode cX10_completes 18 = .ok (.bipush 6, 2) := by decide +kernel
theorem dX10_completes_20 : decode cX10_completes 20 = .ok (.iaload, 1) := by decide +kernel
theorem dX10_completes_21 : decode cX10_completes 21 = .ok (.iconst 1, 1) := by decide +kernel
theorem dX10_completes_22 : decode cX10_completes 22 = .ok (.iadd, 1) := by decide +kernel
theorem dX10_completes_23 : decode cX10_completes 23 = .ok (.iastore, 1) := by decide +kernel
theorem dX10_completes_24 : decode cX10_completes 24 = .ok (.aload_n 0, 1) := by decide +kernel
theorem dX10_completes_25 : decode cX10_completes 25 = .ok (.getfield 21, 3) := by decide +kernel
theorem dX10_completes_28 : decode cX10_completes 28 = .ok (.bipush 118, 2) := by decide +kernel
theorem dX10_completes_30 : decode cX10_completes 30 = .ok (.iconst 1, 1) := by decide +kernel
theorem dX10_completes_31 : decode cX10_completes 31 = .ok (.iastore, 1) := by decide +kernel
theorem dX10_completes_32 : decode cX10_completes 32 = .ok (.aload_n 0, 1) := by decide +kernel
theorem dX10_completes_33 : decode cX10_completes 33 = .ok (.getfield 21, 3) := by decide +kernel
theorem dX10_completes_36 : decode cX10_completes 36 = .ok (.bipush 119, 2) := by decide +kernel
theorem dX10_completes_38 : decode cX10_completes 38 = .ok (.aload_n 0, 1) := by decide +kernel
theorem dX10_completes_39 : decode cX10_completes 39 = .ok (.getfield 21, 3) := by decide +kernel
theorem dX10_completes_42 : decode cX10_completes 42 = .ok (.iconst 5, 1) := by decide +kernel
theorem dX10_completes_43 : decode cX10_completes 43 = .ok (.iaload, 1) := by decide +kernel
theorem dX10_completes_44 : decode cX10_completes 44 = .ok (.iastore, 1) := by decide +kernel
theorem dX10_completes_45 : decode cX10_completes 45 = .ok (.aload_n 0, 1) := by decide +kernel
theorem dX10_completes_46 : decode cX10_completes 46 = .ok (.getfield 21, 3) := by decide +kernel
theorem dX10_completes_49 : decode cX10_completes 49 = .ok (.bipush 120, 2) := by decide +kernel
theorem dX10_completes_51 : decode cX10_completes 51 = .ok (.aload_n 0, 1) := by decide +kernel
theorem dX10_completes_52 : decode cX10_completes 52 = .ok (.getfield 21, 3) := by decide +kernel
theorem dX10_completes_55 : decode cX10_completes 55 = .ok (.bipush 68, 2) := by decide +kernel
theorem dX10_completes_57 : decode cX10_completes 57 = .ok (.iaload, 1) := by decide +kernel
theorem dX10_completes_58 : decode cX10_completes 58 = .ok (.iastore, 1) := by decide +kernel
theorem dX10_completes_59 : decode cX10_completes 59 = .ok (.aload_n 0, 1) := by decide +kernel
theorem dX10_completes_60 : decode cX10_completes 60 = .ok (.getfield 21, 3) := by decide +kernel
theorem dX10_completes_63 : decode cX10_completes 63 = .ok (.bipush 121, 2) := by decide +kernel
theorem dX10_completes_65 : decode cX10_completes 65 = .ok (.aload_n 0, 1) := by decide +kernel
theorem dX10_completes_66 : decode cX10_completes 66 = .ok (.getfield 21, 3) := by decide +kernel
theorem dX10_completes_69 : decode cX10_completes 69 = .ok (.iconst 0, 1) := by decide +kernel
theorem dX10_completes_70 : decode cX10_completes 70 = .ok (.iaload, 1) := by decide +kernel
theorem dX10_completes_71 : decode cX10_completes 71 = .ok (.iastore, 1) := by decide +kernel
theorem dX10_completes_72 : decode cX10_completes 72 = .ok (.aload_n 0, 1) := by decide +kernel
theorem dX10_completes_73 : decode cX10_completes 73 = .ok (.getfield 21, 3) := by decide +kernel
theorem dX10_completes_76 : decode cX10_completes 76 = .ok (.bipush 122, 2) := by decide +kernel
theorem dX10_completes_78 : decode cX10_completes 78 = .ok (.aload_n 0, 1) := by decide +kernel
theorem dX10_completes_79 : decode cX10_completes 79 = .ok (.getfield 21, 3) := by decide +kernel
theorem dX10_completes_82 : decode cX10_completes 82 = .ok (.bipush 69, 2) := by decide +kernel
theorem dX10_completes_84 : decode cX10_completes 84 = .ok (.iaload, 1) := by decide +kernel
theorem dX10_completes_85 : decode cX10_completes 85 = .ok (.iastore, 1) := by decide +kernel
theorem dX10_completes_86 : decode cX10_completes 86 = .ok (.aload_n 0, 1) := by decide +kernel
theorem dX10_completes_87 : decode cX10_completes 87 = .ok (.getfield 21, 3) := by decide +kernel
theorem dX10_completes_90 : decode cX10_completes 90 = .ok (.bipush 123, 2) := by decide +kernel
theorem dX10_completes_92 : decode cX10_completes 92 = .ok (.iconst 0, 1) := by decide +kernel
theorem dX10_completes_93 : decode cX10_completes 93 = .ok (.iastore, 1) := by decide +kernel
theorem dX10_completes_94 : decode cX10_completes 94 = .ok (.iconst 0, 1) := by decide +kernel
theorem dX10_completes_95 : decode cX10_completes 95 = .ok (.istore_n 1, 1) := by decide +kernel
theorem dX10_completes_96 : decode cX10_completes 96 = .ok (.iload_n 1, 1) := by decide +kernel
theorem dX10_completes_97 : decode cX10_completes 97 = .ok (.iconst 4, 1) := by decide +kernel
theorem dX10_completes_98 : decode cX10_completes 98 = .ok (.if_icmp .ge 27, 3) := by decide +kernel
theorem dX10_completes_101 : decode cX10_completes 101 = .ok (.aload_n 0, 1) := by decide +kernel
theorem dX10_completes_102 : decode cX10_completes 102 = .ok (.getfield 21, 3) := by decide +kernel
theorem dX10_completes_105 : decode cX10_completes 105 = .ok (.bipush 124, 2) := by decide +kernel
theorem dX10_completes_107 : decode cX10_completes 107 = .ok (.iload_n 1, 1) := by decide +kernel
theorem dX10_completes_108 : decode cX10_completes 108 = .ok (.iadd, 1) := by decide +kernel
theorem dX10_completes_109 : decode cX10_completes 109 = .ok (.aload_n 0, 1) := by decide +kernel
theorem dX10_completes_110 : decode cX10_completes 110 = .ok (.getfield 21, 3) := by decide +kernel
theorem dX10_completes_113 : decode cX10_completes 113 = .ok (.bipush 98, 2) := by decide +kernel
theorem dX10_completes_115 : decode cX10_completes 115 = .ok (.iload_n 1, 1) := by decide +kernel
theorem dX10_completes_116 : decode cX10_completes 116 = .ok (.iadd, 1) := by decide +kernel
theorem dX10_completes_117 : decode cX10_completes 117 = .ok (.iaload, 1) := by decide +kernel
theorem dX10_completes_118 : decode cX10_completes 118 = .ok (.iastore, 1) := by decide +kernel
theorem dX10_completes_119 : decode cX10_completes 119 = .ok (.iinc 1 1, 3) := by decide +kernel
theorem dX10_completes_122 : decode cX10_completes 122 = .ok (.goto (-26), 3) := by decide +kernel
theorem dX10_completes_125 : decode cX10_completes 125 = .ok (.iconst 0, 1) := by decide +kernel
theorem dX10_completes_126 : decode cX10_completes 126 = .ok (.istore_n 1, 1) := by decide +kernel
theorem dX10_completes_127 : decode cX10_completes 127 = .ok (.iload_n 1, 1) := by decide +kernel
theorem dX10_completes_128 : decode cX10_completes 128 = .ok (.bipush 16, 2) := by decide +kernel
theorem dX10_completes_130 : decode cX10_completes 130 = .ok (.if_icmp .ge 28, 3) := by decide +kernel
theorem dX10_completes_133 : decode cX10_completes 133 = .ok (.aload_n 0, 1) := by decide +kernel
theorem dX10_completes_134 : decode cX10_completes 134 = .ok (.getfield 21, 3) := by decide +kernel
theorem dX10_completes_137 : decode cX10_completes 137 = .ok (.sipush 128, 3) := by decide +kernel
theorem dX10_completes_140 : decode cX10_completes 140 = .ok (.iload_n 1, 1) := by decide +kernel
theorem dX10_completes_141 : decode cX10_completes 141 = .ok (.iadd, 1) := by decide +kernel
theorem dX10_completes_142 : decode cX10_completes 142 = .ok (.aload_n 0, 1) := by decide +kernel
theorem dX10_completes_143 : decode cX10_completes 143 = .ok (.getfield 21, 3) := by decide +kernel
theorem dX10_completes_146 : decode cX10_completes 146 = .ok (.bipush 102, 2) := by decide +kernel
theorem dX10_completes_148 : decode cX10_completes 148 = .ok (.iload_n 1, 1) := by decide +kernel
theorem dX10_completes_149 : decode cX10_completes 149 = .ok (.iadd, 1) := by decide +kernel
theorem dX10_completes_150 : decode cX10_completes 150 = .ok (.iaload, 1) := by decide +kernel
theorem dX10_completes_151 : decode cX10_completes 151 = .ok (.iastore, 1) := by decide +kernel
theorem dX10_completes_152 : decode cX10_completes 152 = .ok (.iinc 1 1, 3) := by decide +kernel
theorem dX10_completes_155 : decode cX10_completes 155 = .ok (.goto (-28), 3) := by decide +kernel
theorem dX10_completes_158 : decode cX10_completes 158 = .ok (.aload_n 0, 1) := by decide +kernel
theorem dX10_completes_159 : decode cX10_completes 159 = .ok (.invokevirtual 182, 3) := by decide +kernel
theorem dX10_completes_162 : decode cX10_completes 162 = .ok (.return_, 1) := by decide +kernel
theorem hyX10_completes : yX10_completes.cls ≠ "java/lang/invoke/MethodHandle" ∧ yX10_completes.cls ≠ "java/lang/invoke/VarHandle" ∧ (parseMethodDescriptor yX10_completes.desc).map (fun d => d.parameters.length) = some 0 := ⟨by decide +kernel, by decide +kernel, by decide +kernel⟩
def sX10_completes_96b (x0 : Nat) (σ : zS) (u1 : Int32) : Option ((zS × Int32) ⊕ zS) :=
  (if 4 ≤ u1 then some (.inr σ) else (zgR 9 6 σ x0).bind fun v27 => (zgR 9 6 σ x0).bind fun v28 => (zaI σ v28 (98 + u1)).bind fun v29 => (zsI σ v27 (124 + u1) v29).bind fun σ30 => some (.inl (σ30, u1 + 1)))
def sX10_completes_96 (x0 : Nat) (z : (zS × Int32)) : Option ((zS × Int32) ⊕ zS) := sX10_completes_96b x0 z.1 z.2
set_option maxRecDepth 100000 in
set_option maxHeartbeats 4000000 in
theorem wsX10_completes_96b (C : zC p s m args meth c cX10_completes RX10 2 D Ca B En) (hRm : zRm R 4 89 cells slots) (x0 : Nat) (σ : zS) (u1 : Int32) (y : (zS × Int32) ⊕ zS) (hf : sX10_completes_96b x0 σ u1 = some y) (hk : (∀ z : (zS × Int32), y = .inl z → zW p l e R s m args below meth c cells slots Q D Ca B 2 z.1 N 96 [(0, .ref x0), (1, .int z.2)] []) ∧ (∀ z : zS, y = .inr z → zW p l e R s m args below meth c cells slots Q D Ca B 2 z N 125 [(0, .ref x0)] [])) : zW p l e R s m args below meth c cells slots Q D Ca B 2 σ N 96 [(0, .ref x0), (1, .int u1)] [] := by
  unfold sX10_completes_96b at hf
  refine z_iload_n C dX10_completes_96 rfl 1 rfl ?_
  refine z_iconst C 4 dX10_completes_97 (by decide) ?_
  refine z_icmp_ge C 125 dX10_completes_98 (by decide) (fun q31 => ?_) (fun q31 => ?_)
  · rw [if_pos q31] at hf
    cases hf
    refine z_sub [0] rfl ?_
    exact hk.2 _ rfl
  · rw [if_neg q31] at hf
    refine z_aload_n C dX10_completes_101 rfl 0 rfl ?_
    obtain ⟨v27, hv27, hf⟩ := zbind hf
    refine gf_RX10_21 C hv27 dX10_completes_102 ?_
    refine z_bipush C 124 dX10_completes_105 (by decide) ?_
    refine z_iload_n C dX10_completes_107 rfl 1 rfl ?_
    refine z_iadd C dX10_completes_108 ?_
    refine z_aload_n C dX10_completes_109 rfl 0 rfl ?_
    obtain ⟨v28, hv28, hf⟩ := zbind hf
    refine gf_RX10_21 C hv28 dX10_completes_110 ?_
    refine z_bipush C 98 dX10_completes_113 (by decide) ?_
    refine z_iload_n C dX10_completes_115 rfl 1 rfl ?_
    refine z_iadd C dX10_completes_116 ?_
    obtain ⟨v29, hv29, hf⟩ := zbind hf
    refine z_aI C hv29 dX10_completes_117 ?_
    obtain ⟨σ30, hσ30, hf⟩ := zbind hf
    refine z_sI C hσ30 dX10_completes_118 ?_
    refine z_iinc (lv2 := [(1, .int (u1 + 1)), (0, .ref x0)]) C (u1 + 1) dX10_completes_119 1 rfl rfl (by decide) rfl ?_
    refine z_goto C 96 dX10_completes_122 (by decide) ?_
    cases hf
    refine z_sub [1, 0] rfl ?_
    exact hk.1 _ rfl

theorem wsX10_completes_96 (C : zC p s m args meth c cX10_completes RX10 2 D Ca B En) (hRm : zRm R 4 89 cells slots) (x0 : Nat) (n : Nat) (z : (zS × Int32)) (x : zS) (hf : zloop (sX10_completes_96 x0) n z = some x) (hk : (∀ o : zS, x = o → zW p l e R s m args below meth c cells slots Q D Ca B 2 o N 125 [(0, .ref x0)] [])) : zW p l e R s m args below meth c cells slots Q D Ca B 2 z.1 N 96 [(0, .ref x0), (1, .int z.2)] [] := by
  refine zloop_W (P := fun z : (zS × Int32) => zW p l e R s m args below meth c cells slots Q D Ca B 2 z.1 N 96 [(0, .ref x0), (1, .int z.2)] []) (K := fun x : zS => (∀ o : zS, x = o → zW p l e R s m args below meth c cells slots Q D Ca B 2 o N 125 [(0, .ref x0)] [])) ?_ n z x hf hk
  intro z y hy h1 h2
  refine wsX10_completes_96b C hRm x0 z.1 z.2 y hy ⟨fun z2 e => h1 z2 e, fun o e => (h2 _ e) o rfl⟩
def sX10_completes_127b (x0 : Nat) (σ : zS) (u1 : Int32) : Option ((zS × Int32) ⊕ zS) :=
  (if 16 ≤ u1 then some (.inr σ) else (zgR 9 6 σ x0).bind fun v33 => (zgR 9 6 σ x0).bind fun v34 => (zaI σ v34 (102 + u1)).bind fun v35 => (zsI σ v33 (128 + u1) v35).bind fun σ36 => some (.inl (σ36, u1 + 1)))
def sX10_completes_127 (x0 : Nat) (z : (zS × Int32)) : Option ((zS × Int32) ⊕ zS) := sX10_completes_127b x0 z.1 z.2
set_option maxRecDepth 100000 in
set_option maxHeartbeats 4000000 in
theorem wsX10_completes_127b (C : zC p s m args meth c cX10_completes RX10 2 D Ca B En) (hRm : zRm R 4 89 cells slots) (x0 : Nat) (σ : zS) (u1 : Int32) (y : (zS × Int32) ⊕ zS) (hf : sX10_completes_127b x0 σ u1 = some y) (hk : (∀ z : (zS × Int32), y = .inl z → zW p l e R s m args below meth c cells slots Q D Ca B 2 z.1 N 127 [(0, .ref x0), (1, .int z.2)] []) ∧ (∀ z : zS, y = .inr z → zW p l e R s m args below meth c cells slots Q D Ca B 2 z N 158 [(0, .ref x0)] [])) : zW p l e R s m args below meth c cells slots Q D Ca B 2 σ N 127 [(0, .ref x0), (1, .int u1)] [] := by
  unfold sX10_completes_127b at hf
  refine z_iload_n C dX10_completes_127 rfl 1 rfl ?_
  refine z_bipush C 16 dX10_completes_128 (by decide) ?_
  refine z_icmp_ge C 158 dX10_completes_130 (by decide) (fun q37 => ?_) (fun q37 => ?_)
  · rw [if_pos q37] at hf
    cases hf
    refine z_sub [0] rfl ?_
    exact hk.2 _ rfl
  · rw [if_neg q37] at hf
    refine z_aload_n C dX10_completes_133 rfl 0 rfl ?_
    obtain ⟨v33, hv33, hf⟩ := zbind hf
    refine gf_RX10_21 C hv33 dX10_completes_134 ?_
    refine z_sipush C 128 dX10_completes_137 (by decide) ?_
    refine z_iload_n C dX10_completes_140 rfl 1 rfl ?_
    refine z_iadd C dX10_completes_141 ?_
    refine z_aload_n C dX10_completes_142 rfl 0 rfl ?_
    obtain ⟨v34, hv34, hf⟩ := zbind hf
    refine gf_RX10_21 C hv34 dX10_completes_143 ?_
    refine z_bipush C 102 dX10_completes_146 (by decide) ?_
    refine z_iload_n C dX10_completes_148 rfl 1 rfl ?_
    refine z_iadd C dX10_completes_149 ?_
    obtain ⟨v35, hv35, hf⟩ := zbind hf
    refine z_aI C hv35 dX10_completes_150 ?_
    obtain ⟨σ36, hσ36, hf⟩ := zbind hf
    refine z_sI C hσ36 dX10_completes_151 ?_
    refine z_iinc (lv2 := [(1, .int (u1 + 1)), (0, .ref x0)]) C (u1 + 1) dX10_completes_152 1 rfl rfl (by decide) rfl ?_
    refine z_goto C 127 dX10_completes_155 (by decide) ?_
    cases hf
    refine z_sub [1, 0] rfl ?_
    exact hk.1 _ rfl

theorem wsX10_completes_127 (C : zC p s m args meth c cX10_completes RX10 2 D Ca B En) (hRm : zRm R 4 89 cells slots) (x0 : Nat) (n : Nat) (z : (zS × Int32)) (x : zS) (hf : zloop (sX10_completes_127 x0) n z = some x) (hk : (∀ o : zS, x = o → zW p l e R s m args below meth c cells slots Q D Ca B 2 o N 158 [(0, .ref x0)] [])) : zW p l e R s m args below meth c cells slots Q D Ca B 2 z.1 N 127 [(0, .ref x0), (1, .int z.2)] [] := by
  refine zloop_W (P := fun z : (zS × Int32) => zW p l e R s m args below meth c cells slots Q D Ca B 2 z.1 N 127 [(0, .ref x0), (1, .int z.2)] []) (K := fun x : zS => (∀ o : zS, x = o → zW p l e R s m args below meth c cells slots Q D Ca B 2 o N 158 [(0, .ref x0)] [])) ?_ n z x hf hk
  intro z y hy h1 h2
  refine wsX10_completes_127b C hRm x0 z.1 z.2 y hy ⟨fun z2 e => h1 z2 e, fun o e => (h2 _ e) o rfl⟩
def fX10_completes (σ : zS) (x0 : Nat) : Option zS :=
  (zgR 9 6 σ x0).bind fun v1 => (zsI σ v1 67 0).bind fun σ2 => (zgR 9 6 σ2 x0).bind fun v3 => (zgR 9 6 σ2 x0).bind fun v4 => (zaI σ2 v4 6).bind fun v5 => (zsI σ2 v3 6 (v5 + 1)).bind fun σ6 => (zgR 9 6 σ6 x0).bind fun v7 => (zsI σ6 v7 118 1).bind fun σ8 => (zgR 9 6 σ8 x0).bind fun v9 => (zgR 9 6 σ8 x0).bind fun v10 => (zaI σ8 v10 5).bind fun v11 => (zsI σ8 v9 119 v11).bind fun σ12 => (zgR 9 6 σ12 x0).bind fun v13 => (zgR 9 6 σ12 x0).bind fun v14 => (zaI σ12 v14 68).bind fun v15 => (zsI σ12 v13 120 v15).bind fun σ16 => (zgR 9 6 σ16 x0).bind fun v17 => (zgR 9 6 σ16 x0).bind fun v18 => (zaI σ16 v18 0).bind fun v19 => (zsI σ16 v17 121 v19).bind fun σ20 => (zgR 9 6 σ20 x0).bind fun v21 => (zgR 9 6 σ20 x0).bind fun v22 => (zaI σ20 v22 69).bind fun v23 => (zsI σ20 v21 122 v23).bind fun σ24 => (zgR 9 6 σ24 x0).bind fun v25 => (zsI σ24 v25 123 0).bind fun σ26 => (zloop (sX10_completes_96 x0) zfuel (σ26, 0)).bind fun o32 => (zloop (sX10_completes_127 x0) zfuel (o32, 0)).bind fun o38 => (zck 9 o38 x0 (fX10_laysKept o38 x0 )).bind fun c39 => some c39
set_option maxRecDepth 100000 in
set_option maxHeartbeats 4000000 in
theorem wfX10_completes (C : zC p s m args meth c cX10_completes RX10 2 D Ca B En) (hRm : zRm R 4 89 cells slots) (σ : zS) (x0 : Nat) (τ : zS) (hf : fX10_completes σ x0 = some τ) (hq : ∀ (pc : Nat) (lv : List (Nat × Value)), decode cX10_completes pc = .ok (.return_, 1) → zW p l e R s m args below meth c cells slots Q D Ca B 2 τ N pc lv []) : zW p l e R s m args below meth c cells slots Q D Ca B 2 σ N 0 [(0, .ref x0)] [] := by
  unfold fX10_completes at hf
  refine z_aload_n C dX10_completes_0 rfl 0 rfl ?_
  obtain ⟨v1, hv1, hf⟩ := zbind hf
  refine gf_RX10_21 C hv1 dX10_completes_1 ?_
  refine z_bipush C 67 dX10_completes_4 (by decide) ?_
  refine z_iconst C 0 dX10_completes_6 (by decide) ?_
  obtain ⟨σ2, hσ2, hf⟩ := zbind hf
  refine z_sI C hσ2 dX10_completes_7 ?_
  refine z_aload_n C dX10_completes_8 rfl 0 rfl ?_
  obtain ⟨v3, hv3, hf⟩ := zbind hf
  refine gf_RX10_21 C hv3 dX10_completes_9 ?_
  refine z_bipush C 6 dX10_completes_12 (by decide) ?_
  refine z_aload_n C dX10_completes_14 rfl 0 rfl ?_
  obtain ⟨v4, hv4, hf⟩ := zbind hf
  refine gf_RX10_21 C hv4 dX10_completes_15 ?_
  refine z_bipush C 6 dX10_completes_18 (by decide) ?_
  obtain ⟨v5, hv5, hf⟩ := zbind hf
  refine z_aI C hv5 dX10_completes_20 ?_
  refine z_iconst C 1 dX10_completes_21 (by decide) ?_
  refine z_iadd C dX10_completes_22 ?_
  obtain ⟨σ6, hσ6, hf⟩ := zbind hf
  refine z_sI C hσ6 dX10_completes_23 ?_
  refine z_aload_n C dX10_completes_24 rfl 0 rfl ?_
  obtain ⟨v7, hv7, hf⟩ := zbind hf
  refine gf_RX10_21 C hv7 dX10_completes_25 ?_
  refine z_bipush C 118 dX10_completes_28 (by decide) ?_
  refine z_iconst C 1 dX10_completes_30 (by decide) ?_
  obtain ⟨σ8, hσ8, hf⟩ := zbind hf
  refine z_sI C hσ8 dX10_completes_31 ?_
  refine z_aload_n C dX10_completes_32 rfl 0 rfl ?_
  obtain ⟨v9, hv9, hf⟩ := zbind hf
  refine gf_RX10_21 C hv9 dX10_completes_33 ?_
  refine z_bipush C 119 dX10_completes_36 (by decide) ?_
  refine z_aload_n C dX10_completes_38 rfl 0 rfl ?_
  obtain ⟨v10, hv10, hf⟩ := zbind hf
  refine gf_RX10_21 C hv10 dX10_completes_39 ?_
  refine z_iconst C 5 dX10_completes_42 (by decide) ?_
  obtain ⟨v11, hv11, hf⟩ := zbind hf
  refine z_aI C hv11 dX10_completes_43 ?_
  obtain ⟨σ12, hσ12, hf⟩ := zbind hf
  refine z_sI C hσ12 dX10_completes_44 ?_
  refine z_aload_n C dX10_completes_45 rfl 0 rfl ?_
  obtain ⟨v13, hv13, hf⟩ := zbind hf
  refine gf_RX10_21 C hv13 dX10_completes_46 ?_
  refine z_bipush C 120 dX10_completes_49 (by decide) ?_
  refine z_aload_n C dX10_completes_51 rfl 0 rfl ?_
  obtain ⟨v14, hv14, hf⟩ := zbind hf
  refine gf_RX10_21 C hv14 dX10_completes_52 ?_
  refine z_bipush C 68 dX10_completes_55 (by decide) ?_
  obtain ⟨v15, hv15, hf⟩ := zbind hf
  refine z_aI C hv15 dX10_completes_57 ?_
  obtain ⟨σ16, hσ16, hf⟩ := zbind hf
  refine z_sI C hσ16 dX10_completes_58 ?_
  refine z_aload_n C dX10_completes_59 rfl 0 rfl ?_
  obtain ⟨v17, hv17, hf⟩ := zbind hf
  refine gf_RX10_21 C hv17 dX10_completes_60 ?_
  refine z_bipush C 121 dX10_completes_63 (by decide) ?_
  refine z_aload_n C dX10_completes_65 rfl 0 rfl ?_
  obtain ⟨v18, hv18, hf⟩ := zbind hf
  refine gf_RX10_21 C hv18 dX10_completes_66 ?_
  refine z_iconst C 0 dX10_completes_69 (by decide) ?_
  obtain ⟨v19, hv19, hf⟩ := zbind hf
  refine z_aI C hv19 dX10_completes_70 ?_
  obtain ⟨σ20, hσ20, hf⟩ := zbind hf
  refine z_sI C hσ20 dX10_completes_71 ?_
  refine z_aload_n C dX10_completes_72 rfl 0 rfl ?_
  obtain ⟨v21, hv21, hf⟩ := zbind hf
  refine gf_RX10_21 C hv21 dX10_completes_73 ?_
  refine z_bipush C 122 dX10_completes_76 (by decide) ?_
  refine z_aload_n C dX10_completes_78 rfl 0 rfl ?_
  obtain ⟨v22, hv22, hf⟩ := zbind hf
  refine gf_RX10_21 C hv22 dX10_completes_79 ?_
  refine z_bipush C 69 dX10_completes_82 (by decide) ?_
  obtain ⟨v23, hv23, hf⟩ := zbind hf
  refine z_aI C hv23 dX10_completes_84 ?_
  obtain ⟨σ24, hσ24, hf⟩ := zbind hf
  refine z_sI C hσ24 dX10_completes_85 ?_
  refine z_aload_n C dX10_completes_86 rfl 0 rfl ?_
  obtain ⟨v25, hv25, hf⟩ := zbind hf
  refine gf_RX10_21 C hv25 dX10_completes_87 ?_
  refine z_bipush C 123 dX10_completes_90 (by decide) ?_
  refine z_iconst C 0 dX10_completes_92 (by decide) ?_
  obtain ⟨σ26, hσ26, hf⟩ := zbind hf
  refine z_sI C hσ26 dX10_completes_93 ?_
  refine z_iconst C 0 dX10_completes_94 (by decide) ?_
  refine z_istore_n (lv2 := [(1, .int 0), (0, .ref x0)]) C dX10_completes_95 rfl (by decide) rfl ?_
  obtain ⟨o32, ho32, hf⟩ := zbind hf
  refine z_sub [1, 0] rfl ?_
  refine wsX10_completes_96 C hRm _ zfuel (σ26, 0) o32 ho32 ?_
  intro z9 e9
  subst e9
  refine z_iconst C 0 dX10_completes_125 (by decide) ?_
  refine z_istore_n (lv2 := [(1, .int 0), (0, .ref x0)]) C dX10_completes_126 rfl (by decide) rfl ?_
  obtain ⟨o38, ho38, hf⟩ := zbind hf
  refine z_sub [1, 0] rfl ?_
  refine wsX10_completes_127 C hRm _ zfuel (o32, 0) o38 ho38 ?_
  intro z9 e9
  subst e9
  refine z_aload_n C dX10_completes_158 rfl 0 rfl ?_
  obtain ⟨c39, hc39, hf⟩ := zbind hf
  obtain ⟨kc39, hc39⟩ := zck_ok hc39
  refine z_callVv (As := []) (F0 := 4) (L0 := 89) C (mX10_laysKept l D Ca B En C.2.2.2.2.2.2.2.1 o38 N x0  _ hc39) hRm kc39 rfl kw_1568 kw_14 kw_1565 kw_1567 kp_75 hyX10_laysKept (Nat.le_of_ble_eq_true rfl) (Nat.le_of_ble_eq_true rfl) rfl rfl (Nat.le_of_ble_eq_true rfl) dX10_completes_159 ?_
  cases hf
  exact hq _ _ dX10_completes_162

theorem mX10_completes (l : Launch) (D : va_G) (Ca : Nat → ClassId) (B : Nat) (En : State → Prop) (hE : zEk B En) (σ : zS) (N : Nat) (x0 : Nat) (X : zS) (hf : fX10_completes σ x0 = some X) : zMv l D Ca B En yX10_completes cX10_completes 2 (Option.none : Option Jvm.ClassFile.FieldType) 4 89 [.ref x0] σ N X () :=
  zMet_v (own := RX10) hE (by decide +kernel) rfl (Nat.le_of_ble_eq_true rfl) (fun p e s m args below meth c C hr hRm => wfX10_completes C hRm σ x0 X hf (fun pc lv hd => zfin_v (r := ()) C hr hd))
theorem dX10_shows_0 : decode cX10_shows 0 = .ok (.aload_n 0, 1) := by decide +kernel
theorem dX10_shows_1 : decode cX10_shows 1 = .ok (.getfield 21, 3) := by decide +kernel
theorem dX10_shows_4 : decode cX10_shows 4 = .ok (.bipush 118, 2) := by decide +kernel
theorem dX10_shows_6 : decode cX10_shows 6 = .ok (.iaload, 1) := by decide +kernel
theorem dX10_shows_7 : decode cX10_shows 7 = .ok (.ifCond .eq 14, 3) := by decide +kernel
theorem dX10_shows_10 : decode cX10_shows 10 = .ok (.aload_n 0, 1) := by decide +kernel
theorem dX10_shows_11 : decode cX10_shows 11 = .ok (.getfield 21, 3) := by decide +kernel
theorem dX10_shows_14 : decode cX10_shows 14 = .ok (.bipush 123, 2) := by decide +kernel
theorem dX10_shows_16 : decode cX10_shows 16 = .ok (.iaload, 1) := by decide +kernel
theorem dX10_shows_17 : decode cX10_shows 17 = .ok (.iconst 1, 1) := by decide +kernel
theorem dX10_shows_18 : decode cX10_shows 18 = .ok (.if_icmp .ne 4, 3) := by decide +kernel
theorem dX10_shows_21 : decode cX10_shows 21 = .ok (.return_, 1) := by decide +kernel
theorem dX10_shows_22 : decode cX10_shows 22 = .ok (.aload_n 0, 1) := by decide +kernel
theorem dX10_shows_23 : decode cX10_shows 23 = .ok (.getfield 21, 3) := by decide +kernel
theorem dX10_shows_26 : decode cX10_shows 26 = .ok (.bipush 123, 2) := by decide +kernel
theorem dX10_shows_28 : decode cX10_shows 28 = .ok (.iconst 1, 1) := by decide +kernel
theorem dX10_shows_29 : decode cX10_shows 29 = .ok (.iastore, 1) := by decide +kernel
theorem dX10_shows_30 : decode cX10_shows 30 = .ok (.iconst 0, 1) := by decide +kernel
theorem dX10_shows_31 : decode cX10_shows 31 = .ok (.istore_n 1, 1) := by decide +kernel
theorem dX10_shows_32 : decode cX10_shows 32 = .ok (.iload_n 1, 1) := by decide +kernel
theorem dX10_shows_33 : decode cX10_shows 33 = .ok (.aload_n 0, 1) := by decide +kernel
theorem dX10_shows_34 : decode cX10_shows 34 = .ok (.getfield 78, 3) := by decide +kernel
theorem dX10_shows_37 : decode cX10_shows 37 = .ok (.if_icmp .ge 38, 3) := by decide +kernel
theorem dX10_shows_40 : decode cX10_shows 40 = .ok (.aload_n 0, 1) := by decide +kernel
theorem dX10_shows_41 : decode cX10_shows 41 = .ok (.sipush 11394, 3) := by decide +kernel
theorem dX10_shows_44 : decode cX10_shows 44 = .ok (.iload_n 1, 1) := by decide +kernel
theorem dX10_shows_45 : decode cX10_shows 45 = .ok (.invokestatic 155, 3) := by decide +kernel
theorem dX10_shows_48 : decode cX10_shows 48 = .ok (.sipush 12996, 3) := by decide +kernel
theorem dX10_shows_51 : decode cX10_shows 51 = .ok (.iload_n 1, 1) := by decide +kernel
theorem dX10_shows_52 : decode cX10_shows 52 = .ok (.invokestatic 155, 3) := by decide +kernel
theorem dX10_shows_55 : decode cX10_shows 55 = .ok (.invokevirtual 112, 3) := by decide +kernel
theorem dX10_shows_58 : decode cX10_shows 58 = .ok (.aload_n 0, 1) := by decide +kernel
theorem dX10_shows_59 : decode cX10_shows 59 = .ok (.sipush 11394, 3) := by decide +kernel
theorem dX10_shows_62 : decode cX10_shows 62 = .ok (.iload_n 1, 1) := by decide +kernel
theorem dX10_shows_63 : decode cX10_shows 63 = .ok (.invokestatic 155, 3) := by decide +kernel
theorem dX10_shows_66 : decode cX10_shows 66 = .ok (.invokevirtual 108, 3) := by decide +kernel
theorem dX10_shows_69 : decode cX10_shows 69 = .ok (.iinc 1 1, 3) := by decide +kernel
theorem dX10_shows_72 : decode cX10_shows 72 = .ok (.goto (-40), 3) := by decide +kernel
theorem dX10_shows_75 : decode cX10_shows 75 = .ok (.return_, 1) := by decide +kernel
theorem hyX10_shows : yX10_shows.cls ≠ "java/lang/invoke/MethodHandle" ∧ yX10_shows.cls ≠ "java/lang/invoke/VarHandle" ∧ (parseMethodDescriptor yX10_shows.desc).map (fun d => d.parameters.length) = some 0 := ⟨by decide +kernel, by decide +kernel, by decide +kernel⟩
def sX10_shows_32b (x0 : Nat) (σ : zS) (u1 : Int32) : Option ((zS × Int32) ⊕ zS) :=
  (zgI 9 2 σ x0).bind fun v7 => (if v7 ≤ u1 then some (.inr σ) else (fX10_results σ 11394 u1).bind fun c8 => (fX10_results c8.1 12996 u1).bind fun c9 => (zck 9 c9.1 x0 (fX10_addsAll c9.1 x0 c8.2 c9.2)).bind fun c10 => (fX10_results c10 11394 u1).bind fun c11 => (zck 9 c11.1 x0 (fX10_empties c11.1 x0 c11.2)).bind fun c12 => some (.inl (c12, u1 + 1)))
def sX10_shows_32 (x0 : Nat) (z : (zS × Int32)) : Option ((zS × Int32) ⊕ zS) := sX10_shows_32b x0 z.1 z.2
set_option maxRecDepth 100000 in
set_option maxHeartbeats 4000000 in
theorem wsX10_shows_32b (C : zC p s m args meth c cX10_shows RX10 2 D Ca B En) (hRm : zRm R 2 45 cells slots) (x0 : Nat) (σ : zS) (u1 : Int32) (y : (zS × Int32) ⊕ zS) (hf : sX10_shows_32b x0 σ u1 = some y) (hk : (∀ z : (zS × Int32), y = .inl z → zW p l e R s m args below meth c cells slots Q D Ca B 2 z.1 N 32 [(0, .ref x0), (1, .int z.2)] []) ∧ (∀ z : zS, y = .inr z → zW p l e R s m args below meth c cells slots Q D Ca B 2 z N 75 [] [])) : zW p l e R s m args below meth c cells slots Q D Ca B 2 σ N 32 [(0, .ref x0), (1, .int u1)] [] := by
  unfold sX10_shows_32b at hf
  refine z_iload_n C dX10_shows_32 rfl 1 rfl ?_
  refine z_aload_n C dX10_shows_33 rfl 0 rfl ?_
  obtain ⟨v7, hv7, hf⟩ := zbind hf
  refine gf_RX10_78 C hv7 dX10_shows_34 ?_
  refine z_icmp_ge C 75 dX10_shows_37 (by decide) (fun q13 => ?_) (fun q13 => ?_)
  · rw [if_pos q13] at hf
    cases hf
    refine z_sub [] rfl ?_
    exact hk.2 _ rfl
  · rw [if_neg q13] at hf
    refine z_aload_n C dX10_shows_40 rfl 0 rfl ?_
    refine z_sipush C 11394 dX10_shows_41 (by decide) ?_
    refine z_iload_n C dX10_shows_44 rfl 1 rfl ?_
    obtain ⟨c8, hc8, hf⟩ := zbind hf
    refine z_callSi (As := [.int 11394, .int u1]) (F0 := 2) (L0 := 45) C (mX10_results l D Ca B En C.2.2.2.2.2.2.2.1 σ N 11394 u1 _ hc8) hRm kw_1431 kw_14 kw_1429 kw_1430 hyX10_results (Nat.le_of_ble_eq_true rfl) (Nat.le_of_ble_eq_true rfl) rfl rfl (Nat.le_of_ble_eq_true rfl) dX10_shows_45 ?_
    refine z_sipush C 12996 dX10_shows_48 (by decide) ?_
    refine z_iload_n C dX10_shows_51 rfl 1 rfl ?_
    obtain ⟨c9, hc9, hf⟩ := zbind hf
    refine z_callSi (As := [.int 12996, .int u1]) (F0 := 2) (L0 := 45) C (mX10_results l D Ca B En C.2.2.2.2.2.2.2.1 c8.1 N 12996 u1 _ hc9) hRm kw_1431 kw_14 kw_1429 kw_1430 hyX10_results (Nat.le_of_ble_eq_true rfl) (Nat.le_of_ble_eq_true rfl) rfl rfl (Nat.le_of_ble_eq_true rfl) dX10_shows_52 ?_
    obtain ⟨c10, hc10, hf⟩ := zbind hf
    obtain ⟨kc10, hc10⟩ := zck_ok hc10
    refine z_callVv (As := [.int c8.2, .int c9.2]) (F0 := 2) (L0 := 45) C (mX10_addsAll l D Ca B En C.2.2.2.2.2.2.2.1 c9.1 N x0 c8.2 c9.2 _ hc10) hRm kc10 rfl kw_1435 kw_14 kw_1432 kw_1434 kp_44 hyX10_addsAll (Nat.le_of_ble_eq_true rfl) (Nat.le_of_ble_eq_true rfl) rfl rfl (Nat.le_of_ble_eq_true rfl) dX10_shows_55 ?_
    refine z_aload_n C dX10_shows_58 rfl 0 rfl ?_
    refine z_sipush C 11394 dX10_shows_59 (by decide) ?_
    refine z_iload_n C dX10_shows_62 rfl 1 rfl ?_
    obtain ⟨c11, hc11, hf⟩ := zbind hf
    refine z_callSi (As := [.int 11394, .int u1]) (F0 := 2) (L0 := 45) C (mX10_results l D Ca B En C.2.2.2.2.2.2.2.1 c10 N 11394 u1 _ hc11) hRm kw_1431 kw_14 kw_1429 kw_1430 hyX10_results (Nat.le_of_ble_eq_true rfl) (Nat.le_of_ble_eq_true rfl) rfl rfl (Nat.le_of_ble_eq_true rfl) dX10_shows_63 ?_
    obtain ⟨c12, hc12, hf⟩ := zbind hf
    obtain ⟨kc12, hc12⟩ := zck_ok hc12
    refine z_callVv (As := [.int c11.2]) (F0 := 2) (L0 := 45) C (mX10_empties l D Ca B En C.2.2.2.2.2.2.2.1 c11.1 N x0 c11.2 _ hc12) hRm kc12 rfl kw_1418 kw_14 kw_1415 kw_1417 kp_42 hyX10_empties (Nat.le_of_ble_eq_true rfl) (Nat.le_of_ble_eq_true rfl) rfl rfl (Nat.le_of_ble_eq_true rfl) dX10_shows_66 ?_
    refine z_iinc (lv2 := [(1, .int (u1 + 1)), (0, .ref x0)]) C (u1 + 1) dX10_shows_69 1 rfl rfl (by decide) rfl ?_
    refine z_goto C 32 dX10_shows_72 (by decide) ?_
    cases hf
    refine z_sub [1, 0] rfl ?_
    exact hk.1 _ rfl

theorem wsX10_shows_32 (C : zC p s m args meth c cX10_shows RX10 2 D Ca B En) (hRm : zRm R 2 45 cells slots) (x0 : Nat) (n : Nat) (z : (zS × Int32)) (x : zS) (hf : zloop (sX10_shows_32 x0) n z = some x) (hk : (∀ o : zS, x = o → zW p l e R s m args below meth c cells slots Q D Ca B 2 o N 75 [] [])) : zW p l e R s m args below meth c cells slots Q D Ca B 2 z.1 N 32 [(0, .ref x0), (1, .int z.2)] [] := by
  refine zloop_W (P := fun z : (zS × Int32) => zW p l e R s m args below meth c cells slots Q D Ca B 2 z.1 N 32 [(0, .ref x0), (1, .int z.2)] []) (K := fun x : zS => (∀ o : zS, x = o → zW p l e R s m args below meth c cells slots Q D Ca B 2 o N 75 [] [])) ?_ n z x hf hk
  intro z y hy h1 h2
  refine wsX10_shows_32b C hRm x0 z.1 z.2 y hy ⟨fun z2 e => h1 z2 e, fun o e => (h2 _ e) o rfl⟩
def fX10_shows (σ : zS) (x0 : Nat) : Option zS :=
  (zgR 9 6 σ x0).bind fun v1 => (zaI σ v1 118).bind fun v2 => (if v2 = 0 then some σ else (zgR 9 6 σ x0).bind fun v3 => (zaI σ v3 123).bind fun v4 => (if v4 = 1 then some σ else (zgR 9 6 σ x0).bind fun v5 => (zsI σ v5 123 1).bind fun σ6 => (zloop (sX10_shows_32 x0) zfuel (σ6, 0)).bind fun o14 => some o14))
set_option maxRecDepth 100000 in
set_option maxHeartbeats 4000000 in
theorem wfX10_shows (C : zC p s m args meth c cX10_shows RX10 2 D Ca B En) (hRm : zRm R 2 45 cells slots) (σ : zS) (x0 : Nat) (τ : zS) (hf : fX10_shows σ x0 = some τ) (hq : ∀ (pc : Nat) (lv : List (Nat × Value)), decode cX10_shows pc = .ok (.return_, 1) → zW p l e R s m args below meth c cells slots Q D Ca B 2 τ N pc lv []) : zW p l e R s m args below meth c cells slots Q D Ca B 2 σ N 0 [(0, .ref x0)] [] := by
  unfold fX10_shows at hf
  refine z_aload_n C dX10_shows_0 rfl 0 rfl ?_
  obtain ⟨v1, hv1, hf⟩ := zbind hf
  refine gf_RX10_21 C hv1 dX10_shows_1 ?_
  refine z_bipush C 118 dX10_shows_4 (by decide) ?_
  obtain ⟨v2, hv2, hf⟩ := zbind hf
  refine z_aI C hv2 dX10_shows_6 ?_
  refine z_if_eq C 21 dX10_shows_7 (by decide) (fun q16 => ?_) (fun q16 => ?_)
  · rw [if_pos q16] at hf
    cases hf
    exact hq _ _ dX10_shows_21
  · rw [if_neg q16] at hf
    refine z_aload_n C dX10_shows_10 rfl 0 rfl ?_
    obtain ⟨v3, hv3, hf⟩ := zbind hf
    refine gf_RX10_21 C hv3 dX10_shows_11 ?_
    refine z_bipush C 123 dX10_shows_14 (by decide) ?_
    obtain ⟨v4, hv4, hf⟩ := zbind hf
    refine z_aI C hv4 dX10_shows_16 ?_
    refine z_iconst C 1 dX10_shows_17 (by decide) ?_
    refine z_icmp_ne C 22 dX10_shows_18 (by decide) (fun q15 => ?_) (fun q15 => ?_)
    · rw [if_neg q15] at hf
      refine z_aload_n C dX10_shows_22 rfl 0 rfl ?_
      obtain ⟨v5, hv5, hf⟩ := zbind hf
      refine gf_RX10_21 C hv5 dX10_shows_23 ?_
      refine z_bipush C 123 dX10_shows_26 (by decide) ?_
      refine z_iconst C 1 dX10_shows_28 (by decide) ?_
      obtain ⟨σ6, hσ6, hf⟩ := zbind hf
      refine z_sI C hσ6 dX10_shows_29 ?_
      refine z_iconst C 0 dX10_shows_30 (by decide) ?_
      refine z_istore_n (lv2 := [(1, .int 0), (0, .ref x0)]) C dX10_shows_31 rfl (by decide) rfl ?_
      obtain ⟨o14, ho14, hf⟩ := zbind hf
      refine z_sub [1, 0] rfl ?_
      refine wsX10_shows_32 C hRm _ zfuel (σ6, 0) o14 ho14 ?_
      intro z9 e9
      subst e9
      cases hf
      exact hq _ _ dX10_shows_75
    · rw [if_pos q15] at hf
      cases hf
      exact hq _ _ dX10_shows_21

theorem mX10_shows (l : Launch) (D : va_G) (Ca : Nat → ClassId) (B : Nat) (En : State → Prop) (hE : zEk B En) (σ : zS) (N : Nat) (x0 : Nat) (X : zS) (hf : fX10_shows σ x0 = some X) : zMv l D Ca B En yX10_shows cX10_shows 2 (Option.none : Option Jvm.ClassFile.FieldType) 2 45 [.ref x0] σ N X () :=
  zMet_v (own := RX10) hE (by decide +kernel) rfl (Nat.le_of_ble_eq_true rfl) (fun p e s m args below meth c C hr hRm => wfX10_shows C hRm σ x0 X hf (fun pc lv hd => zfin_v (r := ()) C hr hd))
end ZM
