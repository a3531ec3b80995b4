/-! The constructors. -/
theorem kw_4 : (Jvm.Cond.initialized "BarrierFlow$Output") ∈ zTb := zTb_of 4 (by decide +kernel) (by decide +kernel)
theorem kw_36 : (Jvm.Cond.methodLink "BarrierFlow" (3 : Nat) ({ cls := "java/lang/Object", name := "<init>", desc := "()V" } : Jvm.MethodName)) ∈ zTb := zTb_of 36 (by decide +kernel) (by decide +kernel)
theorem kw_37 : (Jvm.Cond.instanceMethod ({ cls := "java/lang/Object", name := "<init>", desc := "()V" } : Jvm.MethodName)) ∈ zTb := zTb_of 37 (by decide +kernel) (by decide +kernel)
theorem kw_38 : (Jvm.Cond.code ({ cls := "java/lang/Object", name := "<init>", desc := "()V" } : Jvm.MethodName) object_method_1_code (1 : Nat) (Option.none : Option Jvm.ClassFile.FieldType)) ∈ zTb := zTb_of 38 (by decide +kernel) (by decide +kernel)
theorem kw_39 : (Jvm.Cond.classLink "BarrierFlow" (9 : Nat) "BarrierFlow$Input") ∈ zTb := zTb_of 39 (by decide +kernel) (by decide +kernel)
theorem kw_40 : (Jvm.Cond.instantiable "BarrierFlow$Input" (2 : Nat)) ∈ zTb := zTb_of 40 (by decide +kernel) (by decide +kernel)
theorem kw_42 : (Jvm.Cond.instanceMethod ({ cls := "BarrierFlow$Input", name := "<init>", desc := "()V" } : Jvm.MethodName)) ∈ zTb := zTb_of 42 (by decide +kernel) (by decide +kernel)
theorem kw_43 : (Jvm.Cond.code ({ cls := "BarrierFlow$Input", name := "<init>", desc := "()V" } : Jvm.MethodName) prog_4_method_1_code (1 : Nat) (Option.none : Option Jvm.ClassFile.FieldType)) ∈ zTb := zTb_of 43 (by decide +kernel) (by decide +kernel)
theorem kw_44 : (Jvm.Cond.methodLink "BarrierFlow$Input" (3 : Nat) ({ cls := "java/lang/Object", name := "<init>", desc := "()V" } : Jvm.MethodName)) ∈ zTb := zTb_of 44 (by decide +kernel) (by decide +kernel)
theorem kw_55 : (Jvm.Cond.arrayClass Jvm.ClassFile.FieldType.byte) ∈ zTb := zTb_of 55 (by decide +kernel) (by decide +kernel)
theorem kw_56 : (Jvm.Cond.classLink "BarrierFlow" (16 : Nat) "BarrierFlow$Parser") ∈ zTb := zTb_of 56 (by decide +kernel) (by decide +kernel)
theorem kw_57 : (Jvm.Cond.instantiable "BarrierFlow$Parser" (8 : Nat)) ∈ zTb := zTb_of 57 (by decide +kernel) (by decide +kernel)
theorem kw_58 : (Jvm.Cond.methodLink "BarrierFlow" (18 : Nat) ({ cls := "BarrierFlow$Parser", name := "<init>", desc := "(LBarrierFlow$Input;)V" } : Jvm.MethodName)) ∈ zTb := zTb_of 58 (by decide +kernel) (by decide +kernel)
theorem kw_59 : (Jvm.Cond.instanceMethod ({ cls := "BarrierFlow$Parser", name := "<init>", desc := "(LBarrierFlow$Input;)V" } : Jvm.MethodName)) ∈ zTb := zTb_of 59 (by decide +kernel) (by decide +kernel)
theorem kw_60 : (Jvm.Cond.code ({ cls := "BarrierFlow$Parser", name := "<init>", desc := "(LBarrierFlow$Input;)V" } : Jvm.MethodName) prog_7_method_1_code (2 : Nat) (Option.none : Option Jvm.ClassFile.FieldType)) ∈ zTb := zTb_of 60 (by decide +kernel) (by decide +kernel)
theorem kw_61 : (Jvm.Cond.methodLink "BarrierFlow$Parser" (3 : Nat) ({ cls := "java/lang/Object", name := "<init>", desc := "()V" } : Jvm.MethodName)) ∈ zTb := zTb_of 61 (by decide +kernel) (by decide +kernel)
theorem kw_87 : (Jvm.Cond.classLink "BarrierFlow" (25 : Nat) "BarrierFlow$Output") ∈ zTb := zTb_of 87 (by decide +kernel) (by decide +kernel)
theorem kw_88 : (Jvm.Cond.instantiable "BarrierFlow$Output" (2 : Nat)) ∈ zTb := zTb_of 88 (by decide +kernel) (by decide +kernel)
theorem kw_90 : (Jvm.Cond.instanceMethod ({ cls := "BarrierFlow$Output", name := "<init>", desc := "()V" } : Jvm.MethodName)) ∈ zTb := zTb_of 90 (by decide +kernel) (by decide +kernel)
theorem kw_91 : (Jvm.Cond.code ({ cls := "BarrierFlow$Output", name := "<init>", desc := "()V" } : Jvm.MethodName) prog_6_method_1_code (1 : Nat) (Option.none : Option Jvm.ClassFile.FieldType)) ∈ zTb := zTb_of 91 (by decide +kernel) (by decide +kernel)
theorem kw_92 : (Jvm.Cond.methodLink "BarrierFlow$Output" (3 : Nat) ({ cls := "java/lang/Object", name := "<init>", desc := "()V" } : Jvm.MethodName)) ∈ zTb := zTb_of 92 (by decide +kernel) (by decide +kernel)
theorem kw_93 : (Jvm.Cond.fieldLink "BarrierFlow$Output" (9 : Nat) "BarrierFlow$Output" "bytes" "[B") ∈ zTb := zTb_of 93 (by decide +kernel) (by decide +kernel)
theorem kw_99 : (Jvm.Cond.classLink "BarrierFlow" (32 : Nat) "BarrierFlow$Setup") ∈ zTb := zTb_of 99 (by decide +kernel) (by decide +kernel)
theorem kw_100 : (Jvm.Cond.instantiable "BarrierFlow$Setup" (11 : Nat)) ∈ zTb := zTb_of 100 (by decide +kernel) (by decide +kernel)
theorem kw_102 : (Jvm.Cond.instanceMethod ({ cls := "BarrierFlow$Setup", name := "<init>", desc := "()V" } : Jvm.MethodName)) ∈ zTb := zTb_of 102 (by decide +kernel) (by decide +kernel)
theorem kw_103 : (Jvm.Cond.code ({ cls := "BarrierFlow$Setup", name := "<init>", desc := "()V" } : Jvm.MethodName) prog_9_method_1_code (1 : Nat) (Option.none : Option Jvm.ClassFile.FieldType)) ∈ zTb := zTb_of 103 (by decide +kernel) (by decide +kernel)
theorem kw_104 : (Jvm.Cond.methodLink "BarrierFlow$Setup" (3 : Nat) ({ cls := "java/lang/Object", name := "<init>", desc := "()V" } : Jvm.MethodName)) ∈ zTb := zTb_of 104 (by decide +kernel) (by decide +kernel)
theorem kw_154 : (Jvm.Cond.arrayClass Jvm.ClassFile.FieldType.int) ∈ zTb := zTb_of 154 (by decide +kernel) (by decide +kernel)
theorem kw_155 : (Jvm.Cond.methodLink "BarrierFlow" (42 : Nat) ({ cls := "BarrierFlow$Setup", name := "makePlain", desc := "()V" } : Jvm.MethodName)) ∈ zTb := zTb_of 155 (by decide +kernel) (by decide +kernel)
theorem kw_156 : (Jvm.Cond.instanceMethod ({ cls := "BarrierFlow$Setup", name := "makePlain", desc := "()V" } : Jvm.MethodName)) ∈ zTb := zTb_of 156 (by decide +kernel) (by decide +kernel)
theorem kw_157 : (Jvm.Cond.selects "BarrierFlow$Setup" ({ cls := "BarrierFlow$Setup", name := "makePlain", desc := "()V" } : Jvm.MethodName) ({ cls := "BarrierFlow$Setup", name := "makePlain", desc := "()V" } : Jvm.MethodName)) ∈ zTb := zTb_of 157 (by decide +kernel) (by decide +kernel)
theorem kw_158 : (Jvm.Cond.code ({ cls := "BarrierFlow$Setup", name := "makePlain", desc := "()V" } : Jvm.MethodName) prog_9_method_3_code (1 : Nat) (Option.none : Option Jvm.ClassFile.FieldType)) ∈ zTb := zTb_of 158 (by decide +kernel) (by decide +kernel)
theorem kw_187 : (Jvm.Cond.classLink "BarrierFlow" (45 : Nat) "BarrierFlow$Flow") ∈ zTb := zTb_of 187 (by decide +kernel) (by decide +kernel)
theorem kw_188 : (Jvm.Cond.instantiable "BarrierFlow$Flow" (20 : Nat)) ∈ zTb := zTb_of 188 (by decide +kernel) (by decide +kernel)
theorem kw_189 : (Jvm.Cond.methodLink "BarrierFlow" (47 : Nat) ({ cls := "BarrierFlow$Flow", name := "<init>", desc := "(LBarrierFlow$Setup;)V" } : Jvm.MethodName)) ∈ zTb := zTb_of 189 (by decide +kernel) (by decide +kernel)
theorem kw_190 : (Jvm.Cond.instanceMethod ({ cls := "BarrierFlow$Flow", name := "<init>", desc := "(LBarrierFlow$Setup;)V" } : Jvm.MethodName)) ∈ zTb := zTb_of 190 (by decide +kernel) (by decide +kernel)
theorem kw_191 : (Jvm.Cond.code ({ cls := "BarrierFlow$Flow", name := "<init>", desc := "(LBarrierFlow$Setup;)V" } : Jvm.MethodName) prog_3_method_1_code (2 : Nat) (Option.none : Option Jvm.ClassFile.FieldType)) ∈ zTb := zTb_of 191 (by decide +kernel) (by decide +kernel)
theorem kw_192 : (Jvm.Cond.methodLink "BarrierFlow$Flow" (3 : Nat) ({ cls := "java/lang/Object", name := "<init>", desc := "()V" } : Jvm.MethodName)) ∈ zTb := zTb_of 192 (by decide +kernel) (by decide +kernel)
theorem kw_193 : (Jvm.Cond.classLink "BarrierFlow$Flow" (27 : Nat) "BarrierFlow$Lists") ∈ zTb := zTb_of 193 (by decide +kernel) (by decide +kernel)
theorem kw_194 : (Jvm.Cond.instantiable "BarrierFlow$Lists" (4 : Nat)) ∈ zTb := zTb_of 194 (by decide +kernel) (by decide +kernel)
theorem kw_195 : (Jvm.Cond.methodLink "BarrierFlow$Flow" (29 : Nat) ({ cls := "BarrierFlow$Lists", name := "<init>", desc := "()V" } : Jvm.MethodName)) ∈ zTb := zTb_of 195 (by decide +kernel) (by decide +kernel)
theorem kw_196 : (Jvm.Cond.instanceMethod ({ cls := "BarrierFlow$Lists", name := "<init>", desc := "()V" } : Jvm.MethodName)) ∈ zTb := zTb_of 196 (by decide +kernel) (by decide +kernel)
theorem kw_197 : (Jvm.Cond.code ({ cls := "BarrierFlow$Lists", name := "<init>", desc := "()V" } : Jvm.MethodName) prog_5_method_1_code (1 : Nat) (Option.none : Option Jvm.ClassFile.FieldType)) ∈ zTb := zTb_of 197 (by decide +kernel) (by decide +kernel)
theorem kw_198 : (Jvm.Cond.methodLink "BarrierFlow$Lists" (3 : Nat) ({ cls := "java/lang/Object", name := "<init>", desc := "()V" } : Jvm.MethodName)) ∈ zTb := zTb_of 198 (by decide +kernel) (by decide +kernel)
theorem kw_199 : (Jvm.Cond.methodLink "BarrierFlow$Lists" (24 : Nat) ({ cls := "BarrierFlow$Lists", name := "clearAll", desc := "()V" } : Jvm.MethodName)) ∈ zTb := zTb_of 199 (by decide +kernel) (by decide +kernel)
theorem kw_220 : (Jvm.Cond.classLink "BarrierFlow$Flow" (34 : Nat) "BarrierFlow$Checkpoint") ∈ zTb := zTb_of 220 (by decide +kernel) (by decide +kernel)
theorem kw_221 : (Jvm.Cond.instantiable "BarrierFlow$Checkpoint" (11 : Nat)) ∈ zTb := zTb_of 221 (by decide +kernel) (by decide +kernel)
theorem kw_223 : (Jvm.Cond.instanceMethod ({ cls := "BarrierFlow$Checkpoint", name := "<init>", desc := "()V" } : Jvm.MethodName)) ∈ zTb := zTb_of 223 (by decide +kernel) (by decide +kernel)
theorem kw_224 : (Jvm.Cond.code ({ cls := "BarrierFlow$Checkpoint", name := "<init>", desc := "()V" } : Jvm.MethodName) prog_2_method_1_code (1 : Nat) (Option.none : Option Jvm.ClassFile.FieldType)) ∈ zTb := zTb_of 224 (by decide +kernel) (by decide +kernel)
theorem kw_225 : (Jvm.Cond.methodLink "BarrierFlow$Checkpoint" (3 : Nat) ({ cls := "java/lang/Object", name := "<init>", desc := "()V" } : Jvm.MethodName)) ∈ zTb := zTb_of 225 (by decide +kernel) (by decide +kernel)
theorem kw_226 : (Jvm.Cond.classLink "BarrierFlow$Checkpoint" (21 : Nat) "BarrierFlow$Lists") ∈ zTb := zTb_of 226 (by decide +kernel) (by decide +kernel)
theorem kw_227 : (Jvm.Cond.methodLink "BarrierFlow$Checkpoint" (23 : Nat) ({ cls := "BarrierFlow$Lists", name := "<init>", desc := "()V" } : Jvm.MethodName)) ∈ zTb := zTb_of 227 (by decide +kernel) (by decide +kernel)
theorem kw_282 : (Jvm.Cond.methodLink "BarrierFlow$Flow" (50 : Nat) ({ cls := "BarrierFlow$Flow", name := "start", desc := "(LBarrierFlow$Setup;)V" } : Jvm.MethodName)) ∈ zTb := zTb_of 282 (by decide +kernel) (by decide +kernel)
theorem kw_427 : (Jvm.Cond.classLink "BarrierFlow" (60 : Nat) "BarrierFlow$Past") ∈ zTb := zTb_of 427 (by decide +kernel) (by decide +kernel)
theorem kw_428 : (Jvm.Cond.instantiable "BarrierFlow$Past" (3 : Nat)) ∈ zTb := zTb_of 428 (by decide +kernel) (by decide +kernel)
theorem kw_429 : (Jvm.Cond.methodLink "BarrierFlow" (62 : Nat) ({ cls := "BarrierFlow$Past", name := "<init>", desc := "(LBarrierFlow$Setup;)V" } : Jvm.MethodName)) ∈ zTb := zTb_of 429 (by decide +kernel) (by decide +kernel)
theorem kw_430 : (Jvm.Cond.instanceMethod ({ cls := "BarrierFlow$Past", name := "<init>", desc := "(LBarrierFlow$Setup;)V" } : Jvm.MethodName)) ∈ zTb := zTb_of 430 (by decide +kernel) (by decide +kernel)
theorem kw_431 : (Jvm.Cond.code ({ cls := "BarrierFlow$Past", name := "<init>", desc := "(LBarrierFlow$Setup;)V" } : Jvm.MethodName) prog_8_method_1_code (3 : Nat) (Option.none : Option Jvm.ClassFile.FieldType)) ∈ zTb := zTb_of 431 (by decide +kernel) (by decide +kernel)
theorem kw_432 : (Jvm.Cond.methodLink "BarrierFlow$Past" (3 : Nat) ({ cls := "java/lang/Object", name := "<init>", desc := "()V" } : Jvm.MethodName)) ∈ zTb := zTb_of 432 (by decide +kernel) (by decide +kernel)
theorem kw_433 : (Jvm.Cond.classLink "BarrierFlow$Past" (9 : Nat) "BarrierFlow$Flow") ∈ zTb := zTb_of 433 (by decide +kernel) (by decide +kernel)
theorem kw_435 : (Jvm.Cond.methodLink "BarrierFlow$Past" (17 : Nat) ({ cls := "BarrierFlow$Flow", name := "<init>", desc := "(LBarrierFlow$Setup;)V" } : Jvm.MethodName)) ∈ zTb := zTb_of 435 (by decide +kernel) (by decide +kernel)
theorem kw_449 : (Jvm.Cond.fieldLink "BarrierFlow" (28 : Nat) "BarrierFlow" "output" "LBarrierFlow$Output;") ∈ zTb := zTb_of 449 (by decide +kernel) (by decide +kernel)
theorem hdef_0 : ∀ j, j < 11 → defaultValue (tyX0 j) = if (zrt 0).contains j then .null else .int 0 := by
  intro j hj
  match j, hj with
  | 0, _ => rfl
  | 1, _ => rfl
  | 2, _ => rfl
  | 3, _ => rfl
  | 4, _ => rfl
  | 5, _ => rfl
  | 6, _ => rfl
  | 7, _ => rfl
  | 8, _ => rfl
  | 9, _ => rfl
  | 10, _ => rfl
  | j + 11, hj => exact absurd hj (by omega)
theorem hdef_1 : ∀ j, j < 20 → defaultValue (tyX1 j) = if (zrt 1).contains j then .null else .int 0 := by
  intro j hj
  match j, hj with
  | 0, _ => rfl
  | 1, _ => rfl
  | 2, _ => rfl
  | 3, _ => rfl
  | 4, _ => rfl
  | 5, _ => rfl
  | 6, _ => rfl
  | 7, _ => rfl
  | 8, _ => rfl
  | 9, _ => rfl
  | 10, _ => rfl
  | 11, _ => rfl
  | 12, _ => rfl
  | 13, _ => rfl
  | 14, _ => rfl
  | 15, _ => rfl
  | 16, _ => rfl
  | 17, _ => rfl
  | 18, _ => rfl
  | 19, _ => rfl
  | j + 20, hj => exact absurd hj (by omega)
theorem hdef_2 : ∀ j, j < 2 → defaultValue (tyX2 j) = if (zrt 2).contains j then .null else .int 0 := by
  intro j hj
  match j, hj with
  | 0, _ => rfl
  | 1, _ => rfl
  | j + 2, hj => exact absurd hj (by omega)
theorem hdef_3 : ∀ j, j < 4 → defaultValue (tyX3 j) = if (zrt 3).contains j then .null else .int 0 := by
  intro j hj
  match j, hj with
  | 0, _ => rfl
  | 1, _ => rfl
  | 2, _ => rfl
  | 3, _ => rfl
  | j + 4, hj => exact absurd hj (by omega)
theorem hdef_4 : ∀ j, j < 2 → defaultValue (tyX4 j) = if (zrt 4).contains j then .null else .int 0 := by
  intro j hj
  match j, hj with
  | 0, _ => rfl
  | 1, _ => rfl
  | j + 2, hj => exact absurd hj (by omega)
theorem hdef_5 : ∀ j, j < 8 → defaultValue (tyX5 j) = if (zrt 5).contains j then .null else .int 0 := by
  intro j hj
  match j, hj with
  | 0, _ => rfl
  | 1, _ => rfl
  | 2, _ => rfl
  | 3, _ => rfl
  | 4, _ => rfl
  | 5, _ => rfl
  | 6, _ => rfl
  | 7, _ => rfl
  | j + 8, hj => exact absurd hj (by omega)
theorem hdef_6 : ∀ j, j < 3 → defaultValue (tyX6 j) = if (zrt 6).contains j then .null else .int 0 := by
  intro j hj
  match j, hj with
  | 0, _ => rfl
  | 1, _ => rfl
  | 2, _ => rfl
  | j + 3, hj => exact absurd hj (by omega)
theorem hdef_7 : ∀ j, j < 11 → defaultValue (tyX7 j) = if (zrt 7).contains j then .null else .int 0 := by
  intro j hj
  match j, hj with
  | 0, _ => rfl
  | 1, _ => rfl
  | 2, _ => rfl
  | 3, _ => rfl
  | 4, _ => rfl
  | 5, _ => rfl
  | 6, _ => rfl
  | 7, _ => rfl
  | 8, _ => rfl
  | 9, _ => rfl
  | 10, _ => rfl
  | j + 11, hj => exact absurd hj (by omega)
theorem hdef_8 : ∀ j, j < 10 → defaultValue (tyX9 j) = if (zrt 8).contains j then .null else .int 0 := by
  intro j hj
  match j, hj with
  | 0, _ => rfl
  | 1, _ => rfl
  | 2, _ => rfl
  | 3, _ => rfl
  | 4, _ => rfl
  | 5, _ => rfl
  | 6, _ => rfl
  | 7, _ => rfl
  | 8, _ => rfl
  | 9, _ => rfl
  | j + 10, hj => exact absurd hj (by omega)
theorem hdef_9 : ∀ j, j < 4 → defaultValue (tyS9 j) = if (zrt 9).contains j then .null else .int 0 := by
  intro j hj
  match j, hj with
  | 0, _ => rfl
  | 1, _ => rfl
  | 2, _ => rfl
  | 3, _ => rfl
  | j + 4, hj => exact absurd hj (by omega)
theorem hdef_10 : ∀ j, j < 4 → defaultValue (tyS10 j) = if (zrt 10).contains j then .null else .int 0 := by
  intro j hj
  match j, hj with
  | 0, _ => rfl
  | 1, _ => rfl
  | 2, _ => rfl
  | 3, _ => rfl
  | j + 4, hj => exact absurd hj (by omega)
theorem dX2_init_0 : decode cX2_init 0 = .ok (.aload_n 0, 1) := by decide +kernel
theorem dX2_init_1 : decode cX2_init 1 = .ok (.invokespecial 3, 3) := by decide +kernel
theorem dX2_init_4 : decode cX2_init 4 = .ok (.aload_n 0, 1) := by decide +kernel
theorem dX2_init_5 : decode cX2_init 5 = .ok (.sipush 300, 3) := by decide +kernel
theorem dX2_init_8 : decode cX2_init 8 = .ok (.newarray .byte, 2) := by decide +kernel
theorem dX2_init_10 : decode cX2_init 10 = .ok (.putfield 9, 3) := by decide +kernel
theorem dX2_init_13 : decode cX2_init 13 = .ok (.return_, 1) := by decide +kernel
theorem hyX2_init : yX2_init.cls ≠ "java/lang/invoke/MethodHandle" ∧ yX2_init.cls ≠ "java/lang/invoke/VarHandle" ∧ (parseMethodDescriptor yX2_init.desc).map (fun d => d.parameters.length) = some 0 := ⟨by decide +kernel, by decide +kernel, by decide +kernel⟩
set_option maxRecDepth 100000 in
set_option maxHeartbeats 4000000 in
theorem nX2_init (l : Launch) (D : va_G) (Ca : Nat → ClassId) (B : Nat) (En : State → Prop) (hE : zEk B En) (ev : zEv) (hZ : ∀ U : State, En U → zEnv ev B U) (σ : zS) (N : Nat) (x0 : Nat) (X : zS) (hf : gX2_init σ N x0 = some X) : zMn l D Ca B En yX2_init cX2_init 1 1 20 1 300 [.ref x0] σ N X := by
  refine zMet_n (own := RX2) hE (by decide +kernel) rfl rfl (Nat.le_of_ble_eq_true rfl) (fun p e s m args below meth c C hr hi => ?_)
  unfold gX2_init at hf
  refine z_aload_n C dX2_init_0 rfl 0 rfl ?_
  refine z_objInit C kw_44 kw_37 kw_38 (Nat.le_of_ble_eq_true rfl) (Nat.le_of_ble_eq_true rfl) (Nat.le_of_ble_eq_true rfl) dX2_init_1 ?_
  refine z_aload_n C dX2_init_4 rfl 0 rfl ?_
  refine z_sipush C (zi 300) dX2_init_5 (by decide) ?_
  refine z_newB (n9 := 300) C kw_55 (by decide +kernel) (by decide +kernel) (Nat.le_of_ble_eq_true rfl) (Nat.le_of_ble_eq_true rfl) (Nat.le_of_ble_eq_true rfl) dX2_init_8 ?_
  obtain ⟨σ1, hσ1, hf⟩ := zbind hf
  refine z_putF (cn := (.array .byte)) (Cn := RX2) (T := TX2) (Nf := 2) (k := 2) (j := 0) C hi hσ1 rfl rfl zin_2 (by decide) kw_45 rfl tyX2 tyX2_ok nmX2 rfl rfl (by decide +kernel) rfl rfl rfl dX2_init_10 ?_
  cases hf
  exact zfin_n C hr (by omega) (Nat.le_of_ble_eq_true rfl) (Nat.le_of_ble_eq_true rfl) dX2_init_13
theorem dX5_init_0 : decode cX5_init 0 = .ok (.aload_n 0, 1) := by decide +kernel
theorem dX5_init_1 : decode cX5_init 1 = .ok (.invokespecial 3, 3) := by decide +kernel
theorem dX5_init_4 : decode cX5_init 4 = .ok (.aload_n 0, 1) := by decide +kernel
theorem dX5_init_5 : decode cX5_init 5 = .ok (.iconst (-1), 1) := by decide +kernel
theorem dX5_init_6 : decode cX5_init 6 = .ok (.putfield 9, 3) := by decide +kernel
theorem dX5_init_9 : decode cX5_init 9 = .ok (.aload_n 0, 1) := by decide +kernel
theorem dX5_init_10 : decode cX5_init 10 = .ok (.aload_n 1, 1) := by decide +kernel
theorem dX5_init_11 : decode cX5_init 11 = .ok (.putfield 15, 3) := by decide +kernel
theorem dX5_init_14 : decode cX5_init 14 = .ok (.return_, 1) := by decide +kernel
theorem hyX5_init : yX5_init.cls ≠ "java/lang/invoke/MethodHandle" ∧ yX5_init.cls ≠ "java/lang/invoke/VarHandle" ∧ (parseMethodDescriptor yX5_init.desc).map (fun d => d.parameters.length) = some 1 := ⟨by decide +kernel, by decide +kernel, by decide +kernel⟩
set_option maxRecDepth 100000 in
set_option maxHeartbeats 4000000 in
theorem nX5_init (l : Launch) (D : va_G) (Ca : Nat → ClassId) (B : Nat) (En : State → Prop) (hE : zEk B En) (ev : zEv) (hZ : ∀ U : State, En U → zEnv ev B U) (σ : zS) (N : Nat) (x0 : Nat) (x1 : Nat) (X : zS) (hf : gX5_init σ N x0 x1 = some X) : zMn l D Ca B En yX5_init cX5_init 2 1 20 0 0 [.ref x0, .ref x1] σ N X := by
  refine zMet_n (own := RX5) hE (by decide +kernel) rfl rfl (Nat.le_of_ble_eq_true rfl) (fun p e s m args below meth c C hr hi => ?_)
  unfold gX5_init at hf
  refine z_aload_n C dX5_init_0 rfl 0 rfl ?_
  refine z_objInit C kw_61 kw_37 kw_38 (Nat.le_of_ble_eq_true rfl) (Nat.le_of_ble_eq_true rfl) (Nat.le_of_ble_eq_true rfl) dX5_init_1 ?_
  refine z_aload_n C dX5_init_4 rfl 0 rfl ?_
  refine z_iconst C (zi (-1)) dX5_init_5 (by decide) ?_
  obtain ⟨σ1, hσ1, hf⟩ := zbind hf
  refine z_pI (Cn := RX5) (T := TX5) (Nf := 8) (k := 5) (j := 1) C hσ1 rfl rfl zin_5 (by decide) kw_63 rfl tyX5 tyX5_ok nmX5 rfl (by decide +kernel) rfl dX5_init_6 ?_
  refine z_aload_n C dX5_init_9 rfl 0 rfl ?_
  refine z_aload_n C dX5_init_10 rfl 1 rfl ?_
  obtain ⟨σ2, hσ2, hf⟩ := zbind hf
  refine z_putF (cn := (.object "BarrierFlow$Input")) (Cn := RX5) (T := TX5) (Nf := 8) (k := 5) (j := 2) C hi hσ2 rfl rfl zin_5 (by decide) kw_64 rfl tyX5 tyX5_ok nmX5 rfl rfl (by decide +kernel) rfl rfl rfl dX5_init_11 ?_
  cases hf
  exact zfin_n C hr (by omega) (Nat.le_of_ble_eq_true rfl) (Nat.le_of_ble_eq_true rfl) dX5_init_14
theorem dX4_init_0 : decode cX4_init 0 = .ok (.aload_n 0, 1) := by decide +kernel
theorem dX4_init_1 : decode cX4_init 1 = .ok (.invokespecial 3, 3) := by decide +kernel
theorem dX4_init_4 : decode cX4_init 4 = .ok (.aload_n 0, 1) := by decide +kernel
theorem dX4_init_5 : decode cX4_init 5 = .ok (.sipush 8000, 3) := by decide +kernel
theorem dX4_init_8 : decode cX4_init 8 = .ok (.newarray .byte, 2) := by decide +kernel
theorem dX4_init_10 : decode cX4_init 10 = .ok (.putfield 9, 3) := by decide +kernel
theorem dX4_init_13 : decode cX4_init 13 = .ok (.return_, 1) := by decide +kernel
theorem hyX4_init : yX4_init.cls ≠ "java/lang/invoke/MethodHandle" ∧ yX4_init.cls ≠ "java/lang/invoke/VarHandle" ∧ (parseMethodDescriptor yX4_init.desc).map (fun d => d.parameters.length) = some 0 := ⟨by decide +kernel, by decide +kernel, by decide +kernel⟩
set_option maxRecDepth 100000 in
set_option maxHeartbeats 4000000 in
theorem nX4_init (l : Launch) (D : va_G) (Ca : Nat → ClassId) (B : Nat) (En : State → Prop) (hE : zEk B En) (ev : zEv) (hZ : ∀ U : State, En U → zEnv ev B U) (σ : zS) (N : Nat) (x0 : Nat) (X : zS) (hf : gX4_init σ N x0 = some X) : zMn l D Ca B En yX4_init cX4_init 1 1 20 1 8000 [.ref x0] σ N X := by
  refine zMet_n (own := RX4) hE (by decide +kernel) rfl rfl (Nat.le_of_ble_eq_true rfl) (fun p e s m args below meth c C hr hi => ?_)
  unfold gX4_init at hf
  refine z_aload_n C dX4_init_0 rfl 0 rfl ?_
  refine z_objInit C kw_92 kw_37 kw_38 (Nat.le_of_ble_eq_true rfl) (Nat.le_of_ble_eq_true rfl) (Nat.le_of_ble_eq_true rfl) dX4_init_1 ?_
  refine z_aload_n C dX4_init_4 rfl 0 rfl ?_
  refine z_sipush C (zi 8000) dX4_init_5 (by decide) ?_
  refine z_newB (n9 := 8000) C kw_55 (by decide +kernel) (by decide +kernel) (Nat.le_of_ble_eq_true rfl) (Nat.le_of_ble_eq_true rfl) (Nat.le_of_ble_eq_true rfl) dX4_init_8 ?_
  obtain ⟨σ1, hσ1, hf⟩ := zbind hf
  refine z_putF (cn := (.array .byte)) (Cn := RX4) (T := TX4) (Nf := 2) (k := 4) (j := 0) C hi hσ1 rfl rfl zin_4 (by decide) kw_93 rfl tyX4 tyX4_ok nmX4 rfl rfl (by decide +kernel) rfl rfl rfl dX4_init_10 ?_
  cases hf
  exact zfin_n C hr (by omega) (Nat.le_of_ble_eq_true rfl) (Nat.le_of_ble_eq_true rfl) dX4_init_13
theorem dX7_init_0 : decode cX7_init 0 = .ok (.aload_n 0, 1) := by decide +kernel
theorem dX7_init_1 : decode cX7_init 1 = .ok (.invokespecial 3, 3) := by decide +kernel
theorem dX7_init_4 : decode cX7_init 4 = .ok (.aload_n 0, 1) := by decide +kernel
theorem dX7_init_5 : decode cX7_init 5 = .ok (.iconst 4, 1) := by decide +kernel
theorem dX7_init_6 : decode cX7_init 6 = .ok (.newarray .int, 2) := by decide +kernel
theorem dX7_init_8 : decode cX7_init 8 = .ok (.putfield 9, 3) := by decide +kernel
theorem dX7_init_11 : decode cX7_init 11 = .ok (.aload_n 0, 1) := by decide +kernel
theorem dX7_init_12 : decode cX7_init 12 = .ok (.iconst 4, 1) := by decide +kernel
theorem dX7_init_13 : decode cX7_init 13 = .ok (.newarray .int, 2) := by decide +kernel
theorem dX7_init_15 : decode cX7_init 15 = .ok (.putfield 15, 3) := by decide +kernel
theorem dX7_init_18 : decode cX7_init 18 = .ok (.aload_n 0, 1) := by decide +kernel
theorem dX7_init_19 : decode cX7_init 19 = .ok (.iconst 4, 1) := by decide +kernel
theorem dX7_init_20 : decode cX7_init 20 = .ok (.newarray .int, 2) := by decide +kernel
theorem dX7_init_22 : decode cX7_init 22 = .ok (.putfield 18, 3) := by decide +kernel
theorem dX7_init_25 : decode cX7_init 25 = .ok (.aload_n 0, 1) := by decide +kernel
theorem dX7_init_26 : decode cX7_init 26 = .ok (.iconst 4, 1) := by decide +kernel
theorem dX7_init_27 : decode cX7_init 27 = .ok (.newarray .int, 2) := by decide +kernel
theorem dX7_init_29 : decode cX7_init 29 = .ok (.putfield 21, 3) := by decide +kernel
theorem dX7_init_32 : decode cX7_init 32 = .ok (.aload_n 0, 1) := by decide +kernel
theorem dX7_init_33 : decode cX7_init 33 = .ok (.bipush 32, 2) := by decide +kernel
theorem dX7_init_35 : decode cX7_init 35 = .ok (.newarray .byte, 2) := by decide +kernel
theorem dX7_init_37 : decode cX7_init 37 = .ok (.putfield 24, 3) := by decide +kernel
theorem dX7_init_40 : decode cX7_init 40 = .ok (.aload_n 0, 1) := by decide +kernel
theorem dX7_init_41 : decode cX7_init 41 = .ok (.iconst 5, 1) := by decide +kernel
theorem dX7_init_42 : decode cX7_init 42 = .ok (.newarray .int, 2) := by decide +kernel
theorem dX7_init_44 : decode cX7_init 44 = .ok (.putfield 28, 3) := by decide +kernel
theorem dX7_init_47 : decode cX7_init 47 = .ok (.aload_n 0, 1) := by decide +kernel
theorem dX7_init_48 : decode cX7_init 48 = .ok (.sipush 800, 3) := by decide +kernel
theorem dX7_init_51 : decode cX7_init 51 = .ok (.newarray .int, 2) := by decide +kernel
theorem dX7_init_53 : decode cX7_init 53 = .ok (.putfield 31, 3) := by decide +kernel
theorem dX7_init_56 : decode cX7_init 56 = .ok (.aload_n 0, 1) := by decide +kernel
theorem dX7_init_57 : decode cX7_init 57 = .ok (.sipush 800, 3) := by decide +kernel
theorem dX7_init_60 : decode cX7_init 60 = .ok (.newarray .int, 2) := by decide +kernel
theorem dX7_init_62 : decode cX7_init 62 = .ok (.putfield 34, 3) := by decide +kernel
theorem dX7_init_65 : decode cX7_init 65 = .ok (.aload_n 0, 1) := by decide +kernel
theorem dX7_init_66 : decode cX7_init 66 = .ok (.sipush 800, 3) := by decide +kernel
theorem dX7_init_69 : decode cX7_init 69 = .ok (.newarray .int, 2) := by decide +kernel
theorem dX7_init_71 : decode cX7_init 71 = .ok (.putfield 37, 3) := by decide +kernel
theorem dX7_init_74 : decode cX7_init 74 = .ok (.return_, 1) := by decide +kernel
theorem hyX7_init : yX7_init.cls ≠ "java/lang/invoke/MethodHandle" ∧ yX7_init.cls ≠ "java/lang/invoke/VarHandle" ∧ (parseMethodDescriptor yX7_init.desc).map (fun d => d.parameters.length) = some 0 := ⟨by decide +kernel, by decide +kernel, by decide +kernel⟩
set_option maxRecDepth 100000 in
set_option maxHeartbeats 4000000 in
theorem nX7_init (l : Launch) (D : va_G) (Ca : Nat → ClassId) (B : Nat) (En : State → Prop) (hE : zEk B En) (ev : zEv) (hZ : ∀ U : State, En U → zEnv ev B U) (σ : zS) (N : Nat) (x0 : Nat) (X : zS) (hf : gX7_init σ N x0 = some X) : zMn l D Ca B En yX7_init cX7_init 1 1 20 9 2453 [.ref x0] σ N X := by
  refine zMet_n (own := RX7) hE (by decide +kernel) rfl rfl (Nat.le_of_ble_eq_true rfl) (fun p e s m args below meth c C hr hi => ?_)
  unfold gX7_init at hf
  refine z_aload_n C dX7_init_0 rfl 0 rfl ?_
  refine z_objInit C kw_104 kw_37 kw_38 (Nat.le_of_ble_eq_true rfl) (Nat.le_of_ble_eq_true rfl) (Nat.le_of_ble_eq_true rfl) dX7_init_1 ?_
  refine z_aload_n C dX7_init_4 rfl 0 rfl ?_
  refine z_iconst C (zi 4) dX7_init_5 (by decide) ?_
  refine z_newI (n9 := 4) C kw_154 (by decide +kernel) (by decide +kernel) (Nat.le_of_ble_eq_true rfl) (Nat.le_of_ble_eq_true rfl) (Nat.le_of_ble_eq_true rfl) dX7_init_6 ?_
  obtain ⟨σ1, hσ1, hf⟩ := zbind hf
  refine z_putF (cn := (.array .int)) (Cn := RX7) (T := TX7) (Nf := 11) (k := 7) (j := 2) C hi hσ1 rfl rfl zin_7 (by decide) kw_114 rfl tyX7 tyX7_ok nmX7 rfl rfl (by decide +kernel) rfl rfl rfl dX7_init_8 ?_
  refine z_aload_n C dX7_init_11 rfl 0 rfl ?_
  refine z_iconst C (zi 4) dX7_init_12 (by decide) ?_
  refine z_newI (n9 := 4) C kw_154 (by decide +kernel) (by decide +kernel) (Nat.le_of_ble_eq_true rfl) (Nat.le_of_ble_eq_true rfl) (Nat.le_of_ble_eq_true rfl) dX7_init_13 ?_
  obtain ⟨σ2, hσ2, hf⟩ := zbind hf
  refine z_putF (cn := (.array .int)) (Cn := RX7) (T := TX7) (Nf := 11) (k := 7) (j := 3) C hi hσ2 rfl rfl zin_7 (by decide) kw_118 rfl tyX7 tyX7_ok nmX7 rfl rfl (by decide +kernel) rfl rfl rfl dX7_init_15 ?_
  refine z_aload_n C dX7_init_18 rfl 0 rfl ?_
  refine z_iconst C (zi 4) dX7_init_19 (by decide) ?_
  refine z_newI (n9 := 4) C kw_154 (by decide +kernel) (by decide +kernel) (Nat.le_of_ble_eq_true rfl) (Nat.le_of_ble_eq_true rfl) (Nat.le_of_ble_eq_true rfl) dX7_init_20 ?_
  obtain ⟨σ3, hσ3, hf⟩ := zbind hf
  refine z_putF (cn := (.array .int)) (Cn := RX7) (T := TX7) (Nf := 11) (k := 7) (j := 4) C hi hσ3 rfl rfl zin_7 (by decide) kw_121 rfl tyX7 tyX7_ok nmX7 rfl rfl (by decide +kernel) rfl rfl rfl dX7_init_22 ?_
  refine z_aload_n C dX7_init_25 rfl 0 rfl ?_
  refine z_iconst C (zi 4) dX7_init_26 (by decide) ?_
  refine z_newI (n9 := 4) C kw_154 (by decide +kernel) (by decide +kernel) (Nat.le_of_ble_eq_true rfl) (Nat.le_of_ble_eq_true rfl) (Nat.le_of_ble_eq_true rfl) dX7_init_27 ?_
  obtain ⟨σ4, hσ4, hf⟩ := zbind hf
  refine z_putF (cn := (.array .int)) (Cn := RX7) (T := TX7) (Nf := 11) (k := 7) (j := 5) C hi hσ4 rfl rfl zin_7 (by decide) kw_124 rfl tyX7 tyX7_ok nmX7 rfl rfl (by decide +kernel) rfl rfl rfl dX7_init_29 ?_
  refine z_aload_n C dX7_init_32 rfl 0 rfl ?_
  refine z_bipush C (zi 32) dX7_init_33 (by decide) ?_
  refine z_newB (n9 := 32) C kw_55 (by decide +kernel) (by decide +kernel) (Nat.le_of_ble_eq_true rfl) (Nat.le_of_ble_eq_true rfl) (Nat.le_of_ble_eq_true rfl) dX7_init_35 ?_
  obtain ⟨σ5, hσ5, hf⟩ := zbind hf
  refine z_putF (cn := (.array .byte)) (Cn := RX7) (T := TX7) (Nf := 11) (k := 7) (j := 6) C hi hσ5 rfl rfl zin_7 (by decide) kw_125 rfl tyX7 tyX7_ok nmX7 rfl rfl (by decide +kernel) rfl rfl rfl dX7_init_37 ?_
  refine z_aload_n C dX7_init_40 rfl 0 rfl ?_
  refine z_iconst C (zi 5) dX7_init_41 (by decide) ?_
  refine z_newI (n9 := 5) C kw_154 (by decide +kernel) (by decide +kernel) (Nat.le_of_ble_eq_true rfl) (Nat.le_of_ble_eq_true rfl) (Nat.le_of_ble_eq_true rfl) dX7_init_42 ?_
  obtain ⟨σ6, hσ6, hf⟩ := zbind hf
  refine z_putF (cn := (.array .int)) (Cn := RX7) (T := TX7) (Nf := 11) (k := 7) (j := 7) C hi hσ6 rfl rfl zin_7 (by decide) kw_126 rfl tyX7 tyX7_ok nmX7 rfl rfl (by decide +kernel) rfl rfl rfl dX7_init_44 ?_
  refine z_aload_n C dX7_init_47 rfl 0 rfl ?_
  refine z_sipush C (zi 800) dX7_init_48 (by decide) ?_
  refine z_newI (n9 := 800) C kw_154 (by decide +kernel) (by decide +kernel) (Nat.le_of_ble_eq_true rfl) (Nat.le_of_ble_eq_true rfl) (Nat.le_of_ble_eq_true rfl) dX7_init_51 ?_
  obtain ⟨σ7, hσ7, hf⟩ := zbind hf
  refine z_putF (cn := (.array .int)) (Cn := RX7) (T := TX7) (Nf := 11) (k := 7) (j := 8) C hi hσ7 rfl rfl zin_7 (by decide) kw_128 rfl tyX7 tyX7_ok nmX7 rfl rfl (by decide +kernel) rfl rfl rfl dX7_init_53 ?_
  refine z_aload_n C dX7_init_56 rfl 0 rfl ?_
  refine z_sipush C (zi 800) dX7_init_57 (by decide) ?_
  refine z_newI (n9 := 800) C kw_154 (by decide +kernel) (by decide +kernel) (Nat.le_of_ble_eq_true rfl) (Nat.le_of_ble_eq_true rfl) (Nat.le_of_ble_eq_true rfl) dX7_init_60 ?_
  obtain ⟨σ8, hσ8, hf⟩ := zbind hf
  refine z_putF (cn := (.array .int)) (Cn := RX7) (T := TX7) (Nf := 11) (k := 7) (j := 9) C hi hσ8 rfl rfl zin_7 (by decide) kw_129 rfl tyX7 tyX7_ok nmX7 rfl rfl (by decide +kernel) rfl rfl rfl dX7_init_62 ?_
  refine z_aload_n C dX7_init_65 rfl 0 rfl ?_
  refine z_sipush C (zi 800) dX7_init_66 (by decide) ?_
  refine z_newI (n9 := 800) C kw_154 (by decide +kernel) (by decide +kernel) (Nat.le_of_ble_eq_true rfl) (Nat.le_of_ble_eq_true rfl) (Nat.le_of_ble_eq_true rfl) dX7_init_69 ?_
  obtain ⟨σ9, hσ9, hf⟩ := zbind hf
  refine z_putF (cn := (.array .int)) (Cn := RX7) (T := TX7) (Nf := 11) (k := 7) (j := 10) C hi hσ9 rfl rfl zin_7 (by decide) kw_130 rfl tyX7 tyX7_ok nmX7 rfl rfl (by decide +kernel) rfl rfl rfl dX7_init_71 ?_
  cases hf
  exact zfin_n C hr (by omega) (Nat.le_of_ble_eq_true rfl) (Nat.le_of_ble_eq_true rfl) dX7_init_74
theorem dX3_init_0 : decode cX3_init 0 = .ok (.aload_n 0, 1) := by decide +kernel
theorem dX3_init_1 : decode cX3_init 1 = .ok (.invokespecial 3, 3) := by decide +kernel
theorem dX3_init_4 : decode cX3_init 4 = .ok (.aload_n 0, 1) := by decide +kernel
theorem dX3_init_5 : decode cX3_init 5 = .ok (.sipush 800, 3) := by decide +kernel
theorem dX3_init_8 : decode cX3_init 8 = .ok (.newarray .int, 2) := by decide +kernel
theorem dX3_init_10 : decode cX3_init 10 = .ok (.putfield 9, 3) := by decide +kernel
theorem dX3_init_13 : decode cX3_init 13 = .ok (.aload_n 0, 1) := by decide +kernel
theorem dX3_init_14 : decode cX3_init 14 = .ok (.bipush 30, 2) := by decide +kernel
theorem dX3_init_16 : decode cX3_init 16 = .ok (.newarray .int, 2) := by decide +kernel
theorem dX3_init_18 : decode cX3_init 18 = .ok (.putfield 15, 3) := by decide +kernel
theorem dX3_init_21 : decode cX3_init 21 = .ok (.aload_n 0, 1) := by decide +kernel
theorem dX3_init_22 : decode cX3_init 22 = .ok (.bipush 30, 2) := by decide +kernel
theorem dX3_init_24 : decode cX3_init 24 = .ok (.newarray .int, 2) := by decide +kernel
theorem dX3_init_26 : decode cX3_init 26 = .ok (.putfield 18, 3) := by decide +kernel
theorem dX3_init_29 : decode cX3_init 29 = .ok (.aload_n 0, 1) := by decide +kernel
theorem dX3_init_30 : decode cX3_init 30 = .ok (.bipush 30, 2) := by decide +kernel
theorem dX3_init_32 : decode cX3_init 32 = .ok (.newarray .int, 2) := by decide +kernel
theorem dX3_init_34 : decode cX3_init 34 = .ok (.putfield 21, 3) := by decide +kernel
theorem dX3_init_37 : decode cX3_init 37 = .ok (.aload_n 0, 1) := by decide +kernel
theorem dX3_init_38 : decode cX3_init 38 = .ok (.invokevirtual 24, 3) := by decide +kernel
theorem dX3_init_41 : decode cX3_init 41 = .ok (.return_, 1) := by decide +kernel
theorem hyX3_init : yX3_init.cls ≠ "java/lang/invoke/MethodHandle" ∧ yX3_init.cls ≠ "java/lang/invoke/VarHandle" ∧ (parseMethodDescriptor yX3_init.desc).map (fun d => d.parameters.length) = some 0 := ⟨by decide +kernel, by decide +kernel, by decide +kernel⟩
set_option maxRecDepth 100000 in
set_option maxHeartbeats 4000000 in
theorem nX3_init (l : Launch) (D : va_G) (Ca : Nat → ClassId) (B : Nat) (En : State → Prop) (hE : zEk B En) (ev : zEv) (hZ : ∀ U : State, En U → zEnv ev B U) (σ : zS) (N : Nat) (x0 : Nat) (X : zS) (hf : gX3_init σ N x0 = some X) : zMn l D Ca B En yX3_init cX3_init 1 2 42 4 890 [.ref x0] σ N X := by
  refine zMet_n (own := RX3) hE (by decide +kernel) rfl rfl (Nat.le_of_ble_eq_true rfl) (fun p e s m args below meth c C hr hi => ?_)
  unfold gX3_init at hf
  refine z_aload_n C dX3_init_0 rfl 0 rfl ?_
  refine z_objInit C kw_198 kw_37 kw_38 (Nat.le_of_ble_eq_true rfl) (Nat.le_of_ble_eq_true rfl) (Nat.le_of_ble_eq_true rfl) dX3_init_1 ?_
  refine z_aload_n C dX3_init_4 rfl 0 rfl ?_
  refine z_sipush C (zi 800) dX3_init_5 (by decide) ?_
  refine z_newI (n9 := 800) C kw_154 (by decide +kernel) (by decide +kernel) (Nat.le_of_ble_eq_true rfl) (Nat.le_of_ble_eq_true rfl) (Nat.le_of_ble_eq_true rfl) dX3_init_8 ?_
  obtain ⟨σ1, hσ1, hf⟩ := zbind hf
  refine z_putF (cn := (.array .int)) (Cn := RX3) (T := TX3) (Nf := 4) (k := 3) (j := 0) C hi hσ1 rfl rfl zin_3 (by decide) kw_207 rfl tyX3 tyX3_ok nmX3 rfl rfl (by decide +kernel) rfl rfl rfl dX3_init_10 ?_
  refine z_aload_n C dX3_init_13 rfl 0 rfl ?_
  refine z_bipush C (zi 30) dX3_init_14 (by decide) ?_
  refine z_newI (n9 := 30) C kw_154 (by decide +kernel) (by decide +kernel) (Nat.le_of_ble_eq_true rfl) (Nat.le_of_ble_eq_true rfl) (Nat.le_of_ble_eq_true rfl) dX3_init_16 ?_
  obtain ⟨σ2, hσ2, hf⟩ := zbind hf
  refine z_putF (cn := (.array .int)) (Cn := RX3) (T := TX3) (Nf := 4) (k := 3) (j := 1) C hi hσ2 rfl rfl zin_3 (by decide) kw_208 rfl tyX3 tyX3_ok nmX3 rfl rfl (by decide +kernel) rfl rfl rfl dX3_init_18 ?_
  refine z_aload_n C dX3_init_21 rfl 0 rfl ?_
  refine z_bipush C (zi 30) dX3_init_22 (by decide) ?_
  refine z_newI (n9 := 30) C kw_154 (by decide +kernel) (by decide +kernel) (Nat.le_of_ble_eq_true rfl) (Nat.le_of_ble_eq_true rfl) (Nat.le_of_ble_eq_true rfl) dX3_init_24 ?_
  obtain ⟨σ3, hσ3, hf⟩ := zbind hf
  refine z_putF (cn := (.array .int)) (Cn := RX3) (T := TX3) (Nf := 4) (k := 3) (j := 2) C hi hσ3 rfl rfl zin_3 (by decide) kw_209 rfl tyX3 tyX3_ok nmX3 rfl rfl (by decide +kernel) rfl rfl rfl dX3_init_26 ?_
  refine z_aload_n C dX3_init_29 rfl 0 rfl ?_
  refine z_bipush C (zi 30) dX3_init_30 (by decide) ?_
  refine z_newI (n9 := 30) C kw_154 (by decide +kernel) (by decide +kernel) (Nat.le_of_ble_eq_true rfl) (Nat.le_of_ble_eq_true rfl) (Nat.le_of_ble_eq_true rfl) dX3_init_32 ?_
  obtain ⟨σ4, hσ4, hf⟩ := zbind hf
  refine z_putF (cn := (.array .int)) (Cn := RX3) (T := TX3) (Nf := 4) (k := 3) (j := 3) C hi hσ4 rfl rfl zin_3 (by decide) kw_210 rfl tyX3 tyX3_ok nmX3 rfl rfl (by decide +kernel) rfl rfl rfl dX3_init_34 ?_
  refine z_aload_n C dX3_init_37 rfl 0 rfl ?_
  obtain ⟨σ5, hσ5, hf⟩ := zbind hf
  obtain ⟨kσ5, hσ5⟩ := zck_ok hσ5
  have hRm : zRm (zRoomN 2 42 4 890) 2 42 (0 + 1 + 1 + 1 + 1) (0 + 800 + 30 + 30 + 30) := ⟨Nat.le_refl _, Nat.le_refl _, (Nat.le_of_ble_eq_true rfl), (Nat.le_of_ble_eq_true rfl)⟩
  refine z_callVv (As := []) (F0 := 2) (L0 := 42) C (mX3_clearAll l D Ca B En C.2.2.2.2.2.2.2.1 σ4 (N + 1 + 1 + 1 + 1) x0  _ hσ5) hRm kσ5 rfl kw_202 kw_9 kw_199 kw_200 kw_201 hyX3_clearAll (Nat.le_of_ble_eq_true rfl) (Nat.le_of_ble_eq_true rfl) rfl rfl (Nat.le_of_ble_eq_true rfl) dX3_init_38 ?_
  cases hf
  exact zfin_n C hr (by omega) (Nat.le_of_ble_eq_true rfl) (Nat.le_of_ble_eq_true rfl) dX3_init_41
theorem dX0_init_0 : decode cX0_init 0 = .ok (.aload_n 0, 1) := by decide +kernel
theorem dX0_init_1 : decode cX0_init 1 = .ok (.invokespecial 3, 3) := by decide +kernel
theorem dX0_init_4 : decode cX0_init 4 = .ok (.aload_n 0, 1) := by decide +kernel
theorem dX0_init_5 : decode cX0_init 5 = .ok (.bipush 6, 2) := by decide +kernel
theorem dX0_init_7 : decode cX0_init 7 = .ok (.newarray .int, 2) := by decide +kernel
theorem dX0_init_9 : decode cX0_init 9 = .ok (.putfield 9, 3) := by decide +kernel
theorem dX0_init_12 : decode cX0_init 12 = .ok (.aload_n 0, 1) := by decide +kernel
theorem dX0_init_13 : decode cX0_init 13 = .ok (.iconst 4, 1) := by decide +kernel
theorem dX0_init_14 : decode cX0_init 14 = .ok (.newarray .int, 2) := by decide +kernel
theorem dX0_init_16 : decode cX0_init 16 = .ok (.putfield 15, 3) := by decide +kernel
theorem dX0_init_19 : decode cX0_init 19 = .ok (.aload_n 0, 1) := by decide +kernel
theorem dX0_init_20 : decode cX0_init 20 = .ok (.bipush 16, 2) := by decide +kernel
theorem dX0_init_22 : decode cX0_init 22 = .ok (.newarray .int, 2) := by decide +kernel
theorem dX0_init_24 : decode cX0_init 24 = .ok (.putfield 18, 3) := by decide +kernel
theorem dX0_init_27 : decode cX0_init 27 = .ok (.aload_n 0, 1) := by decide +kernel
theorem dX0_init_28 : decode cX0_init 28 = .ok (.new 21, 3) := by decide +kernel
theorem dX0_init_31 : decode cX0_init 31 = .ok (.dup, 1) := by decide +kernel
theorem dX0_init_32 : decode cX0_init 32 = .ok (.invokespecial 23, 3) := by decide +kernel
theorem dX0_init_35 : decode cX0_init 35 = .ok (.putfield 24, 3) := by decide +kernel
theorem dX0_init_38 : decode cX0_init 38 = .ok (.return_, 1) := by decide +kernel
theorem hyX0_init : yX0_init.cls ≠ "java/lang/invoke/MethodHandle" ∧ yX0_init.cls ≠ "java/lang/invoke/VarHandle" ∧ (parseMethodDescriptor yX0_init.desc).map (fun d => d.parameters.length) = some 0 := ⟨by decide +kernel, by decide +kernel, by decide +kernel⟩
set_option maxRecDepth 100000 in
set_option maxHeartbeats 4000000 in
theorem nX0_init (l : Launch) (D : va_G) (Ca : Nat → ClassId) (B : Nat) (En : State → Prop) (hE : zEk B En) (ev : zEv) (hZ : ∀ U : State, En U → zEnv ev B U) (σ : zS) (N : Nat) (x0 : Nat) (X : zS) (hf : gX0_init σ N x0 = some X) : zMn l D Ca B En yX0_init cX0_init 1 3 62 8 920 [.ref x0] σ N X := by
  refine zMet_n (own := RX0) hE (by decide +kernel) rfl rfl (Nat.le_of_ble_eq_true rfl) (fun p e s m args below meth c C hr hi => ?_)
  unfold gX0_init at hf
  refine z_aload_n C dX0_init_0 rfl 0 rfl ?_
  refine z_objInit C kw_225 kw_37 kw_38 (Nat.le_of_ble_eq_true rfl) (Nat.le_of_ble_eq_true rfl) (Nat.le_of_ble_eq_true rfl) dX0_init_1 ?_
  refine z_aload_n C dX0_init_4 rfl 0 rfl ?_
  refine z_bipush C (zi 6) dX0_init_5 (by decide) ?_
  refine z_newI (n9 := 6) C kw_154 (by decide +kernel) (by decide +kernel) (Nat.le_of_ble_eq_true rfl) (Nat.le_of_ble_eq_true rfl) (Nat.le_of_ble_eq_true rfl) dX0_init_7 ?_
  obtain ⟨σ1, hσ1, hf⟩ := zbind hf
  refine z_putF (cn := (.array .int)) (Cn := RX0) (T := TX0) (Nf := 11) (k := 0) (j := 7) C hi hσ1 rfl rfl zin_0 (by decide) kw_249 rfl tyX0 tyX0_ok nmX0 rfl rfl (by decide +kernel) rfl rfl rfl dX0_init_9 ?_
  refine z_aload_n C dX0_init_12 rfl 0 rfl ?_
  refine z_iconst C (zi 4) dX0_init_13 (by decide) ?_
  refine z_newI (n9 := 4) C kw_154 (by decide +kernel) (by decide +kernel) (Nat.le_of_ble_eq_true rfl) (Nat.le_of_ble_eq_true rfl) (Nat.le_of_ble_eq_true rfl) dX0_init_14 ?_
  obtain ⟨σ2, hσ2, hf⟩ := zbind hf
  refine z_putF (cn := (.array .int)) (Cn := RX0) (T := TX0) (Nf := 11) (k := 0) (j := 8) C hi hσ2 rfl rfl zin_0 (by decide) kw_251 rfl tyX0 tyX0_ok nmX0 rfl rfl (by decide +kernel) rfl rfl rfl dX0_init_16 ?_
  refine z_aload_n C dX0_init_19 rfl 0 rfl ?_
  refine z_bipush C (zi 16) dX0_init_20 (by decide) ?_
  refine z_newI (n9 := 16) C kw_154 (by decide +kernel) (by decide +kernel) (Nat.le_of_ble_eq_true rfl) (Nat.le_of_ble_eq_true rfl) (Nat.le_of_ble_eq_true rfl) dX0_init_22 ?_
  obtain ⟨σ3, hσ3, hf⟩ := zbind hf
  refine z_putF (cn := (.array .int)) (Cn := RX0) (T := TX0) (Nf := 11) (k := 0) (j := 9) C hi hσ3 rfl rfl zin_0 (by decide) kw_254 rfl tyX0 tyX0_ok nmX0 rfl rfl (by decide +kernel) rfl rfl rfl dX0_init_24 ?_
  refine z_aload_n C dX0_init_27 rfl 0 rfl ?_
  refine z_newO (Cn := RX3) (T := TX3) (Nf := 4) (k := 3) C rfl rfl zin_3 tyX3 tyX3_ok kw_226 kw_194 kw_9 hdef_3 (Nat.le_of_ble_eq_true rfl) (Nat.le_of_ble_eq_true rfl) dX0_init_28 ?_
  refine z_dup C dX0_init_31 rfl ?_
  obtain ⟨σ4, hσ4, hf⟩ := zbind hf
  refine z_callN (As := []) C (nX3_init l D Ca B En C.2.2.2.2.2.2.2.1 ev hZ (znew σ3 (N + 1 + 1 + 1) (8, 0)) (N + 1 + 1 + 1 + 1) ((N + 1 + 1 + 1))  _ hσ4) kw_197 kw_9 kw_227 rfl kw_196 hyX3_init (Nat.le_of_ble_eq_true rfl) (Nat.le_of_ble_eq_true rfl) rfl rfl (Nat.le_of_ble_eq_true rfl) dX0_init_32 (Nat.le_of_ble_eq_true rfl) (Nat.le_of_ble_eq_true rfl) ?_
  obtain ⟨σ5, hσ5, hf⟩ := zbind hf
  refine z_putF (cn := (.object "BarrierFlow$Lists")) (Cn := RX0) (T := TX0) (Nf := 11) (k := 0) (j := 10) C hi hσ5 rfl rfl zin_0 (by decide) kw_257 rfl tyX0 tyX0_ok nmX0 rfl rfl (by decide +kernel) rfl rfl rfl dX0_init_35 ?_
  cases hf
  exact zfin_n C hr (by omega) (Nat.le_of_ble_eq_true rfl) (Nat.le_of_ble_eq_true rfl) dX0_init_38
theorem dX1_init_0 : decode cX1_init 0 = .ok (.aload_n 0, 1) := by decide +kernel
theorem dX1_init_1 : decode cX1_init 1 = .ok (.invokespecial 3, 3) := by decide +kernel
theorem dX1_init_4 : decode cX1_init 4 = .ok (.aload_n 0, 1) := by decide +kernel
theorem dX1_init_5 : decode cX1_init 5 = .ok (.iconst 4, 1) := by decide +kernel
theorem dX1_init_6 : decode cX1_init 6 = .ok (.newarray .int, 2) := by decide +kernel
theorem dX1_init_8 : decode cX1_init 8 = .ok (.putfield 9, 3) := by decide +kernel
theorem dX1_init_11 : decode cX1_init 11 = .ok (.aload_n 0, 1) := by decide +kernel
theorem dX1_init_12 : decode cX1_init 12 = .ok (.iconst 4, 1) := by decide +kernel
theorem dX1_init_13 : decode cX1_init 13 = .ok (.newarray .int, 2) := by decide +kernel
theorem dX1_init_15 : decode cX1_init 15 = .ok (.putfield 15, 3) := by decide +kernel
theorem dX1_init_18 : decode cX1_init 18 = .ok (.aload_n 0, 1) := by decide +kernel
theorem dX1_init_19 : decode cX1_init 19 = .ok (.bipush 16, 2) := by decide +kernel
theorem dX1_init_21 : decode cX1_init 21 = .ok (.newarray .int, 2) := by decide +kernel
theorem dX1_init_23 : decode cX1_init 23 = .ok (.putfield 18, 3) := by decide +kernel
theorem dX1_init_26 : decode cX1_init 26 = .ok (.aload_n 0, 1) := by decide +kernel
theorem dX1_init_27 : decode cX1_init 27 = .ok (.iconst 4, 1) := by decide +kernel
theorem dX1_init_28 : decode cX1_init 28 = .ok (.newarray .int, 2) := by decide +kernel
theorem dX1_init_30 : decode cX1_init 30 = .ok (.putfield 21, 3) := by decide +kernel
theorem dX1_init_33 : decode cX1_init 33 = .ok (.aload_n 0, 1) := by decide +kernel
theorem dX1_init_34 : decode cX1_init 34 = .ok (.bipush 6, 2) := by decide +kernel
theorem dX1_init_36 : decode cX1_init 36 = .ok (.newarray .int, 2) := by decide +kernel
theorem dX1_init_38 : decode cX1_init 38 = .ok (.putfield 24, 3) := by decide +kernel
theorem dX1_init_41 : decode cX1_init 41 = .ok (.aload_n 0, 1) := by decide +kernel
theorem dX1_init_42 : decode cX1_init 42 = .ok (.new 27, 3) := by decide +kernel
theorem dX1_init_45 : decode cX1_init 45 = .ok (.dup, 1) := by decide +kernel
theorem dX1_init_46 : decode cX1_init 46 = .ok (.invokespecial 29, 3) := by decide +kernel
theorem dX1_init_49 : decode cX1_init 49 = .ok (.putfield 30, 3) := by decide +kernel
theorem dX1_init_52 : decode cX1_init 52 = .ok (.aload_n 0, 1) := by decide +kernel
theorem dX1_init_53 : decode cX1_init 53 = .ok (.new 34, 3) := by decide +kernel
theorem dX1_init_56 : decode cX1_init 56 = .ok (.dup, 1) := by decide +kernel
theorem dX1_init_57 : decode cX1_init 57 = .ok (.invokespecial 36, 3) := by decide +kernel
theorem dX1_init_60 : decode cX1_init 60 = .ok (.putfield 37, 3) := by decide +kernel
theorem dX1_init_63 : decode cX1_init 63 = .ok (.aload_n 0, 1) := by decide +kernel
theorem dX1_init_64 : decode cX1_init 64 = .ok (.new 34, 3) := by decide +kernel
theorem dX1_init_67 : decode cX1_init 67 = .ok (.dup, 1) := by decide +kernel
theorem dX1_init_68 : decode cX1_init 68 = .ok (.invokespecial 36, 3) := by decide +kernel
theorem dX1_init_71 : decode cX1_init 71 = .ok (.putfield 41, 3) := by decide +kernel
theorem dX1_init_74 : decode cX1_init 74 = .ok (.aload_n 0, 1) := by decide +kernel
theorem dX1_init_75 : decode cX1_init 75 = .ok (.bipush 6, 2) := by decide +kernel
theorem dX1_init_77 : decode cX1_init 77 = .ok (.newarray .int, 2) := by decide +kernel
theorem dX1_init_79 : decode cX1_init 79 = .ok (.putfield 44, 3) := by decide +kernel
theorem dX1_init_82 : decode cX1_init 82 = .ok (.aload_n 0, 1) := by decide +kernel
theorem dX1_init_83 : decode cX1_init 83 = .ok (.bipush 24, 2) := by decide +kernel
theorem dX1_init_85 : decode cX1_init 85 = .ok (.newarray .int, 2) := by decide +kernel
theorem dX1_init_87 : decode cX1_init 87 = .ok (.putfield 47, 3) := by decide +kernel
theorem dX1_init_90 : decode cX1_init 90 = .ok (.aload_n 0, 1) := by decide +kernel
theorem dX1_init_91 : decode cX1_init 91 = .ok (.aload_n 1, 1) := by decide +kernel
theorem dX1_init_92 : decode cX1_init 92 = .ok (.invokevirtual 50, 3) := by decide +kernel
theorem dX1_init_95 : decode cX1_init 95 = .ok (.return_, 1) := by decide +kernel
theorem hyX1_init : yX1_init.cls ≠ "java/lang/invoke/MethodHandle" ∧ yX1_init.cls ≠ "java/lang/invoke/VarHandle" ∧ (parseMethodDescriptor yX1_init.desc).map (fun d => d.parameters.length) = some 1 := ⟨by decide +kernel, by decide +kernel, by decide +kernel⟩
set_option maxRecDepth 100000 in
set_option maxHeartbeats 4000000 in
theorem nX1_init (l : Launch) (D : va_G) (Ca : Nat → ClassId) (B : Nat) (En : State → Prop) (hE : zEk B En) (ev : zEv) (hZ : ∀ U : State, En U → zEnv ev B U) (σ : zS) (N : Nat) (x0 : Nat) (x1 : Nat) (X : zS) (hf : gX1_init σ N x0 x1 = some X) : zMn l D Ca B En yX1_init cX1_init 2 5 150 30 2820 [.ref x0, .ref x1] σ N X := by
  refine zMet_n (own := RX1) hE (by decide +kernel) rfl rfl (Nat.le_of_ble_eq_true rfl) (fun p e s m args below meth c C hr hi => ?_)
  unfold gX1_init at hf
  refine z_aload_n C dX1_init_0 rfl 0 rfl ?_
  refine z_objInit C kw_192 kw_37 kw_38 (Nat.le_of_ble_eq_true rfl) (Nat.le_of_ble_eq_true rfl) (Nat.le_of_ble_eq_true rfl) dX1_init_1 ?_
  refine z_aload_n C dX1_init_4 rfl 0 rfl ?_
  refine z_iconst C (zi 4) dX1_init_5 (by decide) ?_
  refine z_newI (n9 := 4) C kw_154 (by decide +kernel) (by decide +kernel) (Nat.le_of_ble_eq_true rfl) (Nat.le_of_ble_eq_true rfl) (Nat.le_of_ble_eq_true rfl) dX1_init_6 ?_
  obtain ⟨σ1, hσ1, hf⟩ := zbind hf
  refine z_putF (cn := (.array .int)) (Cn := RX1) (T := TX1) (Nf := 20) (k := 1) (j := 9) C hi hσ1 rfl rfl zin_1 (by decide) kw_367 rfl tyX1 tyX1_ok nmX1 rfl rfl (by decide +kernel) rfl rfl rfl dX1_init_8 ?_
  refine z_aload_n C dX1_init_11 rfl 0 rfl ?_
  refine z_iconst C (zi 4) dX1_init_12 (by decide) ?_
  refine z_newI (n9 := 4) C kw_154 (by decide +kernel) (by decide +kernel) (Nat.le_of_ble_eq_true rfl) (Nat.le_of_ble_eq_true rfl) (Nat.le_of_ble_eq_true rfl) dX1_init_13 ?_
  obtain ⟨σ2, hσ2, hf⟩ := zbind hf
  refine z_putF (cn := (.array .int)) (Cn := RX1) (T := TX1) (Nf := 20) (k := 1) (j := 10) C hi hσ2 rfl rfl zin_1 (by decide) kw_369 rfl tyX1 tyX1_ok nmX1 rfl rfl (by decide +kernel) rfl rfl rfl dX1_init_15 ?_
  refine z_aload_n C dX1_init_18 rfl 0 rfl ?_
  refine z_bipush C (zi 16) dX1_init_19 (by decide) ?_
  refine z_newI (n9 := 16) C kw_154 (by decide +kernel) (by decide +kernel) (Nat.le_of_ble_eq_true rfl) (Nat.le_of_ble_eq_true rfl) (Nat.le_of_ble_eq_true rfl) dX1_init_21 ?_
  obtain ⟨σ3, hσ3, hf⟩ := zbind hf
  refine z_putF (cn := (.array .int)) (Cn := RX1) (T := TX1) (Nf := 20) (k := 1) (j := 11) C hi hσ3 rfl rfl zin_1 (by decide) kw_371 rfl tyX1 tyX1_ok nmX1 rfl rfl (by decide +kernel) rfl rfl rfl dX1_init_23 ?_
  refine z_aload_n C dX1_init_26 rfl 0 rfl ?_
  refine z_iconst C (zi 4) dX1_init_27 (by decide) ?_
  refine z_newI (n9 := 4) C kw_154 (by decide +kernel) (by decide +kernel) (Nat.le_of_ble_eq_true rfl) (Nat.le_of_ble_eq_true rfl) (Nat.le_of_ble_eq_true rfl) dX1_init_28 ?_
  obtain ⟨σ4, hσ4, hf⟩ := zbind hf
  refine z_putF (cn := (.array .int)) (Cn := RX1) (T := TX1) (Nf := 20) (k := 1) (j := 12) C hi hσ4 rfl rfl zin_1 (by decide) kw_373 rfl tyX1 tyX1_ok nmX1 rfl rfl (by decide +kernel) rfl rfl rfl dX1_init_30 ?_
  refine z_aload_n C dX1_init_33 rfl 0 rfl ?_
  refine z_bipush C (zi 6) dX1_init_34 (by decide) ?_
  refine z_newI (n9 := 6) C kw_154 (by decide +kernel) (by decide +kernel) (Nat.le_of_ble_eq_true rfl) (Nat.le_of_ble_eq_true rfl) (Nat.le_of_ble_eq_true rfl) dX1_init_36 ?_
  obtain ⟨σ5, hσ5, hf⟩ := zbind hf
  refine z_putF (cn := (.array .int)) (Cn := RX1) (T := TX1) (Nf := 20) (k := 1) (j := 13) C hi hσ5 rfl rfl zin_1 (by decide) kw_375 rfl tyX1 tyX1_ok nmX1 rfl rfl (by decide +kernel) rfl rfl rfl dX1_init_38 ?_
  refine z_aload_n C dX1_init_41 rfl 0 rfl ?_
  refine z_newO (Cn := RX3) (T := TX3) (Nf := 4) (k := 3) C rfl rfl zin_3 tyX3 tyX3_ok kw_193 kw_194 kw_9 hdef_3 (Nat.le_of_ble_eq_true rfl) (Nat.le_of_ble_eq_true rfl) dX1_init_42 ?_
  refine z_dup C dX1_init_45 rfl ?_
  obtain ⟨σ6, hσ6, hf⟩ := zbind hf
  refine z_callN (As := []) C (nX3_init l D Ca B En C.2.2.2.2.2.2.2.1 ev hZ (znew σ5 (N + 1 + 1 + 1 + 1 + 1) (8, 0)) (N + 1 + 1 + 1 + 1 + 1 + 1) ((N + 1 + 1 + 1 + 1 + 1))  _ hσ6) kw_197 kw_9 kw_195 rfl kw_196 hyX3_init (Nat.le_of_ble_eq_true rfl) (Nat.le_of_ble_eq_true rfl) rfl rfl (Nat.le_of_ble_eq_true rfl) dX1_init_46 (Nat.le_of_ble_eq_true rfl) (Nat.le_of_ble_eq_true rfl) ?_
  obtain ⟨σ7, hσ7, hf⟩ := zbind hf
  refine z_putF (cn := (.object "BarrierFlow$Lists")) (Cn := RX1) (T := TX1) (Nf := 20) (k := 1) (j := 14) C hi hσ7 rfl rfl zin_1 (by decide) kw_377 rfl tyX1 tyX1_ok nmX1 rfl rfl (by decide +kernel) rfl rfl rfl dX1_init_49 ?_
  refine z_aload_n C dX1_init_52 rfl 0 rfl ?_
  refine z_newO (Cn := RX0) (T := TX0) (Nf := 11) (k := 0) C rfl rfl zin_0 tyX0 tyX0_ok kw_220 kw_221 kw_10 hdef_0 (Nat.le_of_ble_eq_true rfl) (Nat.le_of_ble_eq_true rfl) dX1_init_53 ?_
  refine z_dup C dX1_init_56 rfl ?_
  obtain ⟨σ8, hσ8, hf⟩ := zbind hf
  refine z_callNN (host := "BarrierFlow") (As := []) C (nX0_init l D Ca B En C.2.2.2.2.2.2.2.1 ev hZ (znew σ7 (N + 1 + 1 + 1 + 1 + 1 + 1 + 4) (5, 0)) (N + 1 + 1 + 1 + 1 + 1 + 1 + 4 + 1) ((N + 1 + 1 + 1 + 1 + 1 + 1 + 4))  _ hσ8) kw_224 kw_10 (by decide) rfl kw_223 hyX0_init (Nat.le_of_ble_eq_true rfl) (Nat.le_of_ble_eq_true rfl) rfl rfl (Nat.le_of_ble_eq_true rfl) dX1_init_57 (Nat.le_of_ble_eq_true rfl) (Nat.le_of_ble_eq_true rfl) ?_
  obtain ⟨σ9, hσ9, hf⟩ := zbind hf
  refine z_pR (cn := "BarrierFlow$Checkpoint") (Cn := RX1) (T := TX1) (Nf := 20) (k := 1) (j := 15) C hσ9 rfl rfl zin_1 (by decide) kw_379 rfl tyX1 tyX1_ok nmX1 rfl (by decide +kernel) rfl dX1_init_60 ?_
  refine z_aload_n C dX1_init_63 rfl 0 rfl ?_
  refine z_newO (Cn := RX0) (T := TX0) (Nf := 11) (k := 0) C rfl rfl zin_0 tyX0 tyX0_ok kw_220 kw_221 kw_10 hdef_0 (Nat.le_of_ble_eq_true rfl) (Nat.le_of_ble_eq_true rfl) dX1_init_64 ?_
  refine z_dup C dX1_init_67 rfl ?_
  obtain ⟨σ10, hσ10, hf⟩ := zbind hf
  refine z_callNN (host := "BarrierFlow") (As := []) C (nX0_init l D Ca B En C.2.2.2.2.2.2.2.1 ev hZ (znew σ9 (N + 1 + 1 + 1 + 1 + 1 + 1 + 4 + 1 + 8) (5, 0)) (N + 1 + 1 + 1 + 1 + 1 + 1 + 4 + 1 + 8 + 1) ((N + 1 + 1 + 1 + 1 + 1 + 1 + 4 + 1 + 8))  _ hσ10) kw_224 kw_10 (by decide) rfl kw_223 hyX0_init (Nat.le_of_ble_eq_true rfl) (Nat.le_of_ble_eq_true rfl) rfl rfl (Nat.le_of_ble_eq_true rfl) dX1_init_68 (Nat.le_of_ble_eq_true rfl) (Nat.le_of_ble_eq_true rfl) ?_
  obtain ⟨σ11, hσ11, hf⟩ := zbind hf
  refine z_pR (cn := "BarrierFlow$Checkpoint") (Cn := RX1) (T := TX1) (Nf := 20) (k := 1) (j := 16) C hσ11 rfl rfl zin_1 (by decide) kw_381 rfl tyX1 tyX1_ok nmX1 rfl (by decide +kernel) rfl dX1_init_71 ?_
  refine z_aload_n C dX1_init_74 rfl 0 rfl ?_
  refine z_bipush C (zi 6) dX1_init_75 (by decide) ?_
  refine z_newI (n9 := 6) C kw_154 (by decide +kernel) (by decide +kernel) (Nat.le_of_ble_eq_true rfl) (Nat.le_of_ble_eq_true rfl) (Nat.le_of_ble_eq_true rfl) dX1_init_77 ?_
  obtain ⟨σ12, hσ12, hf⟩ := zbind hf
  refine z_putF (cn := (.array .int)) (Cn := RX1) (T := TX1) (Nf := 20) (k := 1) (j := 18) C hi hσ12 rfl rfl zin_1 (by decide) kw_384 rfl tyX1 tyX1_ok nmX1 rfl rfl (by decide +kernel) rfl rfl rfl dX1_init_79 ?_
  refine z_aload_n C dX1_init_82 rfl 0 rfl ?_
  refine z_bipush C (zi 24) dX1_init_83 (by decide) ?_
  refine z_newI (n9 := 24) C kw_154 (by decide +kernel) (by decide +kernel) (Nat.le_of_ble_eq_true rfl) (Nat.le_of_ble_eq_true rfl) (Nat.le_of_ble_eq_true rfl) dX1_init_85 ?_
  obtain ⟨σ13, hσ13, hf⟩ := zbind hf
  refine z_putF (cn := (.array .int)) (Cn := RX1) (T := TX1) (Nf := 20) (k := 1) (j := 19) C hi hσ13 rfl rfl zin_1 (by decide) kw_385 rfl tyX1 tyX1_ok nmX1 rfl rfl (by decide +kernel) rfl rfl rfl dX1_init_87 ?_
  refine z_aload_n C dX1_init_90 rfl 0 rfl ?_
  refine z_aload_n C dX1_init_91 rfl 1 rfl ?_
  obtain ⟨σ14, hσ14, hf⟩ := zbind hf
  obtain ⟨kσ14, hσ14⟩ := zck_ok hσ14
  have hRm : zRm (zRoomN 5 150 30 2820) 5 150 (0 + 1 + 1 + 1 + 1 + 1 + 1 + 4 + 1 + 8 + 1 + 8 + 1 + 1) (0 + 4 + 4 + 16 + 4 + 6 + 4 + 890 + 11 + 920 + 11 + 920 + 6 + 24) := ⟨Nat.le_refl _, Nat.le_refl _, (Nat.le_of_ble_eq_true rfl), (Nat.le_of_ble_eq_true rfl)⟩
  refine z_callVv (As := [.ref x1]) (F0 := 5) (L0 := 150) C (mX1_start l D Ca B En C.2.2.2.2.2.2.2.1 ev hZ σ13 (N + 1 + 1 + 1 + 1 + 1 + 1 + 4 + 1 + 8 + 1 + 8 + 1 + 1) x0 x1 _ hσ14) hRm kσ14 rfl kw_285 kw_8 kw_282 kw_283 kw_284 hyX1_start (Nat.le_of_ble_eq_true rfl) (Nat.le_of_ble_eq_true rfl) rfl rfl (Nat.le_of_ble_eq_true rfl) dX1_init_92 ?_
  cases hf
  exact zfin_n C hr (by omega) (Nat.le_of_ble_eq_true rfl) (Nat.le_of_ble_eq_true rfl) dX1_init_95
theorem dX6_init_0 : decode cX6_init 0 = .ok (.aload_n 0, 1) := by decide +kernel
theorem dX6_init_1 : decode cX6_init 1 = .ok (.invokespecial 3, 3) := by decide +kernel
theorem dX6_init_4 : decode cX6_init 4 = .ok (.aload_n 0, 1) := by decide +kernel
theorem dX6_init_5 : decode cX6_init 5 = .ok (.bipush 6, 2) := by decide +kernel
theorem dX6_init_7 : decode cX6_init 7 = .ok (.anewarray 9, 3) := by decide +kernel
theorem dX6_init_10 : decode cX6_init 10 = .ok (.putfield 11, 3) := by decide +kernel
theorem dX6_init_13 : decode cX6_init 13 = .ok (.iconst 0, 1) := by decide +kernel
theorem dX6_init_14 : decode cX6_init 14 = .ok (.istore_n 2, 1) := by decide +kernel
theorem dX6_init_15 : decode cX6_init 15 = .ok (.iload_n 2, 1) := by decide +kernel
theorem dX6_init_16 : decode cX6_init 16 = .ok (.bipush 6, 2) := by decide +kernel
theorem dX6_init_18 : decode cX6_init 18 = .ok (.if_icmp .ge 23, 3) := by decide +kernel
theorem dX6_init_21 : decode cX6_init 21 = .ok (.aload_n 0, 1) := by decide +kernel
theorem dX6_init_22 : decode cX6_init 22 = .ok (.getfield 11, 3) := by decide +kernel
theorem dX6_init_25 : decode cX6_init 25 = .ok (.iload_n 2, 1) := by decide +kernel
theorem dX6_init_26 : decode cX6_init 26 = .ok (.new 9, 3) := by decide +kernel
theorem dX6_init_29 : decode cX6_init 29 = .ok (.dup, 1) := by decide +kernel
theorem dX6_init_30 : decode cX6_init 30 = .ok (.aload_n 1, 1) := by decide +kernel
theorem dX6_init_31 : decode cX6_init 31 = .ok (.invokespecial 17, 3) := by decide +kernel
theorem dX6_init_34 : decode cX6_init 34 = .ok (.aastore, 1) := by decide +kernel
theorem dX6_init_35 : decode cX6_init 35 = .ok (.iinc 2 1, 3) := by decide +kernel
theorem dX6_init_38 : decode cX6_init 38 = .ok (.goto (-23), 3) := by decide +kernel
theorem dX6_init_41 : decode cX6_init 41 = .ok (.return_, 1) := by decide +kernel
theorem hyX6_init : yX6_init.cls ≠ "java/lang/invoke/MethodHandle" ∧ yX6_init.cls ≠ "java/lang/invoke/VarHandle" ∧ (parseMethodDescriptor yX6_init.desc).map (fun d => d.parameters.length) = some 1 := ⟨by decide +kernel, by decide +kernel, by decide +kernel⟩
set_option maxRecDepth 100000 in
set_option maxHeartbeats 4000000 in
theorem nX6_init (l : Launch) (D : va_G) (Ca : Nat → ClassId) (B : Nat) (En : State → Prop) (hE : zEk B En) (ev : zEv) (hZ : ∀ U : State, En U → zEnv ev B U) (hAO : ∀ U : State, En U → va_AO "BarrierFlow$Flow" U) (σ : zS) (N : Nat) (x0 : Nat) (x1 : Nat) (X : zS) (hf : gX6_init σ N x0 x1 = some X) : zMn l D Ca B En yX6_init cX6_init 3 6 171 187 17046 [.ref x0, .ref x1] σ N X := by
  refine zMet_n (own := RX6) hE (by decide +kernel) rfl rfl (Nat.le_of_ble_eq_true rfl) (fun p e s m args below meth c C hr hi => ?_)
  unfold gX6_init at hf
  refine z_aload_n C dX6_init_0 rfl 0 rfl ?_
  refine z_objInit C kw_432 kw_37 kw_38 (Nat.le_of_ble_eq_true rfl) (Nat.le_of_ble_eq_true rfl) (Nat.le_of_ble_eq_true rfl) dX6_init_1 ?_
  refine z_aload_n C dX6_init_4 rfl 0 rfl ?_
  refine z_bipush C (zi 6) dX6_init_5 (by decide) ?_
  refine z_newQ (n9 := 6) C kw_433 (hAO s C.2.2.2.2.2.2.1) (by decide +kernel) (by decide +kernel) (by decide +kernel) (Nat.le_of_ble_eq_true rfl) (Nat.le_of_ble_eq_true rfl) dX6_init_7 ?_
  obtain ⟨σ1, hσ1, hf⟩ := zbind hf
  refine z_putF (cn := (.array (.object "BarrierFlow$Flow"))) (Cn := RX6) (T := TX6) (Nf := 3) (k := 6) (j := 2) C hi hσ1 rfl rfl zin_6 (by decide) kw_439 rfl tyX6 tyX6_ok nmX6 rfl rfl (by decide +kernel) rfl rfl rfl dX6_init_10 ?_
  refine z_iconst C (zi 0) dX6_init_13 (by decide) ?_
  refine z_istore_n (lv2 := [(2, .int ((zi 0))), (0, .ref x0), (1, .ref x1)]) C dX6_init_14 rfl (by decide) rfl ?_
  refine z_iload_n C dX6_init_15 rfl 0 rfl ?_
  refine z_bipush C (zi 6) dX6_init_16 (by decide) ?_
  refine z_icmp_ge C 41 dX6_init_18 (by decide) (fun q => absurd q (by decide)) (fun _ => ?_)
  refine z_aload_n C dX6_init_21 rfl 1 rfl ?_
  obtain ⟨v2, hv2, hf⟩ := zbind hf
  refine z_gR (Cn := RX6) (T := TX6) (Nf := 3) (k := 6) (j := 2) C hv2 rfl rfl zin_6 (by decide) kw_439 rfl rfl dX6_init_22 ?_
  refine z_iload_n C dX6_init_25 rfl 0 rfl ?_
  refine z_newO (Cn := RX1) (T := TX1) (Nf := 20) (k := 1) C rfl rfl zin_1 tyX1 tyX1_ok kw_433 kw_188 kw_8 hdef_1 (Nat.le_of_ble_eq_true rfl) (Nat.le_of_ble_eq_true rfl) dX6_init_26 ?_
  refine z_dup C dX6_init_29 rfl ?_
  refine z_aload_n C dX6_init_30 rfl 2 rfl ?_
  obtain ⟨σ3, hσ3, hf⟩ := zbind hf
  refine z_callN (As := [.ref x1]) C (nX1_init l D Ca B En C.2.2.2.2.2.2.2.1 ev hZ (znew σ1 (N + 1) (6, 0)) (N + 1 + 1) ((N + 1)) x1 _ hσ3) kw_191 kw_8 kw_435 rfl kw_190 hyX1_init (Nat.le_of_ble_eq_true rfl) (Nat.le_of_ble_eq_true rfl) rfl rfl (Nat.le_of_ble_eq_true rfl) dX6_init_31 (Nat.le_of_ble_eq_true rfl) (Nat.le_of_ble_eq_true rfl) ?_
  obtain ⟨σ4, hσ4, hf⟩ := zbind hf
  refine z_sR C hσ4 dX6_init_34 ?_
  refine z_iinc (lv2 := [(2, .int ((zi 1))), (0, .ref x0), (1, .ref x1)]) C (zi 1) dX6_init_35 0 rfl (by decide) (by decide) rfl ?_
  refine z_goto C 15 dX6_init_38 (by decide) ?_
  refine z_iload_n C dX6_init_15 rfl 0 rfl ?_
  refine z_bipush C (zi 6) dX6_init_16 (by decide) ?_
  refine z_icmp_ge C 41 dX6_init_18 (by decide) (fun q => absurd q (by decide)) (fun _ => ?_)
  refine z_aload_n C dX6_init_21 rfl 1 rfl ?_
  obtain ⟨v5, hv5, hf⟩ := zbind hf
  refine z_gR (Cn := RX6) (T := TX6) (Nf := 3) (k := 6) (j := 2) C hv5 rfl rfl zin_6 (by decide) kw_439 rfl rfl dX6_init_22 ?_
  refine z_iload_n C dX6_init_25 rfl 0 rfl ?_
  refine z_newO (Cn := RX1) (T := TX1) (Nf := 20) (k := 1) C rfl rfl zin_1 tyX1 tyX1_ok kw_433 kw_188 kw_8 hdef_1 (Nat.le_of_ble_eq_true rfl) (Nat.le_of_ble_eq_true rfl) dX6_init_26 ?_
  refine z_dup C dX6_init_29 rfl ?_
  refine z_aload_n C dX6_init_30 rfl 2 rfl ?_
  obtain ⟨σ6, hσ6, hf⟩ := zbind hf
  refine z_callN (As := [.ref x1]) C (nX1_init l D Ca B En C.2.2.2.2.2.2.2.1 ev hZ (znew σ4 (N + 1 + 1 + 30) (6, 0)) (N + 1 + 1 + 30 + 1) ((N + 1 + 1 + 30)) x1 _ hσ6) kw_191 kw_8 kw_435 rfl kw_190 hyX1_init (Nat.le_of_ble_eq_true rfl) (Nat.le_of_ble_eq_true rfl) rfl rfl (Nat.le_of_ble_eq_true rfl) dX6_init_31 (Nat.le_of_ble_eq_true rfl) (Nat.le_of_ble_eq_true rfl) ?_
  obtain ⟨σ7, hσ7, hf⟩ := zbind hf
  refine z_sR C hσ7 dX6_init_34 ?_
  refine z_iinc (lv2 := [(2, .int ((zi 2))), (0, .ref x0), (1, .ref x1)]) C (zi 2) dX6_init_35 0 rfl (by decide) (by decide) rfl ?_
  refine z_goto C 15 dX6_init_38 (by decide) ?_
  refine z_iload_n C dX6_init_15 rfl 0 rfl ?_
  refine z_bipush C (zi 6) dX6_init_16 (by decide) ?_
  refine z_icmp_ge C 41 dX6_init_18 (by decide) (fun q => absurd q (by decide)) (fun _ => ?_)
  refine z_aload_n C dX6_init_21 rfl 1 rfl ?_
  obtain ⟨v8, hv8, hf⟩ := zbind hf
  refine z_gR (Cn := RX6) (T := TX6) (Nf := 3) (k := 6) (j := 2) C hv8 rfl rfl zin_6 (by decide) kw_439 rfl rfl dX6_init_22 ?_
  refine z_iload_n C dX6_init_25 rfl 0 rfl ?_
  refine z_newO (Cn := RX1) (T := TX1) (Nf := 20) (k := 1) C rfl rfl zin_1 tyX1 tyX1_ok kw_433 kw_188 kw_8 hdef_1 (Nat.le_of_ble_eq_true rfl) (Nat.le_of_ble_eq_true rfl) dX6_init_26 ?_
  refine z_dup C dX6_init_29 rfl ?_
  refine z_aload_n C dX6_init_30 rfl 2 rfl ?_
  obtain ⟨σ9, hσ9, hf⟩ := zbind hf
  refine z_callN (As := [.ref x1]) C (nX1_init l D Ca B En C.2.2.2.2.2.2.2.1 ev hZ (znew σ7 (N + 1 + 1 + 30 + 1 + 30) (6, 0)) (N + 1 + 1 + 30 + 1 + 30 + 1) ((N + 1 + 1 + 30 + 1 + 30)) x1 _ hσ9) kw_191 kw_8 kw_435 rfl kw_190 hyX1_init (Nat.le_of_ble_eq_true rfl) (Nat.le_of_ble_eq_true rfl) rfl rfl (Nat.le_of_ble_eq_true rfl) dX6_init_31 (Nat.le_of_ble_eq_true rfl) (Nat.le_of_ble_eq_true rfl) ?_
  obtain ⟨σ10, hσ10, hf⟩ := zbind hf
  refine z_sR C hσ10 dX6_init_34 ?_
  refine z_iinc (lv2 := [(2, .int ((zi 3))), (0, .ref x0), (1, .ref x1)]) C (zi 3) dX6_init_35 0 rfl (by decide) (by decide) rfl ?_
  refine z_goto C 15 dX6_init_38 (by decide) ?_
  refine z_iload_n C dX6_init_15 rfl 0 rfl ?_
  refine z_bipush C (zi 6) dX6_init_16 (by decide) ?_
  refine z_icmp_ge C 41 dX6_init_18 (by decide) (fun q => absurd q (by decide)) (fun _ => ?_)
  refine z_aload_n C dX6_init_21 rfl 1 rfl ?_
  obtain ⟨v11, hv11, hf⟩ := zbind hf
  refine z_gR (Cn := RX6) (T := TX6) (Nf := 3) (k := 6) (j := 2) C hv11 rfl rfl zin_6 (by decide) kw_439 rfl rfl dX6_init_22 ?_
  refine z_iload_n C dX6_init_25 rfl 0 rfl ?_
  refine z_newO (Cn := RX1) (T := TX1) (Nf := 20) (k := 1) C rfl rfl zin_1 tyX1 tyX1_ok kw_433 kw_188 kw_8 hdef_1 (Nat.le_of_ble_eq_true rfl) (Nat.le_of_ble_eq_true rfl) dX6_init_26 ?_
  refine z_dup C dX6_init_29 rfl ?_
  refine z_aload_n C dX6_init_30 rfl 2 rfl ?_
  obtain ⟨σ12, hσ12, hf⟩ := zbind hf
  refine z_callN (As := [.ref x1]) C (nX1_init l D Ca B En C.2.2.2.2.2.2.2.1 ev hZ (znew σ10 (N + 1 + 1 + 30 + 1 + 30 + 1 + 30) (6, 0)) (N + 1 + 1 + 30 + 1 + 30 + 1 + 30 + 1) ((N + 1 + 1 + 30 + 1 + 30 + 1 + 30)) x1 _ hσ12) kw_191 kw_8 kw_435 rfl kw_190 hyX1_init (Nat.le_of_ble_eq_true rfl) (Nat.le_of_ble_eq_true rfl) rfl rfl (Nat.le_of_ble_eq_true rfl) dX6_init_31 (Nat.le_of_ble_eq_true rfl) (Nat.le_of_ble_eq_true rfl) ?_
  obtain ⟨σ13, hσ13, hf⟩ := zbind hf
  refine z_sR C hσ13 dX6_init_34 ?_
  refine z_iinc (lv2 := [(2, .int ((zi 4))), (0, .ref x0), (1, .ref x1)]) C (zi 4) dX6_init_35 0 rfl (by decide) (by decide) rfl ?_
  refine z_goto C 15 dX6_init_38 (by decide) ?_
  refine z_iload_n C dX6_init_15 rfl 0 rfl ?_
  refine z_bipush C (zi 6) dX6_init_16 (by decide) ?_
  refine z_icmp_ge C 41 dX6_init_18 (by decide) (fun q => absurd q (by decide)) (fun _ => ?_)
  refine z_aload_n C dX6_init_21 rfl 1 rfl ?_
  obtain ⟨v14, hv14, hf⟩ := zbind hf
  refine z_gR (Cn := RX6) (T := TX6) (Nf := 3) (k := 6) (j := 2) C hv14 rfl rfl zin_6 (by decide) kw_439 rfl rfl dX6_init_22 ?_
  refine z_iload_n C dX6_init_25 rfl 0 rfl ?_
  refine z_newO (Cn := RX1) (T := TX1) (Nf := 20) (k := 1) C rfl rfl zin_1 tyX1 tyX1_ok kw_433 kw_188 kw_8 hdef_1 (Nat.le_of_ble_eq_true rfl) (Nat.le_of_ble_eq_true rfl) dX6_init_26 ?_
  refine z_dup C dX6_init_29 rfl ?_
  refine z_aload_n C dX6_init_30 rfl 2 rfl ?_
  obtain ⟨σ15, hσ15, hf⟩ := zbind hf
  refine z_callN (As := [.ref x1]) C (nX1_init l D Ca B En C.2.2.2.2.2.2.2.1 ev hZ (znew σ13 (N + 1 + 1 + 30 + 1 + 30 + 1 + 30 + 1 + 30) (6, 0)) (N + 1 + 1 + 30 + 1 + 30 + 1 + 30 + 1 + 30 + 1) ((N + 1 + 1 + 30 + 1 + 30 + 1 + 30 + 1 + 30)) x1 _ hσ15) kw_191 kw_8 kw_435 rfl kw_190 hyX1_init (Nat.le_of_ble_eq_true rfl) (Nat.le_of_ble_eq_true rfl) rfl rfl (Nat.le_of_ble_eq_true rfl) dX6_init_31 (Nat.le_of_ble_eq_true rfl) (Nat.le_of_ble_eq_true rfl) ?_
  obtain ⟨σ16, hσ16, hf⟩ := zbind hf
  refine z_sR C hσ16 dX6_init_34 ?_
  refine z_iinc (lv2 := [(2, .int ((zi 5))), (0, .ref x0), (1, .ref x1)]) C (zi 5) dX6_init_35 0 rfl (by decide) (by decide) rfl ?_
  refine z_goto C 15 dX6_init_38 (by decide) ?_
  refine z_iload_n C dX6_init_15 rfl 0 rfl ?_
  refine z_bipush C (zi 6) dX6_init_16 (by decide) ?_
  refine z_icmp_ge C 41 dX6_init_18 (by decide) (fun q => absurd q (by decide)) (fun _ => ?_)
  refine z_aload_n C dX6_init_21 rfl 1 rfl ?_
  obtain ⟨v17, hv17, hf⟩ := zbind hf
  refine z_gR (Cn := RX6) (T := TX6) (Nf := 3) (k := 6) (j := 2) C hv17 rfl rfl zin_6 (by decide) kw_439 rfl rfl dX6_init_22 ?_
  refine z_iload_n C dX6_init_25 rfl 0 rfl ?_
  refine z_newO (Cn := RX1) (T := TX1) (Nf := 20) (k := 1) C rfl rfl zin_1 tyX1 tyX1_ok kw_433 kw_188 kw_8 hdef_1 (Nat.le_of_ble_eq_true rfl) (Nat.le_of_ble_eq_true rfl) dX6_init_26 ?_
  refine z_dup C dX6_init_29 rfl ?_
  refine z_aload_n C dX6_init_30 rfl 2 rfl ?_
  obtain ⟨σ18, hσ18, hf⟩ := zbind hf
  refine z_callN (As := [.ref x1]) C (nX1_init l D Ca B En C.2.2.2.2.2.2.2.1 ev hZ (znew σ16 (N + 1 + 1 + 30 + 1 + 30 + 1 + 30 + 1 + 30 + 1 + 30) (6, 0)) (N + 1 + 1 + 30 + 1 + 30 + 1 + 30 + 1 + 30 + 1 + 30 + 1) ((N + 1 + 1 + 30 + 1 + 30 + 1 + 30 + 1 + 30 + 1 + 30)) x1 _ hσ18) kw_191 kw_8 kw_435 rfl kw_190 hyX1_init (Nat.le_of_ble_eq_true rfl) (Nat.le_of_ble_eq_true rfl) rfl rfl (Nat.le_of_ble_eq_true rfl) dX6_init_31 (Nat.le_of_ble_eq_true rfl) (Nat.le_of_ble_eq_true rfl) ?_
  obtain ⟨σ19, hσ19, hf⟩ := zbind hf
  refine z_sR C hσ19 dX6_init_34 ?_
  refine z_iinc (lv2 := [(2, .int ((zi 6))), (0, .ref x0), (1, .ref x1)]) C (zi 6) dX6_init_35 0 rfl (by decide) (by decide) rfl ?_
  refine z_goto C 15 dX6_init_38 (by decide) ?_
  refine z_iload_n C dX6_init_15 rfl 0 rfl ?_
  refine z_bipush C (zi 6) dX6_init_16 (by decide) ?_
  refine z_icmp_ge C 41 dX6_init_18 (by decide) (fun _ => ?_) (fun q => absurd (by decide) q)
  cases hf
  exact zfin_n C hr (by omega) (Nat.le_of_ble_eq_true rfl) (Nat.le_of_ble_eq_true rfl) dX6_init_41
theorem dX9_init_0 : decode cX9_init 0 = .ok (.aload_n 0, 1) := by decide +kernel
theorem dX9_init_1 : decode cX9_init 1 = .ok (.invokespecial 3, 3) := by decide +kernel
theorem dX9_init_4 : decode cX9_init 4 = .ok (.aload_n 0, 1) := by decide +kernel
theorem dX9_init_5 : decode cX9_init 5 = .ok (.new 9, 3) := by decide +kernel
theorem dX9_init_8 : decode cX9_init 8 = .ok (.dup, 1) := by decide +kernel
theorem dX9_init_9 : decode cX9_init 9 = .ok (.invokespecial 11, 3) := by decide +kernel
theorem dX9_init_12 : decode cX9_init 12 = .ok (.putfield 12, 3) := by decide +kernel
theorem dX9_init_15 : decode cX9_init 15 = .ok (.aload_n 0, 1) := by decide +kernel
theorem dX9_init_16 : decode cX9_init 16 = .ok (.new 16, 3) := by decide +kernel
theorem dX9_init_19 : decode cX9_init 19 = .ok (.dup, 1) := by decide +kernel
theorem dX9_init_20 : decode cX9_init 20 = .ok (.aload_n 0, 1) := by decide +kernel
theorem dX9_init_21 : decode cX9_init 21 = .ok (.getfield 12, 3) := by decide +kernel
theorem dX9_init_24 : decode cX9_init 24 = .ok (.invokespecial 18, 3) := by decide +kernel
theorem dX9_init_27 : decode cX9_init 27 = .ok (.putfield 21, 3) := by decide +kernel
theorem dX9_init_30 : decode cX9_init 30 = .ok (.aload_n 0, 1) := by decide +kernel
theorem dX9_init_31 : decode cX9_init 31 = .ok (.new 25, 3) := by decide +kernel
theorem dX9_init_34 : decode cX9_init 34 = .ok (.dup, 1) := by decide +kernel
theorem dX9_init_35 : decode cX9_init 35 = .ok (.invokespecial 27, 3) := by decide +kernel
theorem dX9_init_38 : decode cX9_init 38 = .ok (.putfield 28, 3) := by decide +kernel
theorem dX9_init_41 : decode cX9_init 41 = .ok (.aload_n 0, 1) := by decide +kernel
theorem dX9_init_42 : decode cX9_init 42 = .ok (.new 32, 3) := by decide +kernel
theorem dX9_init_45 : decode cX9_init 45 = .ok (.dup, 1) := by decide +kernel
theorem dX9_init_46 : decode cX9_init 46 = .ok (.invokespecial 34, 3) := by decide +kernel
theorem dX9_init_49 : decode cX9_init 49 = .ok (.putfield 35, 3) := by decide +kernel
theorem dX9_init_52 : decode cX9_init 52 = .ok (.aload_n 0, 1) := by decide +kernel
theorem dX9_init_53 : decode cX9_init 53 = .ok (.new 32, 3) := by decide +kernel
theorem dX9_init_56 : decode cX9_init 56 = .ok (.dup, 1) := by decide +kernel
theorem dX9_init_57 : decode cX9_init 57 = .ok (.invokespecial 34, 3) := by decide +kernel
theorem dX9_init_60 : decode cX9_init 60 = .ok (.putfield 39, 3) := by decide +kernel
theorem dX9_init_63 : decode cX9_init 63 = .ok (.aload_n 0, 1) := by decide +kernel
theorem dX9_init_64 : decode cX9_init 64 = .ok (.getfield 35, 3) := by decide +kernel
theorem dX9_init_67 : decode cX9_init 67 = .ok (.invokevirtual 42, 3) := by decide +kernel
theorem dX9_init_70 : decode cX9_init 70 = .ok (.aload_n 0, 1) := by decide +kernel
theorem dX9_init_71 : decode cX9_init 71 = .ok (.new 45, 3) := by decide +kernel
theorem dX9_init_74 : decode cX9_init 74 = .ok (.dup, 1) := by decide +kernel
theorem dX9_init_75 : decode cX9_init 75 = .ok (.aload_n 0, 1) := by decide +kernel
theorem dX9_init_76 : decode cX9_init 76 = .ok (.getfield 35, 3) := by decide +kernel
theorem dX9_init_79 : decode cX9_init 79 = .ok (.invokespecial 47, 3) := by decide +kernel
theorem dX9_init_82 : decode cX9_init 82 = .ok (.putfield 50, 3) := by decide +kernel
theorem dX9_init_85 : decode cX9_init 85 = .ok (.aload_n 0, 1) := by decide +kernel
theorem dX9_init_86 : decode cX9_init 86 = .ok (.new 45, 3) := by decide +kernel
theorem dX9_init_89 : decode cX9_init 89 = .ok (.dup, 1) := by decide +kernel
theorem dX9_init_90 : decode cX9_init 90 = .ok (.aload_n 0, 1) := by decide +kernel
theorem dX9_init_91 : decode cX9_init 91 = .ok (.getfield 35, 3) := by decide +kernel
theorem dX9_init_94 : decode cX9_init 94 = .ok (.invokespecial 47, 3) := by decide +kernel
theorem dX9_init_97 : decode cX9_init 97 = .ok (.putfield 54, 3) := by decide +kernel
theorem dX9_init_100 : decode cX9_init 100 = .ok (.aload_n 0, 1) := by decide +kernel
theorem dX9_init_101 : decode cX9_init 101 = .ok (.new 45, 3) := by decide +kernel
theorem dX9_init_104 : decode cX9_init 104 = .ok (.dup, 1) := by decide +kernel
theorem dX9_init_105 : decode cX9_init 105 = .ok (.aload_n 0, 1) := by decide +kernel
theorem dX9_init_106 : decode cX9_init 106 = .ok (.getfield 35, 3) := by decide +kernel
theorem dX9_init_109 : decode cX9_init 109 = .ok (.invokespecial 47, 3) := by decide +kernel
theorem dX9_init_112 : decode cX9_init 112 = .ok (.putfield 57, 3) := by decide +kernel
theorem dX9_init_115 : decode cX9_init 115 = .ok (.aload_n 0, 1) := by decide +kernel
theorem dX9_init_116 : decode cX9_init 116 = .ok (.new 60, 3) := by decide +kernel
theorem dX9_init_119 : decode cX9_init 119 = .ok (.dup, 1) := by decide +kernel
theorem dX9_init_120 : decode cX9_init 120 = .ok (.aload_n 0, 1) := by decide +kernel
theorem dX9_init_121 : decode cX9_init 121 = .ok (.getfield 35, 3) := by decide +kernel
theorem dX9_init_124 : decode cX9_init 124 = .ok (.invokespecial 62, 3) := by decide +kernel
theorem dX9_init_127 : decode cX9_init 127 = .ok (.putfield 63, 3) := by decide +kernel
theorem dX9_init_130 : decode cX9_init 130 = .ok (.return_, 1) := by decide +kernel
theorem hyX9_init : yX9_init.cls ≠ "java/lang/invoke/MethodHandle" ∧ yX9_init.cls ≠ "java/lang/invoke/VarHandle" ∧ (parseMethodDescriptor yX9_init.desc).map (fun d => d.parameters.length) = some 0 := ⟨by decide +kernel, by decide +kernel, by decide +kernel⟩
set_option maxRecDepth 100000 in
set_option maxHeartbeats 4000000 in
theorem nX9_init (l : Launch) (D : va_G) (Ca : Nat → ClassId) (B : Nat) (En : State → Prop) (hE : zEk B En) (ev : zEv) (hZ : ∀ U : State, En U → zEnv ev B U) (hAO : ∀ U : State, En U → va_AO "BarrierFlow$Flow" U) (σ : zS) (N : Nat) (x0 : Nat) (X : zS) (hf : gX9_init σ N x0 = some X) : zMn l D Ca B En yX9_init cX9_init 1 7 193 306 38809 [.ref x0] σ N X := by
  refine zMet_n (own := RX9) hE (by decide +kernel) rfl rfl (Nat.le_of_ble_eq_true rfl) (fun p e s m args below meth c C hr hi => ?_)
  unfold gX9_init at hf
  refine z_aload_n C dX9_init_0 rfl 0 rfl ?_
  refine z_objInit C kw_36 kw_37 kw_38 (Nat.le_of_ble_eq_true rfl) (Nat.le_of_ble_eq_true rfl) (Nat.le_of_ble_eq_true rfl) dX9_init_1 ?_
  refine z_aload_n C dX9_init_4 rfl 0 rfl ?_
  refine z_newO (Cn := RX2) (T := TX2) (Nf := 2) (k := 2) C rfl rfl zin_2 tyX2 tyX2_ok kw_39 kw_40 kw_2 hdef_2 (Nat.le_of_ble_eq_true rfl) (Nat.le_of_ble_eq_true rfl) dX9_init_5 ?_
  refine z_dup C dX9_init_8 rfl ?_
  obtain ⟨σ1, hσ1, hf⟩ := zbind hf
  refine z_callNN (host := "BarrierFlow") (As := []) C (nX2_init l D Ca B En C.2.2.2.2.2.2.2.1 ev hZ (znew σ N (7, 0)) (N + 1) N  _ hσ1) kw_43 kw_2 (by decide) rfl kw_42 hyX2_init (Nat.le_of_ble_eq_true rfl) (Nat.le_of_ble_eq_true rfl) rfl rfl (Nat.le_of_ble_eq_true rfl) dX9_init_9 (Nat.le_of_ble_eq_true rfl) (Nat.le_of_ble_eq_true rfl) ?_
  obtain ⟨σ2, hσ2, hf⟩ := zbind hf
  refine z_putF (cn := (.object "BarrierFlow$Input")) (Cn := RX9) (T := TX9) (Nf := 10) (k := 8) (j := 0) C hi hσ2 rfl rfl zin_8 (by decide) kw_447 rfl tyX9 tyX9_ok nmX9 rfl rfl (by decide +kernel) rfl rfl rfl dX9_init_12 ?_
  refine z_aload_n C dX9_init_15 rfl 0 rfl ?_
  refine z_newO (Cn := RX5) (T := TX5) (Nf := 8) (k := 5) C rfl rfl zin_5 tyX5 tyX5_ok kw_56 kw_57 kw_3 hdef_5 (Nat.le_of_ble_eq_true rfl) (Nat.le_of_ble_eq_true rfl) dX9_init_16 ?_
  refine z_dup C dX9_init_19 rfl ?_
  refine z_aload_n C dX9_init_20 rfl 0 rfl ?_
  obtain ⟨v3, hv3, hf⟩ := zbind hf
  refine z_gR (Cn := RX9) (T := TX9) (Nf := 10) (k := 8) (j := 0) C hv3 rfl rfl zin_8 (by decide) kw_447 rfl rfl dX9_init_21 ?_
  obtain ⟨σ4, hσ4, hf⟩ := zbind hf
  refine z_callN (As := [.ref v3]) C (nX5_init l D Ca B En C.2.2.2.2.2.2.2.1 ev hZ (znew σ2 (N + 1 + 1) (10, 0)) (N + 1 + 1 + 1) ((N + 1 + 1)) v3 _ hσ4) kw_60 kw_3 kw_58 rfl kw_59 hyX5_init (Nat.le_of_ble_eq_true rfl) (Nat.le_of_ble_eq_true rfl) rfl rfl (Nat.le_of_ble_eq_true rfl) dX9_init_24 (Nat.le_of_ble_eq_true rfl) (Nat.le_of_ble_eq_true rfl) ?_
  obtain ⟨σ5, hσ5, hf⟩ := zbind hf
  refine z_putF (cn := (.object "BarrierFlow$Parser")) (Cn := RX9) (T := TX9) (Nf := 10) (k := 8) (j := 1) C hi hσ5 rfl rfl zin_8 (by decide) kw_448 rfl tyX9 tyX9_ok nmX9 rfl rfl (by decide +kernel) rfl rfl rfl dX9_init_27 ?_
  refine z_aload_n C dX9_init_30 rfl 0 rfl ?_
  refine z_newO (Cn := RX4) (T := TX4) (Nf := 2) (k := 4) C rfl rfl zin_4 tyX4 tyX4_ok kw_87 kw_88 kw_4 hdef_4 (Nat.le_of_ble_eq_true rfl) (Nat.le_of_ble_eq_true rfl) dX9_init_31 ?_
  refine z_dup C dX9_init_34 rfl ?_
  obtain ⟨σ6, hσ6, hf⟩ := zbind hf
  refine z_callNN (host := "BarrierFlow") (As := []) C (nX4_init l D Ca B En C.2.2.2.2.2.2.2.1 ev hZ (znew σ5 (N + 1 + 1 + 1 + 0) (9, 0)) (N + 1 + 1 + 1 + 0 + 1) ((N + 1 + 1 + 1 + 0))  _ hσ6) kw_91 kw_4 (by decide) rfl kw_90 hyX4_init (Nat.le_of_ble_eq_true rfl) (Nat.le_of_ble_eq_true rfl) rfl rfl (Nat.le_of_ble_eq_true rfl) dX9_init_35 (Nat.le_of_ble_eq_true rfl) (Nat.le_of_ble_eq_true rfl) ?_
  obtain ⟨σ7, hσ7, hf⟩ := zbind hf
  refine z_putF (cn := (.object "BarrierFlow$Output")) (Cn := RX9) (T := TX9) (Nf := 10) (k := 8) (j := 2) C hi hσ7 rfl rfl zin_8 (by decide) kw_449 rfl tyX9 tyX9_ok nmX9 rfl rfl (by decide +kernel) rfl rfl rfl dX9_init_38 ?_
  refine z_aload_n C dX9_init_41 rfl 0 rfl ?_
  refine z_newO (Cn := RX7) (T := TX7) (Nf := 11) (k := 7) C rfl rfl zin_7 tyX7 tyX7_ok kw_99 kw_100 kw_5 hdef_7 (Nat.le_of_ble_eq_true rfl) (Nat.le_of_ble_eq_true rfl) dX9_init_42 ?_
  refine z_dup C dX9_init_45 rfl ?_
  obtain ⟨σ8, hσ8, hf⟩ := zbind hf
  refine z_callNN (host := "BarrierFlow") (As := []) C (nX7_init l D Ca B En C.2.2.2.2.2.2.2.1 ev hZ (znew σ7 (N + 1 + 1 + 1 + 0 + 1 + 1) (12, 0)) (N + 1 + 1 + 1 + 0 + 1 + 1 + 1) ((N + 1 + 1 + 1 + 0 + 1 + 1))  _ hσ8) kw_103 kw_5 (by decide) rfl kw_102 hyX7_init (Nat.le_of_ble_eq_true rfl) (Nat.le_of_ble_eq_true rfl) rfl rfl (Nat.le_of_ble_eq_true rfl) dX9_init_46 (Nat.le_of_ble_eq_true rfl) (Nat.le_of_ble_eq_true rfl) ?_
  obtain ⟨σ9, hσ9, hf⟩ := zbind hf
  refine z_pR (cn := "BarrierFlow$Setup") (Cn := RX9) (T := TX9) (Nf := 10) (k := 8) (j := 8) C hσ9 rfl rfl zin_8 (by decide) kw_455 rfl tyX9 tyX9_ok nmX9 rfl (by decide +kernel) rfl dX9_init_49 ?_
  refine z_aload_n C dX9_init_52 rfl 0 rfl ?_
  refine z_newO (Cn := RX7) (T := TX7) (Nf := 11) (k := 7) C rfl rfl zin_7 tyX7 tyX7_ok kw_99 kw_100 kw_5 hdef_7 (Nat.le_of_ble_eq_true rfl) (Nat.le_of_ble_eq_true rfl) dX9_init_53 ?_
  refine z_dup C dX9_init_56 rfl ?_
  obtain ⟨σ10, hσ10, hf⟩ := zbind hf
  refine z_callNN (host := "BarrierFlow") (As := []) C (nX7_init l D Ca B En C.2.2.2.2.2.2.2.1 ev hZ (znew σ9 (N + 1 + 1 + 1 + 0 + 1 + 1 + 1 + 9) (12, 0)) (N + 1 + 1 + 1 + 0 + 1 + 1 + 1 + 9 + 1) ((N + 1 + 1 + 1 + 0 + 1 + 1 + 1 + 9))  _ hσ10) kw_103 kw_5 (by decide) rfl kw_102 hyX7_init (Nat.le_of_ble_eq_true rfl) (Nat.le_of_ble_eq_true rfl) rfl rfl (Nat.le_of_ble_eq_true rfl) dX9_init_57 (Nat.le_of_ble_eq_true rfl) (Nat.le_of_ble_eq_true rfl) ?_
  obtain ⟨σ11, hσ11, hf⟩ := zbind hf
  refine z_pR (cn := "BarrierFlow$Setup") (Cn := RX9) (T := TX9) (Nf := 10) (k := 8) (j := 9) C hσ11 rfl rfl zin_8 (by decide) kw_456 rfl tyX9 tyX9_ok nmX9 rfl (by decide +kernel) rfl dX9_init_60 ?_
  refine z_aload_n C dX9_init_63 rfl 0 rfl ?_
  obtain ⟨v12, hv12, hf⟩ := zbind hf
  refine z_gR (Cn := RX9) (T := TX9) (Nf := 10) (k := 8) (j := 8) C hv12 rfl rfl zin_8 (by decide) kw_455 rfl rfl dX9_init_64 ?_
  obtain ⟨σ13, hσ13, hf⟩ := zbind hf
  obtain ⟨kσ13, hσ13⟩ := zck_ok hσ13
  have hRm : zRm (zRoomN 7 193 306 38809) 7 193 (0 + 1 + 1 + 1 + 0 + 1 + 1 + 1 + 9 + 1 + 9) (0 + 2 + 300 + 8 + 0 + 2 + 8000 + 11 + 2453 + 11 + 2453) := ⟨Nat.le_refl _, Nat.le_refl _, (Nat.le_of_ble_eq_true rfl), (Nat.le_of_ble_eq_true rfl)⟩
  refine z_callVv (As := []) (F0 := 7) (L0 := 193) C (mX7_makePlain l D Ca B En C.2.2.2.2.2.2.2.1 ev hZ σ11 (N + 1 + 1 + 1 + 0 + 1 + 1 + 1 + 9 + 1 + 9) v12  _ hσ13) hRm kσ13 rfl kw_158 kw_5 kw_155 kw_156 kw_157 hyX7_makePlain (Nat.le_of_ble_eq_true rfl) (Nat.le_of_ble_eq_true rfl) rfl rfl (Nat.le_of_ble_eq_true rfl) dX9_init_67 ?_
  refine z_aload_n C dX9_init_70 rfl 0 rfl ?_
  refine z_newO (Cn := RX1) (T := TX1) (Nf := 20) (k := 1) C rfl rfl zin_1 tyX1 tyX1_ok kw_187 kw_188 kw_8 hdef_1 (Nat.le_of_ble_eq_true rfl) (Nat.le_of_ble_eq_true rfl) dX9_init_71 ?_
  refine z_dup C dX9_init_74 rfl ?_
  refine z_aload_n C dX9_init_75 rfl 0 rfl ?_
  obtain ⟨v14, hv14, hf⟩ := zbind hf
  refine z_gR (Cn := RX9) (T := TX9) (Nf := 10) (k := 8) (j := 8) C hv14 rfl rfl zin_8 (by decide) kw_455 rfl rfl dX9_init_76 ?_
  obtain ⟨σ15, hσ15, hf⟩ := zbind hf
  refine z_callN (As := [.ref v14]) C (nX1_init l D Ca B En C.2.2.2.2.2.2.2.1 ev hZ (znew σ13 (N + 1 + 1 + 1 + 0 + 1 + 1 + 1 + 9 + 1 + 9) (6, 0)) (N + 1 + 1 + 1 + 0 + 1 + 1 + 1 + 9 + 1 + 9 + 1) ((N + 1 + 1 + 1 + 0 + 1 + 1 + 1 + 9 + 1 + 9)) v14 _ hσ15) kw_191 kw_8 kw_189 rfl kw_190 hyX1_init (Nat.le_of_ble_eq_true rfl) (Nat.le_of_ble_eq_true rfl) rfl rfl (Nat.le_of_ble_eq_true rfl) dX9_init_79 (Nat.le_of_ble_eq_true rfl) (Nat.le_of_ble_eq_true rfl) ?_
  obtain ⟨σ16, hσ16, hf⟩ := zbind hf
  refine z_putF (cn := (.object "BarrierFlow$Flow")) (Cn := RX9) (T := TX9) (Nf := 10) (k := 8) (j := 4) C hi hσ16 rfl rfl zin_8 (by decide) kw_451 rfl tyX9 tyX9_ok nmX9 rfl rfl (by decide +kernel) rfl rfl rfl dX9_init_82 ?_
  refine z_aload_n C dX9_init_85 rfl 0 rfl ?_
  refine z_newO (Cn := RX1) (T := TX1) (Nf := 20) (k := 1) C rfl rfl zin_1 tyX1 tyX1_ok kw_187 kw_188 kw_8 hdef_1 (Nat.le_of_ble_eq_true rfl) (Nat.le_of_ble_eq_true rfl) dX9_init_86 ?_
  refine z_dup C dX9_init_89 rfl ?_
  refine z_aload_n C dX9_init_90 rfl 0 rfl ?_
  obtain ⟨v17, hv17, hf⟩ := zbind hf
  refine z_gR (Cn := RX9) (T := TX9) (Nf := 10) (k := 8) (j := 8) C hv17 rfl rfl zin_8 (by decide) kw_455 rfl rfl dX9_init_91 ?_
  obtain ⟨σ18, hσ18, hf⟩ := zbind hf
  refine z_callN (As := [.ref v17]) C (nX1_init l D Ca B En C.2.2.2.2.2.2.2.1 ev hZ (znew σ16 (N + 1 + 1 + 1 + 0 + 1 + 1 + 1 + 9 + 1 + 9 + 1 + 30) (6, 0)) (N + 1 + 1 + 1 + 0 + 1 + 1 + 1 + 9 + 1 + 9 + 1 + 30 + 1) ((N + 1 + 1 + 1 + 0 + 1 + 1 + 1 + 9 + 1 + 9 + 1 + 30)) v17 _ hσ18) kw_191 kw_8 kw_189 rfl kw_190 hyX1_init (Nat.le_of_ble_eq_true rfl) (Nat.le_of_ble_eq_true rfl) rfl rfl (Nat.le_of_ble_eq_true rfl) dX9_init_94 (Nat.le_of_ble_eq_true rfl) (Nat.le_of_ble_eq_true rfl) ?_
  obtain ⟨σ19, hσ19, hf⟩ := zbind hf
  refine z_putF (cn := (.object "BarrierFlow$Flow")) (Cn := RX9) (T := TX9) (Nf := 10) (k := 8) (j := 5) C hi hσ19 rfl rfl zin_8 (by decide) kw_452 rfl tyX9 tyX9_ok nmX9 rfl rfl (by decide +kernel) rfl rfl rfl dX9_init_97 ?_
  refine z_aload_n C dX9_init_100 rfl 0 rfl ?_
  refine z_newO (Cn := RX1) (T := TX1) (Nf := 20) (k := 1) C rfl rfl zin_1 tyX1 tyX1_ok kw_187 kw_188 kw_8 hdef_1 (Nat.le_of_ble_eq_true rfl) (Nat.le_of_ble_eq_true rfl) dX9_init_101 ?_
  refine z_dup C dX9_init_104 rfl ?_
  refine z_aload_n C dX9_init_105 rfl 0 rfl ?_
  obtain ⟨v20, hv20, hf⟩ := zbind hf
  refine z_gR (Cn := RX9) (T := TX9) (Nf := 10) (k := 8) (j := 8) C hv20 rfl rfl zin_8 (by decide) kw_455 rfl rfl dX9_init_106 ?_
  obtain ⟨σ21, hσ21, hf⟩ := zbind hf
  refine z_callN (As := [.ref v20]) C (nX1_init l D Ca B En C.2.2.2.2.2.2.2.1 ev hZ (znew σ19 (N + 1 + 1 + 1 + 0 + 1 + 1 + 1 + 9 + 1 + 9 + 1 + 30 + 1 + 30) (6, 0)) (N + 1 + 1 + 1 + 0 + 1 + 1 + 1 + 9 + 1 + 9 + 1 + 30 + 1 + 30 + 1) ((N + 1 + 1 + 1 + 0 + 1 + 1 + 1 + 9 + 1 + 9 + 1 + 30 + 1 + 30)) v20 _ hσ21) kw_191 kw_8 kw_189 rfl kw_190 hyX1_init (Nat.le_of_ble_eq_true rfl) (Nat.le_of_ble_eq_true rfl) rfl rfl (Nat.le_of_ble_eq_true rfl) dX9_init_109 (Nat.le_of_ble_eq_true rfl) (Nat.le_of_ble_eq_true rfl) ?_
  obtain ⟨σ22, hσ22, hf⟩ := zbind hf
  refine z_putF (cn := (.object "BarrierFlow$Flow")) (Cn := RX9) (T := TX9) (Nf := 10) (k := 8) (j := 6) C hi hσ22 rfl rfl zin_8 (by decide) kw_453 rfl tyX9 tyX9_ok nmX9 rfl rfl (by decide +kernel) rfl rfl rfl dX9_init_112 ?_
  refine z_aload_n C dX9_init_115 rfl 0 rfl ?_
  refine z_newO (Cn := RX6) (T := TX6) (Nf := 3) (k := 6) C rfl rfl zin_6 tyX6 tyX6_ok kw_427 kw_428 kw_13 hdef_6 (Nat.le_of_ble_eq_true rfl) (Nat.le_of_ble_eq_true rfl) dX9_init_116 ?_
  refine z_dup C dX9_init_119 rfl ?_
  refine z_aload_n C dX9_init_120 rfl 0 rfl ?_
  obtain ⟨v23, hv23, hf⟩ := zbind hf
  refine z_gR (Cn := RX9) (T := TX9) (Nf := 10) (k := 8) (j := 8) C hv23 rfl rfl zin_8 (by decide) kw_455 rfl rfl dX9_init_121 ?_
  obtain ⟨σ24, hσ24, hf⟩ := zbind hf
  refine z_callN (As := [.ref v23]) C (nX6_init l D Ca B En C.2.2.2.2.2.2.2.1 ev hZ hAO (znew σ22 (N + 1 + 1 + 1 + 0 + 1 + 1 + 1 + 9 + 1 + 9 + 1 + 30 + 1 + 30 + 1 + 30) (11, 0)) (N + 1 + 1 + 1 + 0 + 1 + 1 + 1 + 9 + 1 + 9 + 1 + 30 + 1 + 30 + 1 + 30 + 1) ((N + 1 + 1 + 1 + 0 + 1 + 1 + 1 + 9 + 1 + 9 + 1 + 30 + 1 + 30 + 1 + 30)) v23 _ hσ24) kw_431 kw_13 kw_429 rfl kw_430 hyX6_init (Nat.le_of_ble_eq_true rfl) (Nat.le_of_ble_eq_true rfl) rfl rfl (Nat.le_of_ble_eq_true rfl) dX9_init_124 (Nat.le_of_ble_eq_true rfl) (Nat.le_of_ble_eq_true rfl) ?_
  obtain ⟨σ25, hσ25, hf⟩ := zbind hf
  refine z_putF (cn := (.object "BarrierFlow$Past")) (Cn := RX9) (T := TX9) (Nf := 10) (k := 8) (j := 3) C hi hσ25 rfl rfl zin_8 (by decide) kw_450 rfl tyX9 tyX9_ok nmX9 rfl rfl (by decide +kernel) rfl rfl rfl dX9_init_127 ?_
  cases hf
  exact zfin_n C hr (by omega) (Nat.le_of_ble_eq_true rfl) (Nat.le_of_ble_eq_true rfl) dX9_init_130
