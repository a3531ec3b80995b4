/-! SETUP: the drawn text is made. -/
theorem dL_setup_0 : decode cL_setup 0 = .ok (.new 47, 3) := by decide +kernel
theorem dL_setup_3 : decode cL_setup 3 = .ok (.dup, 1) := by decide +kernel
theorem dL_setup_4 : decode cL_setup 4 = .ok (.invokespecial 49, 3) := by decide +kernel
theorem dL_setup_7 : decode cL_setup 7 = .ok (.astore_n 1, 1) := by decide +kernel
theorem dL_setup_8 : decode cL_setup 8 = .ok (.aload_n 0, 1) := by decide +kernel
theorem dL_setup_9 : decode cL_setup 9 = .ok (.iconst 0, 1) := by decide +kernel
theorem dL_setup_10 : decode cL_setup 10 = .ok (.iconst 1, 1) := by decide +kernel
theorem dL_setup_11 : decode cL_setup 11 = .ok (.iconst 3, 1) := by decide +kernel
theorem dL_setup_12 : decode cL_setup 12 = .ok (.invokestatic 50, 3) := by decide +kernel
theorem dL_setup_15 : decode cL_setup 15 = .ok (.istore_n 2, 1) := by decide +kernel
theorem dL_setup_16 : decode cL_setup 16 = .ok (.iconst 0, 1) := by decide +kernel
theorem dL_setup_17 : decode cL_setup 17 = .ok (.istore_n 3, 1) := by decide +kernel
theorem dL_setup_18 : decode cL_setup 18 = .ok (.iload_n 3, 1) := by decide +kernel
theorem dL_setup_19 : decode cL_setup 19 = .ok (.iload_n 2, 1) := by decide +kernel
theorem dL_setup_20 : decode cL_setup 20 = .ok (.if_icmp .ge 83, 3) := by decide +kernel
theorem dL_setup_23 : decode cL_setup 23 = .ok (.aload_n 1, 1) := by decide +kernel
theorem dL_setup_24 : decode cL_setup 24 = .ok (.ldc 54, 2) := by decide +kernel
theorem dL_setup_26 : decode cL_setup 26 = .ok (.invokevirtual 56, 3) := by decide +kernel
theorem dL_setup_29 : decode cL_setup 29 = .ok (.bipush 97, 2) := by decide +kernel
theorem dL_setup_31 : decode cL_setup 31 = .ok (.iload_n 3, 1) := by decide +kernel
theorem dL_setup_32 : decode cL_setup 32 = .ok (.iadd, 1) := by decide +kernel
theorem dL_setup_33 : decode cL_setup 33 = .ok (.i2c, 1) := by decide +kernel
theorem dL_setup_34 : decode cL_setup 34 = .ok (.invokevirtual 60, 3) := by decide +kernel
theorem dL_setup_37 : decode cL_setup 37 = .ok (.ldc 63, 2) := by decide +kernel
theorem dL_setup_39 : decode cL_setup 39 = .ok (.invokevirtual 56, 3) := by decide +kernel
theorem dL_setup_42 : decode cL_setup 42 = .ok (.aload_n 0, 1) := by decide +kernel
theorem dL_setup_43 : decode cL_setup 43 = .ok (.iconst 1, 1) := by decide +kernel
theorem dL_setup_44 : decode cL_setup 44 = .ok (.iload_n 3, 1) := by decide +kernel
theorem dL_setup_45 : decode cL_setup 45 = .ok (.iadd, 1) := by decide +kernel
theorem dL_setup_46 : decode cL_setup 46 = .ok (.iconst 0, 1) := by decide +kernel
theorem dL_setup_47 : decode cL_setup 47 = .ok (.bipush 40, 2) := by decide +kernel
theorem dL_setup_49 : decode cL_setup 49 = .ok (.invokestatic 50, 3) := by decide +kernel
theorem dL_setup_52 : decode cL_setup 52 = .ok (.invokevirtual 65, 3) := by decide +kernel
theorem dL_setup_55 : decode cL_setup 55 = .ok (.ldc 68, 2) := by decide +kernel
theorem dL_setup_57 : decode cL_setup 57 = .ok (.invokevirtual 56, 3) := by decide +kernel
theorem dL_setup_60 : decode cL_setup 60 = .ok (.aload_n 0, 1) := by decide +kernel
theorem dL_setup_61 : decode cL_setup 61 = .ok (.iconst 4, 1) := by decide +kernel
theorem dL_setup_62 : decode cL_setup 62 = .ok (.iload_n 3, 1) := by decide +kernel
theorem dL_setup_63 : decode cL_setup 63 = .ok (.iadd, 1) := by decide +kernel
theorem dL_setup_64 : decode cL_setup 64 = .ok (.iconst 0, 1) := by decide +kernel
theorem dL_setup_65 : decode cL_setup 65 = .ok (.bipush 99, 2) := by decide +kernel
theorem dL_setup_67 : decode cL_setup 67 = .ok (.invokestatic 50, 3) := by decide +kernel
theorem dL_setup_70 : decode cL_setup 70 = .ok (.invokevirtual 65, 3) := by decide +kernel
theorem dL_setup_73 : decode cL_setup 73 = .ok (.ldc 70, 2) := by decide +kernel
theorem dL_setup_75 : decode cL_setup 75 = .ok (.invokevirtual 56, 3) := by decide +kernel
theorem dL_setup_78 : decode cL_setup 78 = .ok (.aload_n 0, 1) := by decide +kernel
theorem dL_setup_79 : decode cL_setup 79 = .ok (.bipush 7, 2) := by decide +kernel
theorem dL_setup_81 : decode cL_setup 81 = .ok (.iload_n 3, 1) := by decide +kernel
theorem dL_setup_82 : decode cL_setup 82 = .ok (.iadd, 1) := by decide +kernel
theorem dL_setup_83 : decode cL_setup 83 = .ok (.iconst 0, 1) := by decide +kernel
theorem dL_setup_84 : decode cL_setup 84 = .ok (.iconst 5, 1) := by decide +kernel
theorem dL_setup_85 : decode cL_setup 85 = .ok (.invokestatic 50, 3) := by decide +kernel
theorem dL_setup_88 : decode cL_setup 88 = .ok (.invokevirtual 65, 3) := by decide +kernel
theorem dL_setup_91 : decode cL_setup 91 = .ok (.bipush 59, 2) := by decide +kernel
theorem dL_setup_93 : decode cL_setup 93 = .ok (.invokevirtual 60, 3) := by decide +kernel
theorem dL_setup_96 : decode cL_setup 96 = .ok (.pop, 1) := by decide +kernel
theorem dL_setup_97 : decode cL_setup 97 = .ok (.iinc 3 1, 3) := by decide +kernel
theorem dL_setup_100 : decode cL_setup 100 = .ok (.goto (-82), 3) := by decide +kernel
theorem dL_setup_103 : decode cL_setup 103 = .ok (.aload_n 1, 1) := by decide +kernel
theorem dL_setup_104 : decode cL_setup 104 = .ok (.ldc 72, 2) := by decide +kernel
theorem dL_setup_106 : decode cL_setup 106 = .ok (.invokevirtual 56, 3) := by decide +kernel
theorem dL_setup_109 : decode cL_setup 109 = .ok (.aload_n 0, 1) := by decide +kernel
theorem dL_setup_110 : decode cL_setup 110 = .ok (.bipush 10, 2) := by decide +kernel
theorem dL_setup_112 : decode cL_setup 112 = .ok (.iconst 1, 1) := by decide +kernel
theorem dL_setup_113 : decode cL_setup 113 = .ok (.iconst 4, 1) := by decide +kernel
theorem dL_setup_114 : decode cL_setup 114 = .ok (.invokestatic 50, 3) := by decide +kernel
theorem dL_setup_117 : decode cL_setup 117 = .ok (.invokevirtual 65, 3) := by decide +kernel
theorem dL_setup_120 : decode cL_setup 120 = .ok (.ldc 74, 2) := by decide +kernel
theorem dL_setup_122 : decode cL_setup 122 = .ok (.invokevirtual 56, 3) := by decide +kernel
theorem dL_setup_125 : decode cL_setup 125 = .ok (.aload_n 0, 1) := by decide +kernel
theorem dL_setup_126 : decode cL_setup 126 = .ok (.bipush 11, 2) := by decide +kernel
theorem dL_setup_128 : decode cL_setup 128 = .ok (.iconst 1, 1) := by decide +kernel
theorem dL_setup_129 : decode cL_setup 129 = .ok (.iconst 2, 1) := by decide +kernel
theorem dL_setup_130 : decode cL_setup 130 = .ok (.invokestatic 50, 3) := by decide +kernel
theorem dL_setup_133 : decode cL_setup 133 = .ok (.invokevirtual 65, 3) := by decide +kernel
theorem dL_setup_136 : decode cL_setup 136 = .ok (.ldc 76, 2) := by decide +kernel
theorem dL_setup_138 : decode cL_setup 138 = .ok (.invokevirtual 56, 3) := by decide +kernel
theorem dL_setup_141 : decode cL_setup 141 = .ok (.aload_n 0, 1) := by decide +kernel
theorem dL_setup_142 : decode cL_setup 142 = .ok (.bipush 12, 2) := by decide +kernel
theorem dL_setup_144 : decode cL_setup 144 = .ok (.iconst 1, 1) := by decide +kernel
theorem dL_setup_145 : decode cL_setup 145 = .ok (.iconst 4, 1) := by decide +kernel
theorem dL_setup_146 : decode cL_setup 146 = .ok (.invokestatic 50, 3) := by decide +kernel
theorem dL_setup_149 : decode cL_setup 149 = .ok (.invokevirtual 65, 3) := by decide +kernel
theorem dL_setup_152 : decode cL_setup 152 = .ok (.ldc 78, 2) := by decide +kernel
theorem dL_setup_154 : decode cL_setup 154 = .ok (.invokevirtual 56, 3) := by decide +kernel
theorem dL_setup_157 : decode cL_setup 157 = .ok (.aload_n 0, 1) := by decide +kernel
theorem dL_setup_158 : decode cL_setup 158 = .ok (.bipush 13, 2) := by decide +kernel
theorem dL_setup_160 : decode cL_setup 160 = .ok (.iconst 0, 1) := by decide +kernel
theorem dL_setup_161 : decode cL_setup 161 = .ok (.bipush 12, 2) := by decide +kernel
theorem dL_setup_163 : decode cL_setup 163 = .ok (.invokestatic 50, 3) := by decide +kernel
theorem dL_setup_166 : decode cL_setup 166 = .ok (.invokevirtual 65, 3) := by decide +kernel
theorem dL_setup_169 : decode cL_setup 169 = .ok (.bipush 59, 2) := by decide +kernel
theorem dL_setup_171 : decode cL_setup 171 = .ok (.invokevirtual 60, 3) := by decide +kernel
theorem dL_setup_174 : decode cL_setup 174 = .ok (.pop, 1) := by decide +kernel
theorem dL_setup_175 : decode cL_setup 175 = .ok (.aload_n 1, 1) := by decide +kernel
theorem dL_setup_176 : decode cL_setup 176 = .ok (.aload_n 0, 1) := by decide +kernel
theorem dL_setup_177 : decode cL_setup 177 = .ok (.bipush 14, 2) := by decide +kernel
theorem dL_setup_179 : decode cL_setup 179 = .ok (.iconst 0, 1) := by decide +kernel
theorem dL_setup_180 : decode cL_setup 180 = .ok (.iconst 1, 1) := by decide +kernel
theorem dL_setup_181 : decode cL_setup 181 = .ok (.invokestatic 50, 3) := by decide +kernel
theorem dL_setup_184 : decode cL_setup 184 = .ok (.ifCond .ne 8, 3) := by decide +kernel
theorem dL_setup_187 : decode cL_setup 187 = .ok (.ldc 80, 2) := by decide +kernel
theorem dL_setup_189 : decode cL_setup 189 = .ok (.goto 5, 3) := by decide +kernel
theorem dL_setup_192 : decode cL_setup 192 = .ok (.ldc 82, 2) := by decide +kernel
theorem dL_setup_194 : decode cL_setup 194 = .ok (.invokevirtual 56, 3) := by decide +kernel
theorem dL_setup_197 : decode cL_setup 197 = .ok (.invokevirtual 84, 3) := by decide +kernel
theorem dL_setup_200 : decode cL_setup 200 = .ok (.areturn, 1) := by decide +kernel
theorem kw_1127 : (Jvm.Cond.methodLink "BarrierFlowLaw" (84 : Nat) ({ cls := "java/lang/StringBuilder", name := "toString", desc := "()Ljava/lang/String;" } : Jvm.MethodName)) ∈ zTb := zTb_of 1127 (by decide +kernel) (by decide +kernel)
theorem kw_1128 : (Jvm.Cond.instanceMethod ({ cls := "java/lang/StringBuilder", name := "toString", desc := "()Ljava/lang/String;" } : Jvm.MethodName)) ∈ zTb := zTb_of 1128 (by decide +kernel) (by decide +kernel)
theorem kw_1130 : (Jvm.Cond.code ({ cls := "java/lang/StringBuilder", name := "toString", desc := "()Ljava/lang/String;" } : Jvm.MethodName) prog_29_method_42_code (1 : Nat) (Option.some (Jvm.ClassFile.FieldType.object "java/lang/String"))) ∈ zTb := zTb_of 1130 (by decide +kernel) (by decide +kernel)
theorem kw_1129 : (Jvm.Cond.selects "java/lang/StringBuilder" ({ cls := "java/lang/StringBuilder", name := "toString", desc := "()Ljava/lang/String;" } : Jvm.MethodName) ({ cls := "java/lang/StringBuilder", name := "toString", desc := "()Ljava/lang/String;" } : Jvm.MethodName)) ∈ zTb := zTb_of 1129 (by decide +kernel) (by decide +kernel)
theorem hyJ4_toString_0e30d : yJ4_toString_0e30d.cls ≠ "java/lang/invoke/MethodHandle" ∧ yJ4_toString_0e30d.cls ≠ "java/lang/invoke/VarHandle" ∧ (parseMethodDescriptor yJ4_toString_0e30d.desc).map (fun d => d.parameters.length) = some 0 := ⟨by decide +kernel, by decide +kernel, by decide +kernel⟩
theorem kw_983 : (Jvm.Cond.methodLink "BarrierFlowLaw" (56 : Nat) ({ cls := "java/lang/StringBuilder", name := "append", desc := "(Ljava/lang/String;)Ljava/lang/StringBuilder;" } : Jvm.MethodName)) ∈ zTb := zTb_of 983 (by decide +kernel) (by decide +kernel)
theorem kw_984 : (Jvm.Cond.instanceMethod ({ cls := "java/lang/StringBuilder", name := "append", desc := "(Ljava/lang/String;)Ljava/lang/StringBuilder;" } : Jvm.MethodName)) ∈ zTb := zTb_of 984 (by decide +kernel) (by decide +kernel)
theorem kw_986 : (Jvm.Cond.code ({ cls := "java/lang/StringBuilder", name := "append", desc := "(Ljava/lang/String;)Ljava/lang/StringBuilder;" } : Jvm.MethodName) prog_29_method_7_code (2 : Nat) (Option.some (Jvm.ClassFile.FieldType.object "java/lang/StringBuilder"))) ∈ zTb := zTb_of 986 (by decide +kernel) (by decide +kernel)
theorem kw_985 : (Jvm.Cond.selects "java/lang/StringBuilder" ({ cls := "java/lang/StringBuilder", name := "append", desc := "(Ljava/lang/String;)Ljava/lang/StringBuilder;" } : Jvm.MethodName) ({ cls := "java/lang/StringBuilder", name := "append", desc := "(Ljava/lang/String;)Ljava/lang/StringBuilder;" } : Jvm.MethodName)) ∈ zTb := zTb_of 985 (by decide +kernel) (by decide +kernel)
theorem hyJ4_append_15ec4 : yJ4_append_15ec4.cls ≠ "java/lang/invoke/MethodHandle" ∧ yJ4_append_15ec4.cls ≠ "java/lang/invoke/VarHandle" ∧ (parseMethodDescriptor yJ4_append_15ec4.desc).map (fun d => d.parameters.length) = some 1 := ⟨by decide +kernel, by decide +kernel, by decide +kernel⟩
theorem kw_1094 : (Jvm.Cond.methodLink "BarrierFlowLaw" (65 : Nat) ({ cls := "java/lang/StringBuilder", name := "append", desc := "(I)Ljava/lang/StringBuilder;" } : Jvm.MethodName)) ∈ zTb := zTb_of 1094 (by decide +kernel) (by decide +kernel)
theorem kw_1095 : (Jvm.Cond.instanceMethod ({ cls := "java/lang/StringBuilder", name := "append", desc := "(I)Ljava/lang/StringBuilder;" } : Jvm.MethodName)) ∈ zTb := zTb_of 1095 (by decide +kernel) (by decide +kernel)
theorem kw_1097 : (Jvm.Cond.code ({ cls := "java/lang/StringBuilder", name := "append", desc := "(I)Ljava/lang/StringBuilder;" } : Jvm.MethodName) prog_29_method_15_code (2 : Nat) (Option.some (Jvm.ClassFile.FieldType.object "java/lang/StringBuilder"))) ∈ zTb := zTb_of 1097 (by decide +kernel) (by decide +kernel)
theorem kw_1096 : (Jvm.Cond.selects "java/lang/StringBuilder" ({ cls := "java/lang/StringBuilder", name := "append", desc := "(I)Ljava/lang/StringBuilder;" } : Jvm.MethodName) ({ cls := "java/lang/StringBuilder", name := "append", desc := "(I)Ljava/lang/StringBuilder;" } : Jvm.MethodName)) ∈ zTb := zTb_of 1096 (by decide +kernel) (by decide +kernel)
theorem hyJ4_append_bf812 : yJ4_append_bf812.cls ≠ "java/lang/invoke/MethodHandle" ∧ yJ4_append_bf812.cls ≠ "java/lang/invoke/VarHandle" ∧ (parseMethodDescriptor yJ4_append_bf812.desc).map (fun d => d.parameters.length) = some 1 := ⟨by decide +kernel, by decide +kernel, by decide +kernel⟩
theorem kw_1080 : (Jvm.Cond.methodLink "BarrierFlowLaw" (60 : Nat) ({ cls := "java/lang/StringBuilder", name := "append", desc := "(C)Ljava/lang/StringBuilder;" } : Jvm.MethodName)) ∈ zTb := zTb_of 1080 (by decide +kernel) (by decide +kernel)
theorem kw_1081 : (Jvm.Cond.instanceMethod ({ cls := "java/lang/StringBuilder", name := "append", desc := "(C)Ljava/lang/StringBuilder;" } : Jvm.MethodName)) ∈ zTb := zTb_of 1081 (by decide +kernel) (by decide +kernel)
theorem kw_1083 : (Jvm.Cond.code ({ cls := "java/lang/StringBuilder", name := "append", desc := "(C)Ljava/lang/StringBuilder;" } : Jvm.MethodName) prog_29_method_14_code (2 : Nat) (Option.some (Jvm.ClassFile.FieldType.object "java/lang/StringBuilder"))) ∈ zTb := zTb_of 1083 (by decide +kernel) (by decide +kernel)
theorem kw_1082 : (Jvm.Cond.selects "java/lang/StringBuilder" ({ cls := "java/lang/StringBuilder", name := "append", desc := "(C)Ljava/lang/StringBuilder;" } : Jvm.MethodName) ({ cls := "java/lang/StringBuilder", name := "append", desc := "(C)Ljava/lang/StringBuilder;" } : Jvm.MethodName)) ∈ zTb := zTb_of 1082 (by decide +kernel) (by decide +kernel)
theorem hyJ4_append_cf468 : yJ4_append_cf468.cls ≠ "java/lang/invoke/MethodHandle" ∧ yJ4_append_cf468.cls ≠ "java/lang/invoke/VarHandle" ∧ (parseMethodDescriptor yJ4_append_cf468.desc).map (fun d => d.parameters.length) = some 1 := ⟨by decide +kernel, by decide +kernel, by decide +kernel⟩
theorem kw_952 : (Jvm.Cond.classLink "BarrierFlowLaw" (47 : Nat) "java/lang/StringBuilder") ∈ zTb := zTb_of 952 (by decide +kernel) (by decide +kernel)
theorem kw_953 : (Jvm.Cond.instantiable "java/lang/StringBuilder" (4 : Nat)) ∈ zTb := zTb_of 953 (by decide +kernel) (by decide +kernel)
theorem kw_954 : (Jvm.Cond.methodLink "BarrierFlowLaw" (49 : Nat) ({ cls := "java/lang/StringBuilder", name := "<init>", desc := "()V" } : Jvm.MethodName)) ∈ zTb := zTb_of 954 (by decide +kernel) (by decide +kernel)
theorem kw_955 : (Jvm.Cond.instanceMethod ({ cls := "java/lang/StringBuilder", name := "<init>", desc := "()V" } : Jvm.MethodName)) ∈ zTb := zTb_of 955 (by decide +kernel) (by decide +kernel)
theorem kw_956 : (Jvm.Cond.code ({ cls := "java/lang/StringBuilder", name := "<init>", desc := "()V" } : Jvm.MethodName) prog_29_method_1_code (1 : Nat) (Option.none : Option Jvm.ClassFile.FieldType)) ∈ zTb := zTb_of 956 (by decide +kernel) (by decide +kernel)
theorem hyJ4_init_da8c8 : yJ4_init_da8c8.cls ≠ "java/lang/invoke/MethodHandle" ∧ yJ4_init_da8c8.cls ≠ "java/lang/invoke/VarHandle" ∧ (parseMethodDescriptor yJ4_init_da8c8.desc).map (fun d => d.parameters.length) = some 0 := ⟨by decide +kernel, by decide +kernel, by decide +kernel⟩

theorem dgt_len (v : Nat) : (dgt v).length ≤ 2 := by
  unfold dgt
  split <;> simp
/-- what setup's text is -/
def xN (xs : Nat → Int32) (L : Nat) : Nat := (dr xs L 0 1 3).toNat
def xA (xs : Nat → Int32) (L k : Nat) : Nat := (dr xs L (1 + k) 0 40).toNat
def xB (xs : Nat → Int32) (L k : Nat) : Nat := (dr xs L (4 + k) 0 99).toNat
def xC (xs : Nat → Int32) (L k : Nat) : Nat := (dr xs L (7 + k) 0 5).toNat
def xM (xs : Nat → Int32) (L : Nat) : Nat := (dr xs L 10 1 4).toNat
def xS (xs : Nat → Int32) (L : Nat) : Nat := (dr xs L 11 1 2).toNat
def xR (xs : Nat → Int32) (L : Nat) : Nat := (dr xs L 12 1 4).toNat
def xE (xs : Nat → Int32) (L : Nat) : Nat := (dr xs L 13 0 12).toNat
def xO (xs : Nat → Int32) (L : Nat) : List Int32 := if dr xs L 14 0 1 = 0 then zlT 8 else zlT 9
def xT (xs : Nat → Int32) (L : Nat) : List Int32 := ssrc (xA xs L) (xB xs L) (xC xs L) (xN xs L) ++ stail (xM xs L) (xS xs L) (xR xs L) (xE xs L) (xO xs L)
theorem dr_nat (xs : Nat → Int32) (L k : Nat) {lo hi : Int} (h0 : 0 ≤ lo) (h : lo ≤ hi) : dr xs L k lo hi = ((dr xs L k lo hi).toNat : Nat) := by
  have := dr_in xs L k h
  omega
theorem zi_c16 {k : Nat} (h : k < 100) : (((zi 97 + zi (k : Nat)).toUInt32) % 65536).toInt32 = zi ((97 + k : Nat) : Int) ∨ 28 ≤ k := by
  by_cases q : 28 ≤ k
  · exact Or.inr q
  · refine Or.inl ?_
    rw [zi_add, show (97 : Int) + (k : Nat) = ((97 + k : Nat) : Int) from by omega, zi_nI]
    exact c16_128 (by omega)
section SU
variable {D : va_G} {Ca : Nat → ClassId} {B : Nat} {En : State → Prop} {b L : Nat} {xs : Nat → Int32}
/-- the answer of setup -/
def KTX (tx : List Int32) (lo : Nat) (σ τ : zS) (r N2 : Nat) : Prop := (∃ sd, SA τ r sd tx ∧ lo ≤ sd ∧ sd < N2) ∧ lo ≤ r ∧ r < N2 ∧ zeq σ τ 0 lo ∧ zfree τ N2
set_option maxRecDepth 100000 in
set_option maxHeartbeats 8000000 in
theorem mL_setup (l : Launch) (hE : zEk B En) (ev : zEv) (hZ : ∀ U : State, En U → zEnv ev B U) (hP : ∀ U : State, En U → zSl U) (dg : Nat × Nat) (hG : ∀ U : State, En U → zDg dg B U) (hY : ∀ U, En U → zLS U B b L xs) (σ : zS) (N : Nat) (hz : zfree σ N) : zMKr l D Ca B En yL_setup cL_setup 4 (Option.some (Jvm.ClassFile.FieldType.object "java/lang/String")) 6 177 41 23100 [.ref b] σ N (KTX (xT xs L) N σ) := by
  refine zMet_Kr (own := RL) hE (by decide +kernel) rfl (Nat.le_of_ble_eq_true rfl) (fun p e s m args below meth c C hr hi => ?_)
  have lT : ∀ i, i < 10 → (zsByt.getD (9 + i) []).length ≤ 10 := by decide
  have tT : ∀ i, i < 10 → zsByt.getD (9 + i) [] = zlT i := by decide
  have hn := dr_in xs L 0 (lo := 1) (hi := 3) (by omega)
  have hA : ∀ k, xA xs L k ≤ 40 := fun k => by have := dr_in xs L (1 + k) (lo := 0) (hi := 40) (by omega); unfold xA; omega
  have hB0 : ∀ k, xB xs L k ≤ 99 := fun k => by have := dr_in xs L (4 + k) (lo := 0) (hi := 99) (by omega); unfold xB; omega
  have hC : ∀ k, xC xs L k ≤ 5 := fun k => by have := dr_in xs L (7 + k) (lo := 0) (hi := 5) (by omega); unfold xC; omega
  have hM : xM xs L ≤ 4 := by have := dr_in xs L 10 (lo := 1) (hi := 4) (by omega); unfold xM; omega
  have hS : xS xs L ≤ 2 := by have := dr_in xs L 11 (lo := 1) (hi := 2) (by omega); unfold xS; omega
  have hR : xR xs L ≤ 4 := by have := dr_in xs L 12 (lo := 1) (hi := 4) (by omega); unfold xR; omega
  have hV : xE xs L ≤ 12 := by have := dr_in xs L 13 (lo := 0) (hi := 12) (by omega); unfold xE; omega
  have hO := dr_in xs L 14 (lo := 0) (hi := 1) (by omega)
  have eN : (xN xs L : Int) = dr xs L 0 1 3 := by unfold xN; omega
  have hN3 : xN xs L ≤ 3 := by unfold xN; omega
  have fin : ∀ (τ : zS) (N2 cells slots : Nat) (tx : List Int32) (k0 : Nat), SBn τ N2 N N tx k0 → zfree τ N2 → N ≤ N2 → zeq σ τ 0 N → tx.length ≤ 240 → tx = xT xs L → cells ≤ 39 → slots ≤ 22400 →
      zW p l e (zRoomN 6 177 41 23100) s m args below meth c cells slots (MQ below (va_Qr (fun (u : zS × Nat × Nat) => KTX (xT xs L) N σ u.1 u.2.2 u.2.1 ∧ N ≤ u.2.1) (fun u a U => a = u.2.2 ∧ zIn D Ca B En u.1 u.2.1 U) (zA B)) args s 41 23100 (zA B)) D Ca B 4 τ N2 197 [(0, .ref b), (1, .ref N)] [.ref N] := by
    intro τ N2 cells slots tx k0 h1 h2 h3 h4 h5 h6 hc hs
    refine z_callBr (As := []) C (mJ4_toString l C.2.2.2.2.2.2.2.1 ev hZ hP τ N2 h1 h2 h3) kw_1130 kw_15 kw_1127 (SBn_k h1) kw_1128 (C.2.2.2.1 _ kw_1129) hyJ4_toString_0e30d (Nat.le_of_ble_eq_true rfl) (Nat.le_of_ble_eq_true rfl) rfl rfl (Nat.le_of_ble_eq_true rfl) dL_setup_197 (by show _ ≤ 41; omega) (by show _ ≤ 23100; omega) (fun υ r N3 hK hN => ?_)
    subst h6
    exact zfin_Kr (K := KTX (xT xs L) N σ) C ⟨hK.1, hK.2.1, hK.2.2.1, zeq_tr h4 hK.2.2.2.1, hK.2.2.2.2⟩ hr (Or.inl ⟨_, rfl⟩) (by omega) (by omega) (by omega) dL_setup_200
  have tail : ∀ (τ : zS) (N2 cells slots : Nat) (k0 : Nat), SBn τ N2 N N (ssrc (xA xs L) (xB xs L) (xC xs L) (xN xs L)) k0 → zfree τ N2 → N ≤ N2 → zeq σ τ 0 N → (ssrc (xA xs L) (xB xs L) (xC xs L) (xN xs L)).length ≤ 150 → cells ≤ 29 → slots ≤ 16300 →
      zW p l e (zRoomN 6 177 41 23100) s m args below meth c cells slots (MQ below (va_Qr (fun (u : zS × Nat × Nat) => KTX (xT xs L) N σ u.1 u.2.2 u.2.1 ∧ N ≤ u.2.1) (fun u a U => a = u.2.2 ∧ zIn D Ca B En u.1 u.2.1 U) (zA B)) args s 41 23100 (zA B)) D Ca B 4 τ N2 103 [(0, .ref b), (1, .ref N)] [] := by
    intro τ N2 cells slots k0 h1 h2 h3 h4 h5 hc hs
    obtain ⟨x0, ex0, lx0⟩ : ∃ t, t = ssrc (xA xs L) (xB xs L) (xC xs L) (xN xs L) ∧ t.length ≤ 150 := ⟨_, rfl, h5⟩
    rw [← ex0] at h1
    refine z_aload_n C dL_setup_103 rfl 1 rfl ?_
    refine z_ldcS C ev hZ 4 (by decide) rfl dL_setup_104 ?_
    refine z_callBr (As := [.ref (ev.2.1 (9 + 4))]) C (mJ4_appendT l C.2.2.2.2.2.2.2.1 ev hZ hP τ N2 (t := 9 + 4) h1 h2 (by omega) (by have h10 := lT 4 (by omega); omega) (by omega)) kw_986 kw_15 kw_983 (SBn_k h1) kw_984 (C.2.2.2.1 _ kw_985) hyJ4_append_15ec4 (Nat.le_of_ble_eq_true rfl) (Nat.le_of_ble_eq_true rfl) rfl rfl (Nat.le_of_ble_eq_true rfl) dL_setup_106 (by show _ ≤ 41; omega) (by show _ ≤ 23100; omega) (fun t1 r1 N1 hK1 hN1 => ?_)
    obtain ⟨e1, hB1, hq1, hz1⟩ := hK1
    rw [e1]
    obtain ⟨x1, ex1, lx1⟩ : ∃ t, t = x0 ++ zsByt.getD (9 + 4) [] ∧ t.length ≤ 150 + 10 := ⟨_, rfl, by rw [List.length_append]; have h10 := lT 4 (by omega); omega⟩
    rw [← ex1] at hB1
    refine z_aload_n C dL_setup_109 rfl 0 rfl ?_
    refine z_bipush C (zi 10) dL_setup_110 (by decide) ?_
    refine z_iconst C (zi 1) dL_setup_112 (by decide) ?_
    refine z_iconst C (zi 4) dL_setup_113 (by decide) ?_
    refine z_callSi (As := [.ref b, .int (zi ((10 : Nat) : Int)), .int (zi 1), .int (zi 4)]) (st := [.ref N]) (F0 := 6) (L0 := 177) C (mL_draw l C.2.2.2.2.2.2.2.1 hY t1 N1 (10) (by omega) (by omega) (by omega) (by omega)) ⟨Nat.le_refl _, Nat.le_refl _, by show _ ≤ 41; omega, by show _ ≤ 23100; omega⟩ kw_776 kw_0 kw_774 kw_775 hyL_draw (Nat.le_of_ble_eq_true rfl) (Nat.le_of_ble_eq_true rfl) rfl rfl (Nat.le_of_ble_eq_true rfl) dL_setup_114 ?_
    rw [dr_nat xs L (10) (lo := 1) (hi := 4) (by omega) (by omega)]
    refine z_callBr (As := [.int (zi (xM xs L : Nat))]) C (mJ4_appendI l C.2.2.2.2.2.2.2.1 ev hZ hP dg hG t1 N1 (x := xM xs L) hB1 hz1 (by omega) (by omega) (by omega)) kw_1097 kw_15 kw_1094 (SBn_k hB1) kw_1095 (C.2.2.2.1 _ kw_1096) hyJ4_append_bf812 (Nat.le_of_ble_eq_true rfl) (Nat.le_of_ble_eq_true rfl) rfl rfl (Nat.le_of_ble_eq_true rfl) dL_setup_117 (by show _ ≤ 41; omega) (by show _ ≤ 23100; omega) (fun t2 r2 N2 hK2 hN2 => ?_)
    obtain ⟨e2, hB2, hq2, hz2⟩ := hK2
    rw [e2]
    obtain ⟨x2, ex2, lx2⟩ : ∃ t, t = x1 ++ dgt (xM xs L) ∧ t.length ≤ 150 + 10 + 2 := ⟨_, rfl, by rw [List.length_append]; have := dgt_len (xM xs L); omega⟩
    rw [← ex2] at hB2
    refine z_ldcS C ev hZ 5 (by decide) rfl dL_setup_120 ?_
    refine z_callBr (As := [.ref (ev.2.1 (9 + 5))]) C (mJ4_appendT l C.2.2.2.2.2.2.2.1 ev hZ hP t2 N2 (t := 9 + 5) hB2 hz2 (by omega) (by have h10 := lT 5 (by omega); omega) (by omega)) kw_986 kw_15 kw_983 (SBn_k hB2) kw_984 (C.2.2.2.1 _ kw_985) hyJ4_append_15ec4 (Nat.le_of_ble_eq_true rfl) (Nat.le_of_ble_eq_true rfl) rfl rfl (Nat.le_of_ble_eq_true rfl) dL_setup_122 (by show _ ≤ 41; omega) (by show _ ≤ 23100; omega) (fun t3 r3 N3 hK3 hN3 => ?_)
    obtain ⟨e3, hB3, hq3, hz3⟩ := hK3
    rw [e3]
    obtain ⟨x3, ex3, lx3⟩ : ∃ t, t = x2 ++ zsByt.getD (9 + 5) [] ∧ t.length ≤ 150 + 10 + 2 + 10 := ⟨_, rfl, by rw [List.length_append]; have h10 := lT 5 (by omega); omega⟩
    rw [← ex3] at hB3
    refine z_aload_n C dL_setup_125 rfl 0 rfl ?_
    refine z_bipush C (zi 11) dL_setup_126 (by decide) ?_
    refine z_iconst C (zi 1) dL_setup_128 (by decide) ?_
    refine z_iconst C (zi 2) dL_setup_129 (by decide) ?_
    refine z_callSi (As := [.ref b, .int (zi ((11 : Nat) : Int)), .int (zi 1), .int (zi 2)]) (st := [.ref N]) (F0 := 6) (L0 := 177) C (mL_draw l C.2.2.2.2.2.2.2.1 hY t3 N3 (11) (by omega) (by omega) (by omega) (by omega)) ⟨Nat.le_refl _, Nat.le_refl _, by show _ ≤ 41; omega, by show _ ≤ 23100; omega⟩ kw_776 kw_0 kw_774 kw_775 hyL_draw (Nat.le_of_ble_eq_true rfl) (Nat.le_of_ble_eq_true rfl) rfl rfl (Nat.le_of_ble_eq_true rfl) dL_setup_130 ?_
    rw [dr_nat xs L (11) (lo := 1) (hi := 2) (by omega) (by omega)]
    refine z_callBr (As := [.int (zi (xS xs L : Nat))]) C (mJ4_appendI l C.2.2.2.2.2.2.2.1 ev hZ hP dg hG t3 N3 (x := xS xs L) hB3 hz3 (by omega) (by omega) (by omega)) kw_1097 kw_15 kw_1094 (SBn_k hB3) kw_1095 (C.2.2.2.1 _ kw_1096) hyJ4_append_bf812 (Nat.le_of_ble_eq_true rfl) (Nat.le_of_ble_eq_true rfl) rfl rfl (Nat.le_of_ble_eq_true rfl) dL_setup_133 (by show _ ≤ 41; omega) (by show _ ≤ 23100; omega) (fun t4 r4 N4 hK4 hN4 => ?_)
    obtain ⟨e4, hB4, hq4, hz4⟩ := hK4
    rw [e4]
    obtain ⟨x4, ex4, lx4⟩ : ∃ t, t = x3 ++ dgt (xS xs L) ∧ t.length ≤ 150 + 10 + 2 + 10 + 2 := ⟨_, rfl, by rw [List.length_append]; have := dgt_len (xS xs L); omega⟩
    rw [← ex4] at hB4
    refine z_ldcS C ev hZ 6 (by decide) rfl dL_setup_136 ?_
    refine z_callBr (As := [.ref (ev.2.1 (9 + 6))]) C (mJ4_appendT l C.2.2.2.2.2.2.2.1 ev hZ hP t4 N4 (t := 9 + 6) hB4 hz4 (by omega) (by have h10 := lT 6 (by omega); omega) (by omega)) kw_986 kw_15 kw_983 (SBn_k hB4) kw_984 (C.2.2.2.1 _ kw_985) hyJ4_append_15ec4 (Nat.le_of_ble_eq_true rfl) (Nat.le_of_ble_eq_true rfl) rfl rfl (Nat.le_of_ble_eq_true rfl) dL_setup_138 (by show _ ≤ 41; omega) (by show _ ≤ 23100; omega) (fun t5 r5 N5 hK5 hN5 => ?_)
    obtain ⟨e5, hB5, hq5, hz5⟩ := hK5
    rw [e5]
    obtain ⟨x5, ex5, lx5⟩ : ∃ t, t = x4 ++ zsByt.getD (9 + 6) [] ∧ t.length ≤ 150 + 10 + 2 + 10 + 2 + 10 := ⟨_, rfl, by rw [List.length_append]; have h10 := lT 6 (by omega); omega⟩
    rw [← ex5] at hB5
    refine z_aload_n C dL_setup_141 rfl 0 rfl ?_
    refine z_bipush C (zi 12) dL_setup_142 (by decide) ?_
    refine z_iconst C (zi 1) dL_setup_144 (by decide) ?_
    refine z_iconst C (zi 4) dL_setup_145 (by decide) ?_
    refine z_callSi (As := [.ref b, .int (zi ((12 : Nat) : Int)), .int (zi 1), .int (zi 4)]) (st := [.ref N]) (F0 := 6) (L0 := 177) C (mL_draw l C.2.2.2.2.2.2.2.1 hY t5 N5 (12) (by omega) (by omega) (by omega) (by omega)) ⟨Nat.le_refl _, Nat.le_refl _, by show _ ≤ 41; omega, by show _ ≤ 23100; omega⟩ kw_776 kw_0 kw_774 kw_775 hyL_draw (Nat.le_of_ble_eq_true rfl) (Nat.le_of_ble_eq_true rfl) rfl rfl (Nat.le_of_ble_eq_true rfl) dL_setup_146 ?_
    rw [dr_nat xs L (12) (lo := 1) (hi := 4) (by omega) (by omega)]
    refine z_callBr (As := [.int (zi (xR xs L : Nat))]) C (mJ4_appendI l C.2.2.2.2.2.2.2.1 ev hZ hP dg hG t5 N5 (x := xR xs L) hB5 hz5 (by omega) (by omega) (by omega)) kw_1097 kw_15 kw_1094 (SBn_k hB5) kw_1095 (C.2.2.2.1 _ kw_1096) hyJ4_append_bf812 (Nat.le_of_ble_eq_true rfl) (Nat.le_of_ble_eq_true rfl) rfl rfl (Nat.le_of_ble_eq_true rfl) dL_setup_149 (by show _ ≤ 41; omega) (by show _ ≤ 23100; omega) (fun t6 r6 N6 hK6 hN6 => ?_)
    obtain ⟨e6, hB6, hq6, hz6⟩ := hK6
    rw [e6]
    obtain ⟨x6, ex6, lx6⟩ : ∃ t, t = x5 ++ dgt (xR xs L) ∧ t.length ≤ 150 + 10 + 2 + 10 + 2 + 10 + 2 := ⟨_, rfl, by rw [List.length_append]; have := dgt_len (xR xs L); omega⟩
    rw [← ex6] at hB6
    refine z_ldcS C ev hZ 7 (by decide) rfl dL_setup_152 ?_
    refine z_callBr (As := [.ref (ev.2.1 (9 + 7))]) C (mJ4_appendT l C.2.2.2.2.2.2.2.1 ev hZ hP t6 N6 (t := 9 + 7) hB6 hz6 (by omega) (by have h10 := lT 7 (by omega); omega) (by omega)) kw_986 kw_15 kw_983 (SBn_k hB6) kw_984 (C.2.2.2.1 _ kw_985) hyJ4_append_15ec4 (Nat.le_of_ble_eq_true rfl) (Nat.le_of_ble_eq_true rfl) rfl rfl (Nat.le_of_ble_eq_true rfl) dL_setup_154 (by show _ ≤ 41; omega) (by show _ ≤ 23100; omega) (fun t7 r7 N7 hK7 hN7 => ?_)
    obtain ⟨e7, hB7, hq7, hz7⟩ := hK7
    rw [e7]
    obtain ⟨x7, ex7, lx7⟩ : ∃ t, t = x6 ++ zsByt.getD (9 + 7) [] ∧ t.length ≤ 150 + 10 + 2 + 10 + 2 + 10 + 2 + 10 := ⟨_, rfl, by rw [List.length_append]; have h10 := lT 7 (by omega); omega⟩
    rw [← ex7] at hB7
    refine z_aload_n C dL_setup_157 rfl 0 rfl ?_
    refine z_bipush C (zi 13) dL_setup_158 (by decide) ?_
    refine z_iconst C (zi 0) dL_setup_160 (by decide) ?_
    refine z_bipush C (zi 12) dL_setup_161 (by decide) ?_
    refine z_callSi (As := [.ref b, .int (zi ((13 : Nat) : Int)), .int (zi 0), .int (zi 12)]) (st := [.ref N]) (F0 := 6) (L0 := 177) C (mL_draw l C.2.2.2.2.2.2.2.1 hY t7 N7 (13) (by omega) (by omega) (by omega) (by omega)) ⟨Nat.le_refl _, Nat.le_refl _, by show _ ≤ 41; omega, by show _ ≤ 23100; omega⟩ kw_776 kw_0 kw_774 kw_775 hyL_draw (Nat.le_of_ble_eq_true rfl) (Nat.le_of_ble_eq_true rfl) rfl rfl (Nat.le_of_ble_eq_true rfl) dL_setup_163 ?_
    rw [dr_nat xs L (13) (lo := 0) (hi := 12) (by omega) (by omega)]
    refine z_callBr (As := [.int (zi (xE xs L : Nat))]) C (mJ4_appendI l C.2.2.2.2.2.2.2.1 ev hZ hP dg hG t7 N7 (x := xE xs L) hB7 hz7 (by omega) (by omega) (by omega)) kw_1097 kw_15 kw_1094 (SBn_k hB7) kw_1095 (C.2.2.2.1 _ kw_1096) hyJ4_append_bf812 (Nat.le_of_ble_eq_true rfl) (Nat.le_of_ble_eq_true rfl) rfl rfl (Nat.le_of_ble_eq_true rfl) dL_setup_166 (by show _ ≤ 41; omega) (by show _ ≤ 23100; omega) (fun t8 r8 N8 hK8 hN8 => ?_)
    obtain ⟨e8, hB8, hq8, hz8⟩ := hK8
    rw [e8]
    obtain ⟨x8, ex8, lx8⟩ : ∃ t, t = x7 ++ dgt (xE xs L) ∧ t.length ≤ 150 + 10 + 2 + 10 + 2 + 10 + 2 + 10 + 2 := ⟨_, rfl, by rw [List.length_append]; have := dgt_len (xE xs L); omega⟩
    rw [← ex8] at hB8
    refine z_bipush C (zi 59) dL_setup_169 (by decide) ?_
    refine z_callBr (As := [.int (zi 59)]) C (mJ4_appendC l C.2.2.2.2.2.2.2.1 ev hZ hP t8 N8 (k := 59) hB8 hz8 (by omega) (by omega) (by omega)) kw_1083 kw_15 kw_1080 (SBn_k hB8) kw_1081 (C.2.2.2.1 _ kw_1082) hyJ4_append_cf468 (Nat.le_of_ble_eq_true rfl) (Nat.le_of_ble_eq_true rfl) rfl rfl (Nat.le_of_ble_eq_true rfl) dL_setup_171 (by show _ ≤ 41; omega) (by show _ ≤ 23100; omega) (fun t9 r9 N9 hK9 hN9 => ?_)
    obtain ⟨e9, hB9, hq9, hz9⟩ := hK9
    rw [e9]
    obtain ⟨x9, ex9, lx9⟩ : ∃ t, t = x8 ++ [nI (59)] ∧ t.length ≤ 150 + 10 + 2 + 10 + 2 + 10 + 2 + 10 + 2 + 1 := ⟨_, rfl, by rw [List.length_append]; show _ + 1 ≤ _; omega⟩
    rw [← ex9] at hB9
    refine z_pop C dL_setup_174 rfl ?_
    refine z_aload_n C dL_setup_175 rfl 1 rfl ?_
    refine z_aload_n C dL_setup_176 rfl 0 rfl ?_
    refine z_bipush C (zi 14) dL_setup_177 (by decide) ?_
    refine z_iconst C (zi 0) dL_setup_179 (by decide) ?_
    refine z_iconst C (zi 1) dL_setup_180 (by decide) ?_
    refine z_callSi (As := [.ref b, .int (zi ((14 : Nat) : Int)), .int (zi 0), .int (zi 1)]) (st := [.ref N]) (F0 := 6) (L0 := 177) C (mL_draw l C.2.2.2.2.2.2.2.1 hY t9 N9 (14) (by omega) (by omega) (by omega) (by omega)) ⟨Nat.le_refl _, Nat.le_refl _, by show _ ≤ 41; omega, by show _ ≤ 23100; omega⟩ kw_776 kw_0 kw_774 kw_775 hyL_draw (Nat.le_of_ble_eq_true rfl) (Nat.le_of_ble_eq_true rfl) rfl rfl (Nat.le_of_ble_eq_true rfl) dL_setup_181 ?_
    rw [dr_nat xs L (14) (lo := 0) (hi := 1) (by omega) (by omega)]
    by_cases q9 : dr xs L 14 0 1 = 0
    · skip
      rw [show ((dr xs L 14 0 1).toNat : Int) = 0 from by omega]
      refine z_if_ne C 192 dL_setup_184 (by decide) (fun q => absurd (rfl) q) (fun _ => ?_)
      refine z_ldcS C ev hZ 8 (by decide) rfl dL_setup_187 ?_
      refine z_goto C 194 dL_setup_189 (by decide) ?_
      refine z_callBr (As := [.ref (ev.2.1 (9 + 8))]) C (mJ4_appendT l C.2.2.2.2.2.2.2.1 ev hZ hP t9 N9 (t := 9 + 8) hB9 hz9 (by omega) (by have h10 := lT 8 (by omega); omega) (by omega)) kw_986 kw_15 kw_983 (SBn_k hB9) kw_984 (C.2.2.2.1 _ kw_985) hyJ4_append_15ec4 (Nat.le_of_ble_eq_true rfl) (Nat.le_of_ble_eq_true rfl) rfl rfl (Nat.le_of_ble_eq_true rfl) dL_setup_194 (by show _ ≤ 41; omega) (by show _ ≤ 23100; omega) (fun t10 r10 N10 hK10 hN10 => ?_)
      obtain ⟨e10, hB10, hq10, hz10⟩ := hK10
      rw [e10]
      obtain ⟨x10, ex10, lx10⟩ : ∃ t, t = x9 ++ zsByt.getD (9 + 8) [] ∧ t.length ≤ 150 + 10 + 2 + 10 + 2 + 10 + 2 + 10 + 2 + 1 + 10 := ⟨_, rfl, by rw [List.length_append]; have h10 := lT 8 (by omega); omega⟩
      rw [← ex10] at hB10
      refine fin t10 N10 _ _ x10 0 hB10 hz10 (by omega) (zeq_tr h4 (zeq_tr hq1 (zeq_tr hq2 (zeq_tr hq3 (zeq_tr hq4 (zeq_tr hq5 (zeq_tr hq6 (zeq_tr hq7 (zeq_tr hq8 (zeq_tr hq9 (hq10))))))))))) (by omega) ?_ (by omega) (by omega)
      rw [ex10, ex9, ex8, ex7, ex6, ex5, ex4, ex3, ex2, ex1, ex0, tT 4 (by omega), tT 5 (by omega), tT 6 (by omega), tT 7 (by omega), tT 8 (by omega)]
      unfold xT stail xO
      rw [if_pos q9]
      simp only [List.append_assoc, List.cons_append, List.nil_append, ← zi_nI]
      rfl
    · skip
      rw [show ((dr xs L 14 0 1).toNat : Int) = 1 from by omega]
      refine z_if_ne C 192 dL_setup_184 (by decide) (fun _ => ?_) (fun q => absurd q (by decide))
      refine z_ldcS C ev hZ 9 (by decide) rfl dL_setup_192 ?_
      refine z_callBr (As := [.ref (ev.2.1 (9 + 9))]) C (mJ4_appendT l C.2.2.2.2.2.2.2.1 ev hZ hP t9 N9 (t := 9 + 9) hB9 hz9 (by omega) (by have h10 := lT 9 (by omega); omega) (by omega)) kw_986 kw_15 kw_983 (SBn_k hB9) kw_984 (C.2.2.2.1 _ kw_985) hyJ4_append_15ec4 (Nat.le_of_ble_eq_true rfl) (Nat.le_of_ble_eq_true rfl) rfl rfl (Nat.le_of_ble_eq_true rfl) dL_setup_194 (by show _ ≤ 41; omega) (by show _ ≤ 23100; omega) (fun t11 r11 N11 hK11 hN11 => ?_)
      obtain ⟨e11, hB11, hq11, hz11⟩ := hK11
      rw [e11]
      obtain ⟨x11, ex11, lx11⟩ : ∃ t, t = x9 ++ zsByt.getD (9 + 9) [] ∧ t.length ≤ 150 + 10 + 2 + 10 + 2 + 10 + 2 + 10 + 2 + 1 + 10 := ⟨_, rfl, by rw [List.length_append]; have h10 := lT 9 (by omega); omega⟩
      rw [← ex11] at hB11
      refine fin t11 N11 _ _ x11 0 hB11 hz11 (by omega) (zeq_tr h4 (zeq_tr hq1 (zeq_tr hq2 (zeq_tr hq3 (zeq_tr hq4 (zeq_tr hq5 (zeq_tr hq6 (zeq_tr hq7 (zeq_tr hq8 (zeq_tr hq9 (hq11))))))))))) (by omega) ?_ (by omega) (by omega)
      rw [ex11, ex9, ex8, ex7, ex6, ex5, ex4, ex3, ex2, ex1, ex0, tT 4 (by omega), tT 5 (by omega), tT 6 (by omega), tT 7 (by omega), tT 9 (by omega)]
      unfold xT stail xO
      rw [if_neg q9]
      simp only [List.append_assoc, List.cons_append, List.nil_append, ← zi_nI]
      rfl
  have loop : ∀ (n k : Nat) (τ : zS) (N2 cells slots : Nat) (k0 : Nat), n + k = xN xs L → SBn τ N2 N N (ssrc (xA xs L) (xB xs L) (xC xs L) k) k0 → zfree τ N2 → N ≤ N2 → zeq σ τ 0 N → (ssrc (xA xs L) (xB xs L) (xC xs L) k).length ≤ 50 * k → cells ≤ 2 + 9 * k → slots ≤ 20 + 5418 * k →
      zW p l e (zRoomN 6 177 41 23100) s m args below meth c cells slots (MQ below (va_Qr (fun (u : zS × Nat × Nat) => KTX (xT xs L) N σ u.1 u.2.2 u.2.1 ∧ N ≤ u.2.1) (fun u a U => a = u.2.2 ∧ zIn D Ca B En u.1 u.2.1 U) (zA B)) args s 41 23100 (zA B)) D Ca B 4 τ N2 18 [(0, .ref b), (1, .ref N), (2, .int (zi (xN xs L : Nat))), (3, .int (zi (k : Nat)))] [] := by
    intro n
    induction n with
    | zero =>
      intro k τ N2 cells slots k0 hk h1 h2 h3 h4 h5 hc hs
      have ek : k = xN xs L := by omega
      subst ek
      refine z_iload_n C dL_setup_18 rfl 3 rfl ?_
      refine z_iload_n C dL_setup_19 rfl 2 rfl ?_
      refine z_icmp_ge C 103 dL_setup_20 (by decide) (fun _ => ?_) (fun q => absurd (zi_yle (by omega) (by omega) (by omega)) q)
      refine z_sub (lv2 := [(0, .ref b), (1, .ref N)]) [0, 1] rfl ?_
      exact tail τ N2 cells slots k0 h1 h2 h3 h4 (by omega) (by omega) (by omega)
    | succ n ih =>
      intro k τ N2 cells slots k0 hk h1 h2 h3 h4 h5 hc hs
      obtain ⟨x0, ex0, lx0⟩ : ∃ t, t = ssrc (xA xs L) (xB xs L) (xC xs L) k ∧ t.length ≤ 50 * k := ⟨_, rfl, h5⟩
      rw [← ex0] at h1
      have hk3 : k < 3 := by omega
      have hA := hA k
      have hB0 := hB0 k
      have hC := hC k
      refine z_iload_n C dL_setup_18 rfl 3 rfl ?_
      refine z_iload_n C dL_setup_19 rfl 2 rfl ?_
      refine z_icmp_ge C 103 dL_setup_20 (by decide) (fun q => absurd q (zi_nle (by omega) (by omega) (by omega))) (fun _ => ?_)
      refine z_aload_n C dL_setup_23 rfl 1 rfl ?_
      refine z_ldcS C ev hZ 0 (by decide) rfl dL_setup_24 ?_
      refine z_callBr (As := [.ref (ev.2.1 (9 + 0))]) C (mJ4_appendT l C.2.2.2.2.2.2.2.1 ev hZ hP τ N2 (t := 9 + 0) h1 h2 (by omega) (by have h10 := lT 0 (by omega); omega) (by omega)) kw_986 kw_15 kw_983 (SBn_k h1) kw_984 (C.2.2.2.1 _ kw_985) hyJ4_append_15ec4 (Nat.le_of_ble_eq_true rfl) (Nat.le_of_ble_eq_true rfl) rfl rfl (Nat.le_of_ble_eq_true rfl) dL_setup_26 (by show _ ≤ 41; omega) (by show _ ≤ 23100; omega) (fun t12 r12 N12 hK12 hN12 => ?_)
      obtain ⟨e12, hB12, hq12, hz12⟩ := hK12
      rw [e12]
      obtain ⟨x12, ex12, lx12⟩ : ∃ t, t = x0 ++ zsByt.getD (9 + 0) [] ∧ t.length ≤ 50 * k + 10 := ⟨_, rfl, by rw [List.length_append]; have h10 := lT 0 (by omega); omega⟩
      rw [← ex12] at hB12
      refine z_bipush C (zi 97) dL_setup_29 (by decide) ?_
      refine z_iload_n C dL_setup_31 rfl 3 rfl ?_
      refine z_iadd C dL_setup_32 ?_
      refine z_i2c C dL_setup_33 ?_
      rw [(zi_c16 (k := k) (by omega)).resolve_right (by omega)]
      refine z_callBr (As := [.int (zi ((97 + k : Nat) : Int))]) C (mJ4_appendC l C.2.2.2.2.2.2.2.1 ev hZ hP t12 N12 (k := 97 + k) hB12 hz12 (by omega) (by omega) (by omega)) kw_1083 kw_15 kw_1080 (SBn_k hB12) kw_1081 (C.2.2.2.1 _ kw_1082) hyJ4_append_cf468 (Nat.le_of_ble_eq_true rfl) (Nat.le_of_ble_eq_true rfl) rfl rfl (Nat.le_of_ble_eq_true rfl) dL_setup_34 (by show _ ≤ 41; omega) (by show _ ≤ 23100; omega) (fun t13 r13 N13 hK13 hN13 => ?_)
      obtain ⟨e13, hB13, hq13, hz13⟩ := hK13
      rw [e13]
      obtain ⟨x13, ex13, lx13⟩ : ∃ t, t = x12 ++ [nI (97 + k)] ∧ t.length ≤ 50 * k + 10 + 1 := ⟨_, rfl, by rw [List.length_append]; show _ + 1 ≤ _; omega⟩
      rw [← ex13] at hB13
      refine z_ldcS C ev hZ 1 (by decide) rfl dL_setup_37 ?_
      refine z_callBr (As := [.ref (ev.2.1 (9 + 1))]) C (mJ4_appendT l C.2.2.2.2.2.2.2.1 ev hZ hP t13 N13 (t := 9 + 1) hB13 hz13 (by omega) (by have h10 := lT 1 (by omega); omega) (by omega)) kw_986 kw_15 kw_983 (SBn_k hB13) kw_984 (C.2.2.2.1 _ kw_985) hyJ4_append_15ec4 (Nat.le_of_ble_eq_true rfl) (Nat.le_of_ble_eq_true rfl) rfl rfl (Nat.le_of_ble_eq_true rfl) dL_setup_39 (by show _ ≤ 41; omega) (by show _ ≤ 23100; omega) (fun t14 r14 N14 hK14 hN14 => ?_)
      obtain ⟨e14, hB14, hq14, hz14⟩ := hK14
      rw [e14]
      obtain ⟨x14, ex14, lx14⟩ : ∃ t, t = x13 ++ zsByt.getD (9 + 1) [] ∧ t.length ≤ 50 * k + 10 + 1 + 10 := ⟨_, rfl, by rw [List.length_append]; have h10 := lT 1 (by omega); omega⟩
      rw [← ex14] at hB14
      refine z_aload_n C dL_setup_42 rfl 0 rfl ?_
      refine z_iconst C (zi 1) dL_setup_43 (by decide) ?_
      refine z_iload_n C dL_setup_44 rfl 3 rfl ?_
      refine z_iadd C dL_setup_45 ?_
      rw [show zi 1 + zi (k : Nat) = zi ((1 + k : Nat) : Int) from by rw [zi_add]; congr 1]
      refine z_iconst C (zi 0) dL_setup_46 (by decide) ?_
      refine z_bipush C (zi 40) dL_setup_47 (by decide) ?_
      refine z_callSi (As := [.ref b, .int (zi ((1 + k : Nat) : Int)), .int (zi 0), .int (zi 40)]) (st := [.ref N]) (F0 := 6) (L0 := 177) C (mL_draw l C.2.2.2.2.2.2.2.1 hY t14 N14 (1 + k) (by omega) (by omega) (by omega) (by omega)) ⟨Nat.le_refl _, Nat.le_refl _, by show _ ≤ 41; omega, by show _ ≤ 23100; omega⟩ kw_776 kw_0 kw_774 kw_775 hyL_draw (Nat.le_of_ble_eq_true rfl) (Nat.le_of_ble_eq_true rfl) rfl rfl (Nat.le_of_ble_eq_true rfl) dL_setup_49 ?_
      rw [dr_nat xs L (1 + k) (lo := 0) (hi := 40) (by omega) (by omega)]
      refine z_callBr (As := [.int (zi (xA xs L k : Nat))]) C (mJ4_appendI l C.2.2.2.2.2.2.2.1 ev hZ hP dg hG t14 N14 (x := xA xs L k) hB14 hz14 (by omega) (by omega) (by omega)) kw_1097 kw_15 kw_1094 (SBn_k hB14) kw_1095 (C.2.2.2.1 _ kw_1096) hyJ4_append_bf812 (Nat.le_of_ble_eq_true rfl) (Nat.le_of_ble_eq_true rfl) rfl rfl (Nat.le_of_ble_eq_true rfl) dL_setup_52 (by show _ ≤ 41; omega) (by show _ ≤ 23100; omega) (fun t15 r15 N15 hK15 hN15 => ?_)
      obtain ⟨e15, hB15, hq15, hz15⟩ := hK15
      rw [e15]
      obtain ⟨x15, ex15, lx15⟩ : ∃ t, t = x14 ++ dgt (xA xs L k) ∧ t.length ≤ 50 * k + 10 + 1 + 10 + 2 := ⟨_, rfl, by rw [List.length_append]; have := dgt_len (xA xs L k); omega⟩
      rw [← ex15] at hB15
      refine z_ldcS C ev hZ 2 (by decide) rfl dL_setup_55 ?_
      refine z_callBr (As := [.ref (ev.2.1 (9 + 2))]) C (mJ4_appendT l C.2.2.2.2.2.2.2.1 ev hZ hP t15 N15 (t := 9 + 2) hB15 hz15 (by omega) (by have h10 := lT 2 (by omega); omega) (by omega)) kw_986 kw_15 kw_983 (SBn_k hB15) kw_984 (C.2.2.2.1 _ kw_985) hyJ4_append_15ec4 (Nat.le_of_ble_eq_true rfl) (Nat.le_of_ble_eq_true rfl) rfl rfl (Nat.le_of_ble_eq_true rfl) dL_setup_57 (by show _ ≤ 41; omega) (by show _ ≤ 23100; omega) (fun t16 r16 N16 hK16 hN16 => ?_)
      obtain ⟨e16, hB16, hq16, hz16⟩ := hK16
      rw [e16]
      obtain ⟨x16, ex16, lx16⟩ : ∃ t, t = x15 ++ zsByt.getD (9 + 2) [] ∧ t.length ≤ 50 * k + 10 + 1 + 10 + 2 + 10 := ⟨_, rfl, by rw [List.length_append]; have h10 := lT 2 (by omega); omega⟩
      rw [← ex16] at hB16
      refine z_aload_n C dL_setup_60 rfl 0 rfl ?_
      refine z_iconst C (zi 4) dL_setup_61 (by decide) ?_
      refine z_iload_n C dL_setup_62 rfl 3 rfl ?_
      refine z_iadd C dL_setup_63 ?_
      rw [show zi 4 + zi (k : Nat) = zi ((4 + k : Nat) : Int) from by rw [zi_add]; congr 1]
      refine z_iconst C (zi 0) dL_setup_64 (by decide) ?_
      refine z_bipush C (zi 99) dL_setup_65 (by decide) ?_
      refine z_callSi (As := [.ref b, .int (zi ((4 + k : Nat) : Int)), .int (zi 0), .int (zi 99)]) (st := [.ref N]) (F0 := 6) (L0 := 177) C (mL_draw l C.2.2.2.2.2.2.2.1 hY t16 N16 (4 + k) (by omega) (by omega) (by omega) (by omega)) ⟨Nat.le_refl _, Nat.le_refl _, by show _ ≤ 41; omega, by show _ ≤ 23100; omega⟩ kw_776 kw_0 kw_774 kw_775 hyL_draw (Nat.le_of_ble_eq_true rfl) (Nat.le_of_ble_eq_true rfl) rfl rfl (Nat.le_of_ble_eq_true rfl) dL_setup_67 ?_
      rw [dr_nat xs L (4 + k) (lo := 0) (hi := 99) (by omega) (by omega)]
      refine z_callBr (As := [.int (zi (xB xs L k : Nat))]) C (mJ4_appendI l C.2.2.2.2.2.2.2.1 ev hZ hP dg hG t16 N16 (x := xB xs L k) hB16 hz16 (by omega) (by omega) (by omega)) kw_1097 kw_15 kw_1094 (SBn_k hB16) kw_1095 (C.2.2.2.1 _ kw_1096) hyJ4_append_bf812 (Nat.le_of_ble_eq_true rfl) (Nat.le_of_ble_eq_true rfl) rfl rfl (Nat.le_of_ble_eq_true rfl) dL_setup_70 (by show _ ≤ 41; omega) (by show _ ≤ 23100; omega) (fun t17 r17 N17 hK17 hN17 => ?_)
      obtain ⟨e17, hB17, hq17, hz17⟩ := hK17
      rw [e17]
      obtain ⟨x17, ex17, lx17⟩ : ∃ t, t = x16 ++ dgt (xB xs L k) ∧ t.length ≤ 50 * k + 10 + 1 + 10 + 2 + 10 + 2 := ⟨_, rfl, by rw [List.length_append]; have := dgt_len (xB xs L k); omega⟩
      rw [← ex17] at hB17
      refine z_ldcS C ev hZ 3 (by decide) rfl dL_setup_73 ?_
      refine z_callBr (As := [.ref (ev.2.1 (9 + 3))]) C (mJ4_appendT l C.2.2.2.2.2.2.2.1 ev hZ hP t17 N17 (t := 9 + 3) hB17 hz17 (by omega) (by have h10 := lT 3 (by omega); omega) (by omega)) kw_986 kw_15 kw_983 (SBn_k hB17) kw_984 (C.2.2.2.1 _ kw_985) hyJ4_append_15ec4 (Nat.le_of_ble_eq_true rfl) (Nat.le_of_ble_eq_true rfl) rfl rfl (Nat.le_of_ble_eq_true rfl) dL_setup_75 (by show _ ≤ 41; omega) (by show _ ≤ 23100; omega) (fun t18 r18 N18 hK18 hN18 => ?_)
      obtain ⟨e18, hB18, hq18, hz18⟩ := hK18
      rw [e18]
      obtain ⟨x18, ex18, lx18⟩ : ∃ t, t = x17 ++ zsByt.getD (9 + 3) [] ∧ t.length ≤ 50 * k + 10 + 1 + 10 + 2 + 10 + 2 + 10 := ⟨_, rfl, by rw [List.length_append]; have h10 := lT 3 (by omega); omega⟩
      rw [← ex18] at hB18
      refine z_aload_n C dL_setup_78 rfl 0 rfl ?_
      refine z_bipush C (zi 7) dL_setup_79 (by decide) ?_
      refine z_iload_n C dL_setup_81 rfl 3 rfl ?_
      refine z_iadd C dL_setup_82 ?_
      rw [show zi 7 + zi (k : Nat) = zi ((7 + k : Nat) : Int) from by rw [zi_add]; congr 1]
      refine z_iconst C (zi 0) dL_setup_83 (by decide) ?_
      refine z_iconst C (zi 5) dL_setup_84 (by decide) ?_
      refine z_callSi (As := [.ref b, .int (zi ((7 + k : Nat) : Int)), .int (zi 0), .int (zi 5)]) (st := [.ref N]) (F0 := 6) (L0 := 177) C (mL_draw l C.2.2.2.2.2.2.2.1 hY t18 N18 (7 + k) (by omega) (by omega) (by omega) (by omega)) ⟨Nat.le_refl _, Nat.le_refl _, by show _ ≤ 41; omega, by show _ ≤ 23100; omega⟩ kw_776 kw_0 kw_774 kw_775 hyL_draw (Nat.le_of_ble_eq_true rfl) (Nat.le_of_ble_eq_true rfl) rfl rfl (Nat.le_of_ble_eq_true rfl) dL_setup_85 ?_
      rw [dr_nat xs L (7 + k) (lo := 0) (hi := 5) (by omega) (by omega)]
      refine z_callBr (As := [.int (zi (xC xs L k : Nat))]) C (mJ4_appendI l C.2.2.2.2.2.2.2.1 ev hZ hP dg hG t18 N18 (x := xC xs L k) hB18 hz18 (by omega) (by omega) (by omega)) kw_1097 kw_15 kw_1094 (SBn_k hB18) kw_1095 (C.2.2.2.1 _ kw_1096) hyJ4_append_bf812 (Nat.le_of_ble_eq_true rfl) (Nat.le_of_ble_eq_true rfl) rfl rfl (Nat.le_of_ble_eq_true rfl) dL_setup_88 (by show _ ≤ 41; omega) (by show _ ≤ 23100; omega) (fun t19 r19 N19 hK19 hN19 => ?_)
      obtain ⟨e19, hB19, hq19, hz19⟩ := hK19
      rw [e19]
      obtain ⟨x19, ex19, lx19⟩ : ∃ t, t = x18 ++ dgt (xC xs L k) ∧ t.length ≤ 50 * k + 10 + 1 + 10 + 2 + 10 + 2 + 10 + 2 := ⟨_, rfl, by rw [List.length_append]; have := dgt_len (xC xs L k); omega⟩
      rw [← ex19] at hB19
      refine z_bipush C (zi 59) dL_setup_91 (by decide) ?_
      refine z_callBr (As := [.int (zi 59)]) C (mJ4_appendC l C.2.2.2.2.2.2.2.1 ev hZ hP t19 N19 (k := 59) hB19 hz19 (by omega) (by omega) (by omega)) kw_1083 kw_15 kw_1080 (SBn_k hB19) kw_1081 (C.2.2.2.1 _ kw_1082) hyJ4_append_cf468 (Nat.le_of_ble_eq_true rfl) (Nat.le_of_ble_eq_true rfl) rfl rfl (Nat.le_of_ble_eq_true rfl) dL_setup_93 (by show _ ≤ 41; omega) (by show _ ≤ 23100; omega) (fun t20 r20 N20 hK20 hN20 => ?_)
      obtain ⟨e20, hB20, hq20, hz20⟩ := hK20
      rw [e20]
      obtain ⟨x20, ex20, lx20⟩ : ∃ t, t = x19 ++ [nI (59)] ∧ t.length ≤ 50 * k + 10 + 1 + 10 + 2 + 10 + 2 + 10 + 2 + 1 := ⟨_, rfl, by rw [List.length_append]; show _ + 1 ≤ _; omega⟩
      rw [← ex20] at hB20
      refine z_pop C dL_setup_96 rfl ?_
      refine z_iinc (lv2 := [(3, .int (zi ((k + 1 : Nat) : Int))), (0, .ref b), (1, .ref N), (2, .int (zi (xN xs L : Nat)))]) C (zi ((k + 1 : Nat) : Int)) dL_setup_97 3 rfl (by show zi (k : Nat) + zi 1 = _; rw [zi_add]; congr 1) (by decide) rfl ?_
      refine z_goto C 18 dL_setup_100 (by decide) ?_
      refine z_sub (lv2 := [(0, .ref b), (1, .ref N), (2, .int (zi (xN xs L : Nat))), (3, .int (zi ((k + 1 : Nat) : Int)))]) [1, 2, 3, 0] rfl ?_
      have el : x20 = ssrc (xA xs L) (xB xs L) (xC xs L) (k + 1) := by
        rw [ex20, ex19, ex18, ex17, ex16, ex15, ex14, ex13, ex12, ex0, tT 0 (by omega), tT 1 (by omega), tT 2 (by omega), tT 3 (by omega), ssrc_succ]
        unfold stx
        simp only [List.append_assoc, List.cons_append, List.nil_append, ← zi_nI]
        rfl
      have lx : x20.length ≤ 50 * (k + 1) := by omega
      rw [el] at hB20 lx
      exact ih (k + 1) t20 N20 _ _ 0 (by omega) hB20 hz20 (by omega) (zeq_tr h4 (zeq_tr hq12 (zeq_tr hq13 (zeq_tr hq14 (zeq_tr hq15 (zeq_tr hq16 (zeq_tr hq17 (zeq_tr hq18 (zeq_tr hq19 (hq20)))))))))) lx (by omega) (by omega)
  refine z_newO (Cn := RS10) (T := TS10) (Nf := 4) (k := 10) C rfl rfl zin_10 tyS10 tyS10_ok kw_952 kw_953 kw_15 hdef_10 (Nat.le_of_ble_eq_true rfl) (Nat.le_of_ble_eq_true rfl) dL_setup_0 ?_
  refine z_dup C dL_setup_3 rfl ?_
  refine z_callN (As := []) C (nJ4_init l C.2.2.2.2.2.2.2.1 ev hZ (znew σ N (10 + 5, 0)) (N + 1) (by rw [znew_k]) (by omega)) kw_956 kw_15 kw_954 rfl kw_955 hyJ4_init_da8c8 (Nat.le_of_ble_eq_true rfl) (Nat.le_of_ble_eq_true rfl) rfl rfl (Nat.le_of_ble_eq_true rfl) dL_setup_4 (Nat.le_of_ble_eq_true rfl) (Nat.le_of_ble_eq_true rfl) ?_
  obtain ⟨hb1, hb2, hb3⟩ := sb_begin (lo := N) hz (Nat.le_refl N)
  refine z_astore_n (lv2 := [(1, .ref N), (0, .ref b)]) C dL_setup_7 rfl (by decide) rfl ?_
  refine z_aload_n C dL_setup_8 rfl 1 rfl ?_
  refine z_iconst C (zi 0) dL_setup_9 (by decide) ?_
  refine z_iconst C (zi 1) dL_setup_10 (by decide) ?_
  refine z_iconst C (zi 3) dL_setup_11 (by decide) ?_
  refine z_callSi (As := [.ref b, .int (zi ((0 : Nat) : Int)), .int (zi 1), .int (zi 3)]) (st := []) (F0 := 6) (L0 := 177) C (mL_draw l C.2.2.2.2.2.2.2.1 hY (zuI (zuR (znew (znew σ N (10 + 5, 0)) (N + 1) (2, 16)) N 0 (some (N + 1))) N 1 (zi 0)) (N + 2) 0 (by omega) (by omega) (by omega) (by omega)) ⟨Nat.le_refl _, Nat.le_refl _, by show _ ≤ 41; omega, by show _ ≤ 23100; omega⟩ kw_776 kw_0 kw_774 kw_775 hyL_draw (Nat.le_of_ble_eq_true rfl) (Nat.le_of_ble_eq_true rfl) rfl rfl (Nat.le_of_ble_eq_true rfl) dL_setup_12 ?_
  rw [← eN]
  refine z_istore_n (lv2 := [(2, .int (zi (xN xs L : Nat))), (1, .ref N), (0, .ref b)]) C dL_setup_15 rfl (by decide) rfl ?_
  refine z_iconst C (zi 0) dL_setup_16 (by decide) ?_
  refine z_istore_n (lv2 := [(3, .int (zi 0)), (2, .int (zi (xN xs L : Nat))), (1, .ref N), (0, .ref b)]) C dL_setup_17 rfl (by decide) rfl ?_
  refine z_sub (lv2 := [(0, .ref b), (1, .ref N), (2, .int (zi (xN xs L : Nat))), (3, .int (zi ((0 : Nat) : Int)))]) [3, 2, 1, 0] rfl ?_
  exact loop (xN xs L) 0 (zuI (zuR (znew (znew σ N (10 + 5, 0)) (N + 1) (2, 16)) N 0 (some (N + 1))) N 1 (zi 0)) (N + 2) _ _ 0 (by omega) hb1 hb3 (by omega) hb2 (Nat.zero_le _) (by omega) (by omega)
end SU
