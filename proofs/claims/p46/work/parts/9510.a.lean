/-! ACT: one drawn change. -/
theorem dL_act_0 : decode cL_act 0 = .ok (.iconst 0, 1) := by decide +kernel
theorem dL_act_1 : decode cL_act 1 = .ok (.istore_n 3, 1) := by decide +kernel
theorem dL_act_2 : decode cL_act 2 = .ok (.aload_n 1, 1) := by decide +kernel
theorem dL_act_3 : decode cL_act 3 = .ok (.iconst 3, 1) := by decide +kernel
theorem dL_act_4 : decode cL_act 4 = .ok (.iload_n 2, 1) := by decide +kernel
theorem dL_act_5 : decode cL_act 5 = .ok (.imul, 1) := by decide +kernel
theorem dL_act_6 : decode cL_act 6 = .ok (.iconst 0, 1) := by decide +kernel
theorem dL_act_7 : decode cL_act 7 = .ok (.bipush 9, 2) := by decide +kernel
theorem dL_act_9 : decode cL_act 9 = .ok (.invokestatic 50, 3) := by decide +kernel
theorem dL_act_12 : decode cL_act 12 = .ok (.tableswitch 174 0 5 #[40, 67, 75, 94, 114, 153], 40) := by decide +kernel
theorem dL_act_52 : decode cL_act 52 = .ok (.aload_n 0, 1) := by decide +kernel
theorem dL_act_53 : decode cL_act 53 = .ok (.aload_n 1, 1) := by decide +kernel
theorem dL_act_54 : decode cL_act 54 = .ok (.iconst 3, 1) := by decide +kernel
theorem dL_act_55 : decode cL_act 55 = .ok (.iload_n 2, 1) := by decide +kernel
theorem dL_act_56 : decode cL_act 56 = .ok (.imul, 1) := by decide +kernel
theorem dL_act_57 : decode cL_act 57 = .ok (.iconst 1, 1) := by decide +kernel
theorem dL_act_58 : decode cL_act 58 = .ok (.iadd, 1) := by decide +kernel
theorem dL_act_59 : decode cL_act 59 = .ok (.iconst 0, 1) := by decide +kernel
theorem dL_act_60 : decode cL_act 60 = .ok (.iconst 1, 1) := by decide +kernel
theorem dL_act_61 : decode cL_act 61 = .ok (.invokestatic 50, 3) := by decide +kernel
theorem dL_act_64 : decode cL_act 64 = .ok (.ifCond .ne 7, 3) := by decide +kernel
theorem dL_act_67 : decode cL_act 67 = .ok (.iconst 1, 1) := by decide +kernel
theorem dL_act_68 : decode cL_act 68 = .ok (.goto 4, 3) := by decide +kernel
theorem dL_act_71 : decode cL_act 71 = .ok (.iconst 0, 1) := by decide +kernel
theorem dL_act_72 : decode cL_act 72 = .ok (.invokestatic 88, 3) := by decide +kernel
theorem dL_act_75 : decode cL_act 75 = .ok (.istore_n 3, 1) := by decide +kernel
theorem dL_act_76 : decode cL_act 76 = .ok (.goto 127, 3) := by decide +kernel
theorem dL_act_79 : decode cL_act 79 = .ok (.aload_n 0, 1) := by decide +kernel
theorem dL_act_80 : decode cL_act 80 = .ok (.invokevirtual 92, 3) := by decide +kernel
theorem dL_act_83 : decode cL_act 83 = .ok (.istore_n 3, 1) := by decide +kernel
theorem dL_act_84 : decode cL_act 84 = .ok (.goto 119, 3) := by decide +kernel
theorem dL_act_87 : decode cL_act 87 = .ok (.aload_n 0, 1) := by decide +kernel
theorem dL_act_88 : decode cL_act 88 = .ok (.aload_n 1, 1) := by decide +kernel
theorem dL_act_89 : decode cL_act 89 = .ok (.iconst 3, 1) := by decide +kernel
theorem dL_act_90 : decode cL_act 90 = .ok (.iload_n 2, 1) := by decide +kernel
theorem dL_act_91 : decode cL_act 91 = .ok (.imul, 1) := by decide +kernel
theorem dL_act_92 : decode cL_act 92 = .ok (.iconst 1, 1) := by decide +kernel
theorem dL_act_93 : decode cL_act 93 = .ok (.iadd, 1) := by decide +kernel
theorem dL_act_94 : decode cL_act 94 = .ok (.iconst 1, 1) := by decide +kernel
theorem dL_act_95 : decode cL_act 95 = .ok (.iconst 4, 1) := by decide +kernel
theorem dL_act_96 : decode cL_act 96 = .ok (.invokestatic 50, 3) := by decide +kernel
theorem dL_act_99 : decode cL_act 99 = .ok (.invokevirtual 95, 3) := by decide +kernel
theorem dL_act_102 : decode cL_act 102 = .ok (.istore_n 3, 1) := by decide +kernel
theorem dL_act_103 : decode cL_act 103 = .ok (.goto 100, 3) := by decide +kernel
theorem dL_act_106 : decode cL_act 106 = .ok (.aload_n 0, 1) := by decide +kernel
theorem dL_act_107 : decode cL_act 107 = .ok (.aload_n 1, 1) := by decide +kernel
theorem dL_act_108 : decode cL_act 108 = .ok (.iconst 3, 1) := by decide +kernel
theorem dL_act_109 : decode cL_act 109 = .ok (.iload_n 2, 1) := by decide +kernel
theorem dL_act_110 : decode cL_act 110 = .ok (.imul, 1) := by decide +kernel
theorem dL_act_111 : decode cL_act 111 = .ok (.iconst 1, 1) := by decide +kernel
theorem dL_act_112 : decode cL_act 112 = .ok (.iadd, 1) := by decide +kernel
theorem dL_act_113 : decode cL_act 113 = .ok (.iconst 1, 1) := by decide +kernel
theorem dL_act_114 : decode cL_act 114 = .ok (.bipush 9, 2) := by decide +kernel
theorem dL_act_116 : decode cL_act 116 = .ok (.invokestatic 50, 3) := by decide +kernel
theorem dL_act_119 : decode cL_act 119 = .ok (.invokevirtual 99, 3) := by decide +kernel
theorem dL_act_122 : decode cL_act 122 = .ok (.istore_n 3, 1) := by decide +kernel
theorem dL_act_123 : decode cL_act 123 = .ok (.goto 80, 3) := by decide +kernel
theorem dL_act_126 : decode cL_act 126 = .ok (.aload_n 0, 1) := by decide +kernel
theorem dL_act_127 : decode cL_act 127 = .ok (.aload_n 1, 1) := by decide +kernel
theorem dL_act_128 : decode cL_act 128 = .ok (.iconst 3, 1) := by decide +kernel
theorem dL_act_129 : decode cL_act 129 = .ok (.iload_n 2, 1) := by decide +kernel
theorem dL_act_130 : decode cL_act 130 = .ok (.imul, 1) := by decide +kernel
theorem dL_act_131 : decode cL_act 131 = .ok (.iconst 1, 1) := by decide +kernel
theorem dL_act_132 : decode cL_act 132 = .ok (.iadd, 1) := by decide +kernel
theorem dL_act_133 : decode cL_act 133 = .ok (.iconst 0, 1) := by decide +kernel
theorem dL_act_134 : decode cL_act 134 = .ok (.bipush 20, 2) := by decide +kernel
theorem dL_act_136 : decode cL_act 136 = .ok (.invokestatic 50, 3) := by decide +kernel
theorem dL_act_139 : decode cL_act 139 = .ok (.aload_n 1, 1) := by decide +kernel
theorem dL_act_140 : decode cL_act 140 = .ok (.iconst 3, 1) := by decide +kernel
theorem dL_act_141 : decode cL_act 141 = .ok (.iload_n 2, 1) := by decide +kernel
theorem dL_act_142 : decode cL_act 142 = .ok (.imul, 1) := by decide +kernel
theorem dL_act_143 : decode cL_act 143 = .ok (.iconst 2, 1) := by decide +kernel
theorem dL_act_144 : decode cL_act 144 = .ok (.iadd, 1) := by decide +kernel
theorem dL_act_145 : decode cL_act 145 = .ok (.iconst 0, 1) := by decide +kernel
theorem dL_act_146 : decode cL_act 146 = .ok (.iconst 1, 1) := by decide +kernel
theorem dL_act_147 : decode cL_act 147 = .ok (.invokestatic 50, 3) := by decide +kernel
theorem dL_act_150 : decode cL_act 150 = .ok (.ifCond .ne 7, 3) := by decide +kernel
theorem dL_act_153 : decode cL_act 153 = .ok (.iconst 1, 1) := by decide +kernel
theorem dL_act_154 : decode cL_act 154 = .ok (.goto 4, 3) := by decide +kernel
theorem dL_act_157 : decode cL_act 157 = .ok (.iconst 0, 1) := by decide +kernel
theorem dL_act_158 : decode cL_act 158 = .ok (.invokevirtual 102, 3) := by decide +kernel
theorem dL_act_161 : decode cL_act 161 = .ok (.istore_n 3, 1) := by decide +kernel
theorem dL_act_162 : decode cL_act 162 = .ok (.goto 41, 3) := by decide +kernel
theorem dL_act_165 : decode cL_act 165 = .ok (.aload_n 0, 1) := by decide +kernel
theorem dL_act_166 : decode cL_act 166 = .ok (.iconst 0, 1) := by decide +kernel
theorem dL_act_167 : decode cL_act 167 = .ok (.aload_n 1, 1) := by decide +kernel
theorem dL_act_168 : decode cL_act 168 = .ok (.iconst 3, 1) := by decide +kernel
theorem dL_act_169 : decode cL_act 169 = .ok (.iload_n 2, 1) := by decide +kernel
theorem dL_act_170 : decode cL_act 170 = .ok (.imul, 1) := by decide +kernel
theorem dL_act_171 : decode cL_act 171 = .ok (.iconst 1, 1) := by decide +kernel
theorem dL_act_172 : decode cL_act 172 = .ok (.iadd, 1) := by decide +kernel
theorem dL_act_173 : decode cL_act 173 = .ok (.iconst 0, 1) := by decide +kernel
theorem dL_act_174 : decode cL_act 174 = .ok (.bipush 9, 2) := by decide +kernel
theorem dL_act_176 : decode cL_act 176 = .ok (.invokestatic 50, 3) := by decide +kernel
theorem dL_act_179 : decode cL_act 179 = .ok (.invokevirtual 106, 3) := by decide +kernel
theorem dL_act_182 : decode cL_act 182 = .ok (.istore_n 3, 1) := by decide +kernel
theorem dL_act_183 : decode cL_act 183 = .ok (.goto 20, 3) := by decide +kernel
theorem dL_act_186 : decode cL_act 186 = .ok (.aload_n 0, 1) := by decide +kernel
theorem dL_act_187 : decode cL_act 187 = .ok (.aload_n 1, 1) := by decide +kernel
theorem dL_act_188 : decode cL_act 188 = .ok (.iconst 3, 1) := by decide +kernel
theorem dL_act_189 : decode cL_act 189 = .ok (.iload_n 2, 1) := by decide +kernel
theorem dL_act_190 : decode cL_act 190 = .ok (.imul, 1) := by decide +kernel
theorem dL_act_191 : decode cL_act 191 = .ok (.iconst 1, 1) := by decide +kernel
theorem dL_act_192 : decode cL_act 192 = .ok (.iadd, 1) := by decide +kernel
theorem dL_act_193 : decode cL_act 193 = .ok (.iconst 1, 1) := by decide +kernel
theorem dL_act_194 : decode cL_act 194 = .ok (.bipush 12, 2) := by decide +kernel
theorem dL_act_196 : decode cL_act 196 = .ok (.invokestatic 50, 3) := by decide +kernel
theorem dL_act_199 : decode cL_act 199 = .ok (.invokevirtual 110, 3) := by decide +kernel
theorem dL_act_202 : decode cL_act 202 = .ok (.istore_n 3, 1) := by decide +kernel
theorem dL_act_203 : decode cL_act 203 = .ok (.return_, 1) := by decide +kernel
theorem kw_774 : (Jvm.Cond.methodLink "BarrierFlowLaw" (50 : Nat) ({ cls := "BarrierFlowLaw", name := "draw", desc := "([IIII)I" } : Jvm.MethodName)) ∈ zTb := zTb_of 774 (by decide +kernel) (by decide +kernel)
theorem kw_776 : (Jvm.Cond.code ({ cls := "BarrierFlowLaw", name := "draw", desc := "([IIII)I" } : Jvm.MethodName) method_3_code (4 : Nat) (Option.some Jvm.ClassFile.FieldType.int)) ∈ zTb := zTb_of 776 (by decide +kernel) (by decide +kernel)
theorem kw_775 : (Jvm.Cond.static ({ cls := "BarrierFlowLaw", name := "draw", desc := "([IIII)I" } : Jvm.MethodName)) ∈ zTb := zTb_of 775 (by decide +kernel) (by decide +kernel)
theorem hyL_draw : yL_draw.cls ≠ "java/lang/invoke/MethodHandle" ∧ yL_draw.cls ≠ "java/lang/invoke/VarHandle" ∧ (parseMethodDescriptor yL_draw.desc).map (fun d => d.parameters.length) = some 4 := ⟨by decide +kernel, by decide +kernel, by decide +kernel⟩
theorem kw_941 : (Jvm.Cond.methodLink "BarrierFlowLaw" (88 : Nat) ({ cls := "BarrierFlowLaw", name := "begun", desc := "(LBarrierFlow;Z)I" } : Jvm.MethodName)) ∈ zTb := zTb_of 941 (by decide +kernel) (by decide +kernel)
theorem kw_943 : (Jvm.Cond.codeWith ({ cls := "BarrierFlowLaw", name := "begun", desc := "(LBarrierFlow;Z)I" } : Jvm.MethodName) method_6_code (3 : Nat) (Option.some Jvm.ClassFile.FieldType.int) [((0 : Nat), (5 : Nat), (6 : Nat), (45 : Nat))]) ∈ zTb := zTb_of 943 (by decide +kernel) (by decide +kernel)
theorem kw_942 : (Jvm.Cond.static ({ cls := "BarrierFlowLaw", name := "begun", desc := "(LBarrierFlow;Z)I" } : Jvm.MethodName)) ∈ zTb := zTb_of 942 (by decide +kernel) (by decide +kernel)
theorem kw_715 : (Jvm.Cond.methodLink "BarrierFlowLaw" (92 : Nat) ({ cls := "BarrierFlow", name := "fail", desc := "()I" } : Jvm.MethodName)) ∈ zTb := zTb_of 715 (by decide +kernel) (by decide +kernel)
theorem kw_716 : (Jvm.Cond.instanceMethod ({ cls := "BarrierFlow", name := "fail", desc := "()I" } : Jvm.MethodName)) ∈ zTb := zTb_of 716 (by decide +kernel) (by decide +kernel)
theorem kw_718 : (Jvm.Cond.code ({ cls := "BarrierFlow", name := "fail", desc := "()I" } : Jvm.MethodName) prog_1_method_30_code (2 : Nat) (Option.some Jvm.ClassFile.FieldType.int)) ∈ zTb := zTb_of 718 (by decide +kernel) (by decide +kernel)
theorem kw_717 : (Jvm.Cond.selects "BarrierFlow" ({ cls := "BarrierFlow", name := "fail", desc := "()I" } : Jvm.MethodName) ({ cls := "BarrierFlow", name := "fail", desc := "()I" } : Jvm.MethodName)) ∈ zTb := zTb_of 717 (by decide +kernel) (by decide +kernel)
theorem kw_1187 : (Jvm.Cond.methodLink "BarrierFlowLaw" (95 : Nat) ({ cls := "BarrierFlow", name := "rescale", desc := "(I)I" } : Jvm.MethodName)) ∈ zTb := zTb_of 1187 (by decide +kernel) (by decide +kernel)
theorem kw_1188 : (Jvm.Cond.instanceMethod ({ cls := "BarrierFlow", name := "rescale", desc := "(I)I" } : Jvm.MethodName)) ∈ zTb := zTb_of 1188 (by decide +kernel) (by decide +kernel)
theorem kw_1190 : (Jvm.Cond.code ({ cls := "BarrierFlow", name := "rescale", desc := "(I)I" } : Jvm.MethodName) prog_1_method_31_code (3 : Nat) (Option.some Jvm.ClassFile.FieldType.int)) ∈ zTb := zTb_of 1190 (by decide +kernel) (by decide +kernel)
theorem kw_1189 : (Jvm.Cond.selects "BarrierFlow" ({ cls := "BarrierFlow", name := "rescale", desc := "(I)I" } : Jvm.MethodName) ({ cls := "BarrierFlow", name := "rescale", desc := "(I)I" } : Jvm.MethodName)) ∈ zTb := zTb_of 1189 (by decide +kernel) (by decide +kernel)
theorem kw_1209 : (Jvm.Cond.methodLink "BarrierFlowLaw" (99 : Nat) ({ cls := "BarrierFlow", name := "setRoom", desc := "(I)I" } : Jvm.MethodName)) ∈ zTb := zTb_of 1209 (by decide +kernel) (by decide +kernel)
theorem kw_1210 : (Jvm.Cond.instanceMethod ({ cls := "BarrierFlow", name := "setRoom", desc := "(I)I" } : Jvm.MethodName)) ∈ zTb := zTb_of 1210 (by decide +kernel) (by decide +kernel)
theorem kw_1212 : (Jvm.Cond.code ({ cls := "BarrierFlow", name := "setRoom", desc := "(I)I" } : Jvm.MethodName) prog_1_method_32_code (3 : Nat) (Option.some Jvm.ClassFile.FieldType.int)) ∈ zTb := zTb_of 1212 (by decide +kernel) (by decide +kernel)
theorem kw_1211 : (Jvm.Cond.selects "BarrierFlow" ({ cls := "BarrierFlow", name := "setRoom", desc := "(I)I" } : Jvm.MethodName) ({ cls := "BarrierFlow", name := "setRoom", desc := "(I)I" } : Jvm.MethodName)) ∈ zTb := zTb_of 1211 (by decide +kernel) (by decide +kernel)
theorem kw_1213 : (Jvm.Cond.methodLink "BarrierFlowLaw" (102 : Nat) ({ cls := "BarrierFlow", name := "setEvery", desc := "(IZ)I" } : Jvm.MethodName)) ∈ zTb := zTb_of 1213 (by decide +kernel) (by decide +kernel)
theorem kw_1214 : (Jvm.Cond.instanceMethod ({ cls := "BarrierFlow", name := "setEvery", desc := "(IZ)I" } : Jvm.MethodName)) ∈ zTb := zTb_of 1214 (by decide +kernel) (by decide +kernel)
theorem kw_1216 : (Jvm.Cond.code ({ cls := "BarrierFlow", name := "setEvery", desc := "(IZ)I" } : Jvm.MethodName) prog_1_method_34_code (4 : Nat) (Option.some Jvm.ClassFile.FieldType.int)) ∈ zTb := zTb_of 1216 (by decide +kernel) (by decide +kernel)
theorem kw_1215 : (Jvm.Cond.selects "BarrierFlow" ({ cls := "BarrierFlow", name := "setEvery", desc := "(IZ)I" } : Jvm.MethodName) ({ cls := "BarrierFlow", name := "setEvery", desc := "(IZ)I" } : Jvm.MethodName)) ∈ zTb := zTb_of 1215 (by decide +kernel) (by decide +kernel)
theorem kw_1217 : (Jvm.Cond.methodLink "BarrierFlowLaw" (106 : Nat) ({ cls := "BarrierFlow", name := "setLag", desc := "(II)I" } : Jvm.MethodName)) ∈ zTb := zTb_of 1217 (by decide +kernel) (by decide +kernel)
theorem kw_1218 : (Jvm.Cond.instanceMethod ({ cls := "BarrierFlow", name := "setLag", desc := "(II)I" } : Jvm.MethodName)) ∈ zTb := zTb_of 1218 (by decide +kernel) (by decide +kernel)
theorem kw_1220 : (Jvm.Cond.code ({ cls := "BarrierFlow", name := "setLag", desc := "(II)I" } : Jvm.MethodName) prog_1_method_33_code (4 : Nat) (Option.some Jvm.ClassFile.FieldType.int)) ∈ zTb := zTb_of 1220 (by decide +kernel) (by decide +kernel)
theorem kw_1219 : (Jvm.Cond.selects "BarrierFlow" ({ cls := "BarrierFlow", name := "setLag", desc := "(II)I" } : Jvm.MethodName) ({ cls := "BarrierFlow", name := "setLag", desc := "(II)I" } : Jvm.MethodName)) ∈ zTb := zTb_of 1219 (by decide +kernel) (by decide +kernel)
theorem kw_578 : (Jvm.Cond.methodLink "BarrierFlowLaw" (110 : Nat) ({ cls := "BarrierFlow", name := "run", desc := "(I)I" } : Jvm.MethodName)) ∈ zTb := zTb_of 578 (by decide +kernel) (by decide +kernel)
theorem kw_579 : (Jvm.Cond.instanceMethod ({ cls := "BarrierFlow", name := "run", desc := "(I)I" } : Jvm.MethodName)) ∈ zTb := zTb_of 579 (by decide +kernel) (by decide +kernel)
theorem kw_581 : (Jvm.Cond.code ({ cls := "BarrierFlow", name := "run", desc := "(I)I" } : Jvm.MethodName) prog_1_method_28_code (4 : Nat) (Option.some Jvm.ClassFile.FieldType.int)) ∈ zTb := zTb_of 581 (by decide +kernel) (by decide +kernel)
theorem kw_580 : (Jvm.Cond.selects "BarrierFlow" ({ cls := "BarrierFlow", name := "run", desc := "(I)I" } : Jvm.MethodName) ({ cls := "BarrierFlow", name := "run", desc := "(I)I" } : Jvm.MethodName)) ∈ zTb := zTb_of 580 (by decide +kernel) (by decide +kernel)
/-- what act comes to -/
def KA (z : Int) (X : Nat) (P : qP) (M : qM) (H : List qM) (S : Option qM) (σ τ : zS) : Prop := ∃ M2 H2, LC (z + 501) τ X P M2 H2 S ∧ τ.1 = σ.1 ∧ (H2 = (M :: H).take 6 ∨ M2 = M ∧ H2 = H)
theorem KA_of {z : Int} {X : Nat} {P : qP} {M M2 : qM} {H : List qM} {S : Option qM} {σ τ : zS} (h : LC (z + 501) τ X P M2 ((M :: H).take 6) S) (f : zfr X (X + 307) σ τ) : KA z X P M H S σ τ := ⟨M2, _, h, f.1, Or.inl rfl⟩
section AC
variable {D : va_G} {Ca : Nat → ClassId} {B : Nat} {En : State → Prop} {b L : Nat} {xs : Nat → Int32}
set_option maxRecDepth 100000 in
set_option maxHeartbeats 4000000 in
theorem mL_act (l : Launch) (hE : zEk B En) (hT : ∀ U, En U → zThr B U) (hl0 : l.stackTraces = false) (hY : ∀ U, En U → zLS U B b L xs) {z : Int} {σ : zS} {X : Nat} {P : qP} {M : qM} {H : List qM} {S : Option qM} (N k : Nat) (h : LC z σ X P M H S) (hz : z < 700000000) (hk : k < 300) : zMKv l D Ca B En yL_act cL_act 4 8 220 1 6 [.ref X, .ref b, .int (zi k)] σ N (KA z X P M H S σ) := by
  refine zMet_Kv (own := RL) hE (by decide +kernel) rfl (Nat.le_of_ble_eq_true rfl) (fun p e s m args below meth c C hr => ?_)
  have hRm : zRm (zRoomN 8 220 1 6) 8 220 0 0 := ⟨Nat.le_refl _, Nat.le_refl _, Nat.zero_le _, Nat.zero_le _⟩
  have kX := LC_k h
  have hK0 : KA z X P M H S σ σ := ⟨M, H, LC_up h (by omega), rfl, Or.inr ⟨rfl, rfl⟩⟩
  have e0 : zi 3 * zi (k : Int) = zi ((3 * k : Nat) : Int) := by
    rw [zi_mul]
    congr 1
  have e1 : zi 3 * zi (k : Int) + zi 1 = zi ((3 * k + 1 : Nat) : Int) := by
    rw [zi_mul, zi_add]
    congr 1
  have e2 : zi 3 * zi (k : Int) + zi 2 = zi ((3 * k + 2 : Nat) : Int) := by
    rw [zi_mul, zi_add]
    congr 1
  have fin : ∀ (τ : zS) (N2 cells slots : Nat) (lv : List (Nat × Value)), KA z X P M H S σ τ → N ≤ N2 → cells ≤ 1 → slots ≤ 6 → zW p l e (zRoomN 8 220 1 6) s m args below meth c cells slots (MQ below (va_Qv (fun (u : zS × Nat) => KA z X P M H S σ u.1 ∧ N ≤ u.2) (fun u => zIn D Ca B En u.1 u.2) (zA B)) args s 1 6 (zA B)) D Ca B 4 τ N2 203 lv [] := fun τ N2 cells slots lv hK hN hc hs => zfin_Kv C hK hr hN hc hs dL_act_203
  refine z_iconst C (zi 0) dL_act_0 (by decide) ?_
  refine z_istore_n (lv2 := [(3, .int (zi 0)), (0, .ref X), (1, .ref b), (2, .int (zi (k : Int)))]) C dL_act_1 rfl (by decide) rfl ?_
  refine z_aload_n C dL_act_2 rfl 2 rfl ?_
  refine z_iconst C (zi 3) dL_act_3 (by decide) ?_
  refine z_iload_n C dL_act_4 rfl 3 rfl ?_
  refine z_imul C dL_act_5 ?_
  refine z_iconst C (zi 0) dL_act_6 (by decide) ?_
  refine z_bipush C (zi 9) dL_act_7 (by decide) ?_
  refine z_callSi (As := [.ref b, .int (zi ((3 * k : Nat) : Int)), .int (zi 0), .int (zi 9)]) (st := []) (F0 := 8) (L0 := 220) C (mL_draw l C.2.2.2.2.2.2.2.1 hY σ N (3 * k) (by omega) (by omega) (by omega) (by omega)) hRm kw_776 kw_0 kw_774 kw_775 hyL_draw (Nat.le_of_ble_eq_true rfl) (Nat.le_of_ble_eq_true rfl) rfl (by rw [← e0]; rfl) (Nat.le_of_ble_eq_true rfl) dL_act_9 ?_
  have hd := dr_in xs L (3 * k) (lo := 0) (hi := 9) (by omega)
  obtain ⟨d, ed⟩ := nat_of hd.1
  rw [ed] at hd ⊢
  have c0 : zW p l e (zRoomN 8 220 1 6) s m args below meth c 0 0 (MQ below (va_Qv (fun (u : zS × Nat) => KA z X P M H S σ u.1 ∧ N ≤ u.2) (fun u => zIn D Ca B En u.1 u.2) (zA B)) args s 1 6 (zA B)) D Ca B 4 σ N 52 [(3, .int (zi 0)), (0, .ref X), (1, .ref b), (2, .int (zi (k : Int)))] [] := by
    refine z_aload_n C dL_act_52 rfl 1 rfl ?_
    refine z_aload_n C dL_act_53 rfl 2 rfl ?_
    refine z_iconst C (zi 3) dL_act_54 (by decide) ?_
    refine z_iload_n C dL_act_55 rfl 3 rfl ?_
    refine z_imul C dL_act_56 ?_
    refine z_iconst C (zi 1) dL_act_57 (by decide) ?_
    refine z_iadd C dL_act_58 ?_
    refine z_iconst C (zi 0) dL_act_59 (by decide) ?_
    refine z_iconst C (zi 1) dL_act_60 (by decide) ?_
    refine z_callSi (As := [.ref b, .int (zi ((3 * k + 1 : Nat) : Int)), .int (zi 0), .int (zi 1)]) (st := [.ref X]) (F0 := 8) (L0 := 220) C (mL_draw l C.2.2.2.2.2.2.2.1 hY σ N (3 * k + 1) (by omega) (by omega) (by omega) (by omega)) hRm kw_776 kw_0 kw_774 kw_775 hyL_draw (Nat.le_of_ble_eq_true rfl) (Nat.le_of_ble_eq_true rfl) rfl (by rw [← e1]; rfl) (Nat.le_of_ble_eq_true rfl) dL_act_61 ?_
    have kb : ∀ d : Bool, zW p l e (zRoomN 8 220 1 6) s m args below meth c 0 0 (MQ below (va_Qv (fun (u : zS × Nat) => KA z X P M H S σ u.1 ∧ N ≤ u.2) (fun u => zIn D Ca B En u.1 u.2) (zA B)) args s 1 6 (zA B)) D Ca B 4 σ N 72 [(3, .int (zi 0)), (0, .ref X), (1, .ref b), (2, .int (zi (k : Int)))] [.int (zb d), .ref X] := by
      intro d
      by_cases h67 : M.1 67 = 1
      · refine z_callH (As := [.ref X, .int (zb d)]) (F0 := 8) (L0 := 220) C (mxL_begun_3 l D Ca B En C.2.2.2.2.2.2.2.1 hT hl0 σ N X (zb d) kX (la_beginX h hz h67)) hRm kw_943 kw_0 kw_941 kw_942 hyL_begun (Nat.le_of_ble_eq_true rfl) (Nat.le_of_ble_eq_true rfl) rfl rfl (Nat.le_of_ble_eq_true rfl) dL_act_72 (Nat.le_of_ble_eq_true rfl) (Nat.le_of_ble_eq_true rfl) (fun N2 hN => ?_)
        refine z_istore_n (lv2 := [(3, .int (zi (-1))), (0, .ref X), (1, .ref b), (2, .int (zi (k : Int)))]) C dL_act_75 rfl (by decide) rfl ?_
        refine z_goto C 203 dL_act_76 (by decide) ?_
        exact fin σ N2 1 6 _ hK0 hN (by omega) (by omega)
      · obtain ⟨τ, eτ, hτ, fτ⟩ := la_begin (d := d) h hz h67
        have eb : fL_begun σ X (zb d) = some (τ, zi (M.1 5 + 1)) := by
          unfold fL_begun
          rw [eτ]
          rfl
        refine z_callH (As := [.ref X, .int (zb d)]) (F0 := 8) (L0 := 220) C (mL_begun l D Ca B En C.2.2.2.2.2.2.2.1 σ N X (zb d) _ eb) hRm kw_943 kw_0 kw_941 kw_942 hyL_begun (Nat.le_of_ble_eq_true rfl) (Nat.le_of_ble_eq_true rfl) rfl rfl (Nat.le_of_ble_eq_true rfl) dL_act_72 (Nat.le_of_ble_eq_true rfl) (Nat.le_of_ble_eq_true rfl) (fun N2 hN => ?_)
        refine z_istore_n (lv2 := [(3, .int (zi (M.1 5 + 1))), (0, .ref X), (1, .ref b), (2, .int (zi (k : Int)))]) C dL_act_75 rfl (by decide) rfl ?_
        refine z_goto C 203 dL_act_76 (by decide) ?_
        exact fin τ N2 1 6 _ (KA_of hτ fτ) hN (by omega) (by omega)
    refine z_if_ne C 71 dL_act_64 (by decide) (fun _ => ?_) (fun _ => ?_)
    · refine z_iconst C (zb false) dL_act_71 (by decide) ?_
      exact kb false
    · refine z_iconst C (zb true) dL_act_67 (by decide) ?_
      refine z_goto C 72 dL_act_68 (by decide) ?_
      exact kb true
  have c1 : zW p l e (zRoomN 8 220 1 6) s m args below meth c 0 0 (MQ below (va_Qv (fun (u : zS × Nat) => KA z X P M H S σ u.1 ∧ N ≤ u.2) (fun u => zIn D Ca B En u.1 u.2) (zA B)) args s 1 6 (zA B)) D Ca B 4 σ N 79 [(3, .int (zi 0)), (0, .ref X), (1, .ref b), (2, .int (zi (k : Int)))] [] := by
    refine z_aload_n C dL_act_79 rfl 1 rfl ?_
    obtain ⟨τ, eτ, hτ, fτ⟩ := la_fail h hz 
    refine z_callVi (As := []) (F0 := 8) (L0 := 220) C (mX9_fail l D Ca B En C.2.2.2.2.2.2.2.1 σ N X  _ (zck_ok eτ).2) hRm kX rfl kw_718 kw_1 kw_715 kw_716 kw_717 hyX9_fail (Nat.le_of_ble_eq_true rfl) (Nat.le_of_ble_eq_true rfl) rfl rfl (Nat.le_of_ble_eq_true rfl) dL_act_80 ?_
    refine z_istore_n (lv2 := [(3, .int (zi (qrisk P M))), (0, .ref X), (1, .ref b), (2, .int (zi (k : Int)))]) C dL_act_83 rfl (by decide) rfl ?_
    refine z_goto C 203 dL_act_84 (by decide) ?_
    exact fin τ N 0 0 _ (KA_of hτ fτ) (Nat.le_refl _) (by omega) (by omega)
  have c2 : zW p l e (zRoomN 8 220 1 6) s m args below meth c 0 0 (MQ below (va_Qv (fun (u : zS × Nat) => KA z X P M H S σ u.1 ∧ N ≤ u.2) (fun u => zIn D Ca B En u.1 u.2) (zA B)) args s 1 6 (zA B)) D Ca B 4 σ N 87 [(3, .int (zi 0)), (0, .ref X), (1, .ref b), (2, .int (zi (k : Int)))] [] := by
    refine z_aload_n C dL_act_87 rfl 1 rfl ?_
    refine z_aload_n C dL_act_88 rfl 2 rfl ?_
    refine z_iconst C (zi 3) dL_act_89 (by decide) ?_
    refine z_iload_n C dL_act_90 rfl 3 rfl ?_
    refine z_imul C dL_act_91 ?_
    refine z_iconst C (zi 1) dL_act_92 (by decide) ?_
    refine z_iadd C dL_act_93 ?_
    refine z_iconst C (zi 1) dL_act_94 (by decide) ?_
    refine z_iconst C (zi 4) dL_act_95 (by decide) ?_
    refine z_callSi (As := [.ref b, .int (zi ((3 * k + 1 : Nat) : Int)), .int (zi 1), .int (zi 4)]) (st := [.ref X]) (F0 := 8) (L0 := 220) C (mL_draw l C.2.2.2.2.2.2.2.1 hY σ N (3 * k + 1) (by omega) (by omega) (by omega) (by omega)) hRm kw_776 kw_0 kw_774 kw_775 hyL_draw (Nat.le_of_ble_eq_true rfl) (Nat.le_of_ble_eq_true rfl) rfl (by rw [← e1]; rfl) (Nat.le_of_ble_eq_true rfl) dL_act_96 ?_
    have hi := dr_in xs L (3 * k + 1) (lo := 1) (hi := 4) (by omega)
    obtain ⟨n, en⟩ := nat_of (show 0 ≤ dr xs L (3 * k + 1) 1 4 by omega)
    rw [en] at hi ⊢
    obtain ⟨τ, eτ, hτ, fτ⟩ := la_resc h hz (n := n) (by omega)
    refine z_callVi (As := [.int (zi (n : Int))]) (F0 := 8) (L0 := 220) C (mX9_rescale l D Ca B En C.2.2.2.2.2.2.2.1 σ N X (zi (n : Int)) _ (zck_ok eτ).2) hRm kX rfl kw_1190 kw_1 kw_1187 kw_1188 kw_1189 hyX9_rescale (Nat.le_of_ble_eq_true rfl) (Nat.le_of_ble_eq_true rfl) rfl rfl (Nat.le_of_ble_eq_true rfl) dL_act_99 ?_
    refine z_istore_n (lv2 := [(3, .int (zi (qmoved (qmany M) n))), (0, .ref X), (1, .ref b), (2, .int (zi (k : Int)))]) C dL_act_102 rfl (by decide) rfl ?_
    refine z_goto C 203 dL_act_103 (by decide) ?_
    exact fin τ N 0 0 _ (KA_of hτ fτ) (Nat.le_refl _) (by omega) (by omega)
  have c3 : zW p l e (zRoomN 8 220 1 6) s m args below meth c 0 0 (MQ below (va_Qv (fun (u : zS × Nat) => KA z X P M H S σ u.1 ∧ N ≤ u.2) (fun u => zIn D Ca B En u.1 u.2) (zA B)) args s 1 6 (zA B)) D Ca B 4 σ N 106 [(3, .int (zi 0)), (0, .ref X), (1, .ref b), (2, .int (zi (k : Int)))] [] := by
    refine z_aload_n C dL_act_106 rfl 1 rfl ?_
    refine z_aload_n C dL_act_107 rfl 2 rfl ?_
    refine z_iconst C (zi 3) dL_act_108 (by decide) ?_
    refine z_iload_n C dL_act_109 rfl 3 rfl ?_
    refine z_imul C dL_act_110 ?_
    refine z_iconst C (zi 1) dL_act_111 (by decide) ?_
    refine z_iadd C dL_act_112 ?_
    refine z_iconst C (zi 1) dL_act_113 (by decide) ?_
    refine z_bipush C (zi 9) dL_act_114 (by decide) ?_
    refine z_callSi (As := [.ref b, .int (zi ((3 * k + 1 : Nat) : Int)), .int (zi 1), .int (zi 9)]) (st := [.ref X]) (F0 := 8) (L0 := 220) C (mL_draw l C.2.2.2.2.2.2.2.1 hY σ N (3 * k + 1) (by omega) (by omega) (by omega) (by omega)) hRm kw_776 kw_0 kw_774 kw_775 hyL_draw (Nat.le_of_ble_eq_true rfl) (Nat.le_of_ble_eq_true rfl) rfl (by rw [← e1]; rfl) (Nat.le_of_ble_eq_true rfl) dL_act_116 ?_
    have hi := dr_in xs L (3 * k + 1) (lo := 1) (hi := 9) (by omega)
    obtain ⟨τ, eτ, hτ, fτ⟩ := la_room h hz hi
    refine z_callVi (As := [.int (zi (dr xs L (3 * k + 1) 1 9))]) (F0 := 8) (L0 := 220) C (mX9_setRoom l D Ca B En C.2.2.2.2.2.2.2.1 σ N X (zi (dr xs L (3 * k + 1) 1 9)) _ (zck_ok eτ).2) hRm kX rfl kw_1212 kw_1 kw_1209 kw_1210 kw_1211 hyX9_setRoom (Nat.le_of_ble_eq_true rfl) (Nat.le_of_ble_eq_true rfl) rfl rfl (Nat.le_of_ble_eq_true rfl) dL_act_119 ?_
    refine z_istore_n (lv2 := [(3, .int (zi (M.1 2))), (0, .ref X), (1, .ref b), (2, .int (zi (k : Int)))]) C dL_act_122 rfl (by decide) rfl ?_
    refine z_goto C 203 dL_act_123 (by decide) ?_
    exact fin τ N 0 0 _ (KA_of hτ fτ) (Nat.le_refl _) (by omega) (by omega)
  have c4 : zW p l e (zRoomN 8 220 1 6) s m args below meth c 0 0 (MQ below (va_Qv (fun (u : zS × Nat) => KA z X P M H S σ u.1 ∧ N ≤ u.2) (fun u => zIn D Ca B En u.1 u.2) (zA B)) args s 1 6 (zA B)) D Ca B 4 σ N 126 [(3, .int (zi 0)), (0, .ref X), (1, .ref b), (2, .int (zi (k : Int)))] [] := by
    refine z_aload_n C dL_act_126 rfl 1 rfl ?_
    refine z_aload_n C dL_act_127 rfl 2 rfl ?_
    refine z_iconst C (zi 3) dL_act_128 (by decide) ?_
    refine z_iload_n C dL_act_129 rfl 3 rfl ?_
    refine z_imul C dL_act_130 ?_
    refine z_iconst C (zi 1) dL_act_131 (by decide) ?_
    refine z_iadd C dL_act_132 ?_
    refine z_iconst C (zi 0) dL_act_133 (by decide) ?_
    refine z_bipush C (zi 20) dL_act_134 (by decide) ?_
    refine z_callSi (As := [.ref b, .int (zi ((3 * k + 1 : Nat) : Int)), .int (zi 0), .int (zi 20)]) (st := [.ref X]) (F0 := 8) (L0 := 220) C (mL_draw l C.2.2.2.2.2.2.2.1 hY σ N (3 * k + 1) (by omega) (by omega) (by omega) (by omega)) hRm kw_776 kw_0 kw_774 kw_775 hyL_draw (Nat.le_of_ble_eq_true rfl) (Nat.le_of_ble_eq_true rfl) rfl (by rw [← e1]; rfl) (Nat.le_of_ble_eq_true rfl) dL_act_136 ?_
    have hi := dr_in xs L (3 * k + 1) (lo := 0) (hi := 20) (by omega)
    refine z_aload_n C dL_act_139 rfl 2 rfl ?_
    refine z_iconst C (zi 3) dL_act_140 (by decide) ?_
    refine z_iload_n C dL_act_141 rfl 3 rfl ?_
    refine z_imul C dL_act_142 ?_
    refine z_iconst C (zi 2) dL_act_143 (by decide) ?_
    refine z_iadd C dL_act_144 ?_
    refine z_iconst C (zi 0) dL_act_145 (by decide) ?_
    refine z_iconst C (zi 1) dL_act_146 (by decide) ?_
    refine z_callSi (As := [.ref b, .int (zi ((3 * k + 2 : Nat) : Int)), .int (zi 0), .int (zi 1)]) (st := [.int (zi (dr xs L (3 * k + 1) 0 20)), .ref X]) (F0 := 8) (L0 := 220) C (mL_draw l C.2.2.2.2.2.2.2.1 hY σ N (3 * k + 2) (by omega) (by omega) (by omega) (by omega)) hRm kw_776 kw_0 kw_774 kw_775 hyL_draw (Nat.le_of_ble_eq_true rfl) (Nat.le_of_ble_eq_true rfl) rfl (by rw [← e2]; rfl) (Nat.le_of_ble_eq_true rfl) dL_act_147 ?_
    have kb : ∀ d : Bool, zW p l e (zRoomN 8 220 1 6) s m args below meth c 0 0 (MQ below (va_Qv (fun (u : zS × Nat) => KA z X P M H S σ u.1 ∧ N ≤ u.2) (fun u => zIn D Ca B En u.1 u.2) (zA B)) args s 1 6 (zA B)) D Ca B 4 σ N 158 [(3, .int (zi 0)), (0, .ref X), (1, .ref b), (2, .int (zi (k : Int)))] [.int (zb d), .int (zi (dr xs L (3 * k + 1) 0 20)), .ref X] := by
      intro d
      obtain ⟨τ, eτ, hτ, fτ⟩ := la_every h hz (d := d) (show 0 ≤ dr xs L (3 * k + 1) 0 20 ∧ dr xs L (3 * k + 1) 0 20 ≤ 99 by omega)
      refine z_callVi (As := [.int (zi (dr xs L (3 * k + 1) 0 20)), .int (zb d)]) (F0 := 8) (L0 := 220) C (mX9_setEvery l D Ca B En C.2.2.2.2.2.2.2.1 σ N X (zi (dr xs L (3 * k + 1) 0 20)) (zb d) _ (zck_ok eτ).2) hRm kX rfl kw_1216 kw_1 kw_1213 kw_1214 kw_1215 hyX9_setEvery (Nat.le_of_ble_eq_true rfl) (Nat.le_of_ble_eq_true rfl) rfl rfl (Nat.le_of_ble_eq_true rfl) dL_act_158 ?_
      refine z_istore_n (lv2 := [(3, .int (zi (M.1 3))), (0, .ref X), (1, .ref b), (2, .int (zi (k : Int)))]) C dL_act_161 rfl (by decide) rfl ?_
      refine z_goto C 203 dL_act_162 (by decide) ?_
      exact fin τ N 0 0 _ (KA_of hτ fτ) (Nat.le_refl _) (by omega) (by omega)
    refine z_if_ne C 157 dL_act_150 (by decide) (fun _ => ?_) (fun _ => ?_)
    · refine z_iconst C (zb false) dL_act_157 (by decide) ?_
      exact kb false
    · refine z_iconst C (zb true) dL_act_153 (by decide) ?_
      refine z_goto C 158 dL_act_154 (by decide) ?_
      exact kb true
  have c5 : zW p l e (zRoomN 8 220 1 6) s m args below meth c 0 0 (MQ below (va_Qv (fun (u : zS × Nat) => KA z X P M H S σ u.1 ∧ N ≤ u.2) (fun u => zIn D Ca B En u.1 u.2) (zA B)) args s 1 6 (zA B)) D Ca B 4 σ N 165 [(3, .int (zi 0)), (0, .ref X), (1, .ref b), (2, .int (zi (k : Int)))] [] := by
    refine z_aload_n C dL_act_165 rfl 1 rfl ?_
    refine z_iconst C (zi 0) dL_act_166 (by decide) ?_
    refine z_aload_n C dL_act_167 rfl 2 rfl ?_
    refine z_iconst C (zi 3) dL_act_168 (by decide) ?_
    refine z_iload_n C dL_act_169 rfl 3 rfl ?_
    refine z_imul C dL_act_170 ?_
    refine z_iconst C (zi 1) dL_act_171 (by decide) ?_
    refine z_iadd C dL_act_172 ?_
    refine z_iconst C (zi 0) dL_act_173 (by decide) ?_
    refine z_bipush C (zi 9) dL_act_174 (by decide) ?_
    refine z_callSi (As := [.ref b, .int (zi ((3 * k + 1 : Nat) : Int)), .int (zi 0), .int (zi 9)]) (st := [.int (zi 0), .ref X]) (F0 := 8) (L0 := 220) C (mL_draw l C.2.2.2.2.2.2.2.1 hY σ N (3 * k + 1) (by omega) (by omega) (by omega) (by omega)) hRm kw_776 kw_0 kw_774 kw_775 hyL_draw (Nat.le_of_ble_eq_true rfl) (Nat.le_of_ble_eq_true rfl) rfl (by rw [← e1]; rfl) (Nat.le_of_ble_eq_true rfl) dL_act_176 ?_
    have hi := dr_in xs L (3 * k + 1) (lo := 0) (hi := 9) (by omega)
    obtain ⟨τ, eτ, hτ, fτ⟩ := la_lag h hz hi
    refine z_callVi (As := [.int (zi 0), .int (zi (dr xs L (3 * k + 1) 0 9))]) (F0 := 8) (L0 := 220) C (mX9_setLag l D Ca B En C.2.2.2.2.2.2.2.1 σ N X (zi 0) (zi (dr xs L (3 * k + 1) 0 9)) _ (zck_ok eτ).2) hRm kX rfl kw_1220 kw_1 kw_1217 kw_1218 kw_1219 hyX9_setLag (Nat.le_of_ble_eq_true rfl) (Nat.le_of_ble_eq_true rfl) rfl rfl (Nat.le_of_ble_eq_true rfl) dL_act_179 ?_
    refine z_istore_n (lv2 := [(3, .int (zi (M.1 9))), (0, .ref X), (1, .ref b), (2, .int (zi (k : Int)))]) C dL_act_182 rfl (by decide) rfl ?_
    refine z_goto C 203 dL_act_183 (by decide) ?_
    exact fin τ N 0 0 _ (KA_of hτ fτ) (Nat.le_refl _) (by omega) (by omega)
  have c6 : zW p l e (zRoomN 8 220 1 6) s m args below meth c 0 0 (MQ below (va_Qv (fun (u : zS × Nat) => KA z X P M H S σ u.1 ∧ N ≤ u.2) (fun u => zIn D Ca B En u.1 u.2) (zA B)) args s 1 6 (zA B)) D Ca B 4 σ N 186 [(3, .int (zi 0)), (0, .ref X), (1, .ref b), (2, .int (zi (k : Int)))] [] := by
    refine z_aload_n C dL_act_186 rfl 1 rfl ?_
    refine z_aload_n C dL_act_187 rfl 2 rfl ?_
    refine z_iconst C (zi 3) dL_act_188 (by decide) ?_
    refine z_iload_n C dL_act_189 rfl 3 rfl ?_
    refine z_imul C dL_act_190 ?_
    refine z_iconst C (zi 1) dL_act_191 (by decide) ?_
    refine z_iadd C dL_act_192 ?_
    refine z_iconst C (zi 1) dL_act_193 (by decide) ?_
    refine z_bipush C (zi 12) dL_act_194 (by decide) ?_
    refine z_callSi (As := [.ref b, .int (zi ((3 * k + 1 : Nat) : Int)), .int (zi 1), .int (zi 12)]) (st := [.ref X]) (F0 := 8) (L0 := 220) C (mL_draw l C.2.2.2.2.2.2.2.1 hY σ N (3 * k + 1) (by omega) (by omega) (by omega) (by omega)) hRm kw_776 kw_0 kw_774 kw_775 hyL_draw (Nat.le_of_ble_eq_true rfl) (Nat.le_of_ble_eq_true rfl) rfl (by rw [← e1]; rfl) (Nat.le_of_ble_eq_true rfl) dL_act_196 ?_
    have hi := dr_in xs L (3 * k + 1) (lo := 1) (hi := 12) (by omega)
    obtain ⟨n, en⟩ := nat_of (show 0 ≤ dr xs L (3 * k + 1) 1 12 by omega)
    rw [en] at hi ⊢
    obtain ⟨τ, eτ, hτ, fτ⟩ := la_run h hz (t := n) (by omega)
    refine z_callVi (As := [.int (zi (n : Int))]) (F0 := 8) (L0 := 220) C (mX9_run l D Ca B En C.2.2.2.2.2.2.2.1 σ N X (zi (n : Int)) _ (zck_ok eτ).2) hRm kX rfl kw_581 kw_1 kw_578 kw_579 kw_580 hyX9_run (Nat.le_of_ble_eq_true rfl) (Nat.le_of_ble_eq_true rfl) rfl rfl (Nat.le_of_ble_eq_true rfl) dL_act_199 ?_
    refine z_istore_n (lv2 := [(3, .int (zi ((qit P n M).1 6 - M.1 6))), (0, .ref X), (1, .ref b), (2, .int (zi (k : Int)))]) C dL_act_202 rfl (by decide) rfl ?_
    exact fin τ N 0 0 _ (KA_of hτ fτ) (Nat.le_refl _) (by omega) (by omega)
  clear ed
  match d, hd with
  | 0, _ => exact z_tableIn C 52 dL_act_12 (by decide) (by decide) rfl (by decide) c0
  | 1, _ => exact z_tableIn C 79 dL_act_12 (by decide) (by decide) rfl (by decide) c1
  | 2, _ => exact z_tableIn C 87 dL_act_12 (by decide) (by decide) rfl (by decide) c2
  | 3, _ => exact z_tableIn C 106 dL_act_12 (by decide) (by decide) rfl (by decide) c3
  | 4, _ => exact z_tableIn C 126 dL_act_12 (by decide) (by decide) rfl (by decide) c4
  | 5, _ => exact z_tableIn C 165 dL_act_12 (by decide) (by decide) rfl (by decide) c5
  | d + 6, hd => exact z_tableOut C 186 dL_act_12 (Or.inr (by rw [zi_toInt (by omega) (by omega)]; omega)) (by decide) c6
end AC
