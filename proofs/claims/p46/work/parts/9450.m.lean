/-! The law's methods over the machine. -/
theorem kw_788 : (Jvm.Cond.methodLink "BarrierFlowLaw" (15 : Nat) ({ cls := "java/lang/String", name := "length", desc := "()I" } : Jvm.MethodName)) ∈ zTb := zTb_of 788 (by decide +kernel) (by decide +kernel)
theorem kw_798 : (Jvm.Cond.methodLink "BarrierFlowLaw" (21 : Nat) ({ cls := "java/lang/String", name := "charAt", desc := "(I)C" } : Jvm.MethodName)) ∈ zTb := zTb_of 798 (by decide +kernel) (by decide +kernel)
theorem kw_1243 : (Jvm.Cond.methodLink "BarrierFlowLaw" (116 : Nat) ({ cls := "BarrierFlow", name := "sink", desc := "(II)I" } : Jvm.MethodName)) ∈ zTb := zTb_of 1243 (by decide +kernel) (by decide +kernel)
theorem kw_1244 : (Jvm.Cond.instanceMethod ({ cls := "BarrierFlow", name := "sink", desc := "(II)I" } : Jvm.MethodName)) ∈ zTb := zTb_of 1244 (by decide +kernel) (by decide +kernel)
theorem kw_1245 : (Jvm.Cond.selects "BarrierFlow" ({ cls := "BarrierFlow", name := "sink", desc := "(II)I" } : Jvm.MethodName) ({ cls := "BarrierFlow", name := "sink", desc := "(II)I" } : Jvm.MethodName)) ∈ zTb := zTb_of 1245 (by decide +kernel) (by decide +kernel)
theorem kw_1246 : (Jvm.Cond.code ({ cls := "BarrierFlow", name := "sink", desc := "(II)I" } : Jvm.MethodName) prog_1_method_14_code (3 : Nat) (Option.some Jvm.ClassFile.FieldType.int)) ∈ zTb := zTb_of 1246 (by decide +kernel) (by decide +kernel)
theorem kw_1252 : (Jvm.Cond.methodLink "BarrierFlowLaw" (119 : Nat) ({ cls := "BarrierFlow", name := "shown", desc := "(III)I" } : Jvm.MethodName)) ∈ zTb := zTb_of 1252 (by decide +kernel) (by decide +kernel)
theorem kw_1253 : (Jvm.Cond.instanceMethod ({ cls := "BarrierFlow", name := "shown", desc := "(III)I" } : Jvm.MethodName)) ∈ zTb := zTb_of 1253 (by decide +kernel) (by decide +kernel)
theorem kw_1254 : (Jvm.Cond.selects "BarrierFlow" ({ cls := "BarrierFlow", name := "shown", desc := "(III)I" } : Jvm.MethodName) ({ cls := "BarrierFlow", name := "shown", desc := "(III)I" } : Jvm.MethodName)) ∈ zTb := zTb_of 1254 (by decide +kernel) (by decide +kernel)
theorem kw_1255 : (Jvm.Cond.code ({ cls := "BarrierFlow", name := "shown", desc := "(III)I" } : Jvm.MethodName) prog_1_method_15_code (5 : Nat) (Option.some Jvm.ClassFile.FieldType.int)) ∈ zTb := zTb_of 1255 (by decide +kernel) (by decide +kernel)
theorem kw_1282 : (Jvm.Cond.methodLink "BarrierFlowLaw" (123 : Nat) ({ cls := "BarrierFlow", name := "expected", desc := "(II)I" } : Jvm.MethodName)) ∈ zTb := zTb_of 1282 (by decide +kernel) (by decide +kernel)
theorem kw_1283 : (Jvm.Cond.instanceMethod ({ cls := "BarrierFlow", name := "expected", desc := "(II)I" } : Jvm.MethodName)) ∈ zTb := zTb_of 1283 (by decide +kernel) (by decide +kernel)
theorem kw_1284 : (Jvm.Cond.selects "BarrierFlow" ({ cls := "BarrierFlow", name := "expected", desc := "(II)I" } : Jvm.MethodName) ({ cls := "BarrierFlow", name := "expected", desc := "(II)I" } : Jvm.MethodName)) ∈ zTb := zTb_of 1284 (by decide +kernel) (by decide +kernel)
theorem kw_1285 : (Jvm.Cond.code ({ cls := "BarrierFlow", name := "expected", desc := "(II)I" } : Jvm.MethodName) prog_1_method_23_code (3 : Nat) (Option.some Jvm.ClassFile.FieldType.int)) ∈ zTb := zTb_of 1285 (by decide +kernel) (by decide +kernel)
theorem kw_1295 : (Jvm.Cond.methodLink "BarrierFlowLaw" (126 : Nat) ({ cls := "BarrierFlow", name := "shownOf", desc := "(I)I" } : Jvm.MethodName)) ∈ zTb := zTb_of 1295 (by decide +kernel) (by decide +kernel)
theorem kw_1296 : (Jvm.Cond.instanceMethod ({ cls := "BarrierFlow", name := "shownOf", desc := "(I)I" } : Jvm.MethodName)) ∈ zTb := zTb_of 1296 (by decide +kernel) (by decide +kernel)
theorem kw_1297 : (Jvm.Cond.selects "BarrierFlow" ({ cls := "BarrierFlow", name := "shownOf", desc := "(I)I" } : Jvm.MethodName) ({ cls := "BarrierFlow", name := "shownOf", desc := "(I)I" } : Jvm.MethodName)) ∈ zTb := zTb_of 1297 (by decide +kernel) (by decide +kernel)
theorem kw_1298 : (Jvm.Cond.code ({ cls := "BarrierFlow", name := "shownOf", desc := "(I)I" } : Jvm.MethodName) prog_1_method_22_code (6 : Nat) (Option.some Jvm.ClassFile.FieldType.int)) ∈ zTb := zTb_of 1298 (by decide +kernel) (by decide +kernel)
section ZR
variable {p : Program} {l : Launch} {e : Env} {R : Room} {s : State} {m : MethodId} {args : Array Value} {below : List Frame} {meth : Method} {c : Code} {cells slots : Nat} {Q : State → Prop} {D : va_G} {Ca : Nat → ClassId} {B nL : Nat} {En : State → Prop} {cc : ByteArray} {own : String} {σ : zS} {N pc : Nat} {lv : List (Nat × Value)} {st : List Value}
theorem gf_RJ0_9 (C : zC p s m args meth c cc RJ0 nL D Ca B En) {a : Nat} {v : Nat} (hv : zgR 9 0 σ a = some v) (hd : decode cc pc = .ok (.getfield 9, 3)) (kk : zW p l e R s m args below meth c cells slots Q D Ca B nL σ N (pc + 3) (lv) (.ref v :: st)) : zW p l e R s m args below meth c cells slots Q D Ca B nL σ N (pc) (lv) (.ref a :: st) := z_gR (Cn := RS9) (T := TS9) (Nf := 4) (k := 9) (j := 0) C hv rfl rfl zin_9 (by decide) kw_1173 rfl rfl hd kk
theorem gf_RJ0_15 (C : zC p s m args meth c cc RJ0 nL D Ca B En) {a : Nat} {v : Int32} (hv : zgI 9 1 σ a = some v) (hd : decode cc pc = .ok (.getfield 15, 3)) (kk : zW p l e R s m args below meth c cells slots Q D Ca B nL σ N (pc + 3) (lv) (.int v :: st)) : zW p l e R s m args below meth c cells slots Q D Ca B nL σ N (pc) (lv) (.ref a :: st) := z_gI (Cn := RS9) (T := TS9) (Nf := 4) (k := 9) (j := 1) C hv rfl rfl zin_9 (by decide) kw_1174 rfl rfl hd kk
end ZR
section ZM
variable {p : Program} {l : Launch} {e : Env} {R : Room} {s : State} {m : MethodId} {args : Array Value} {below : List Frame} {meth : Method} {c : Code} {cells slots : Nat} {Q : State → Prop} {D : va_G} {Ca : Nat → ClassId} {B : Nat} {En : State → Prop} {N : Nat}
theorem dL_areSums_0 : decode cL_areSums 0 = .ok (.iconst 0, 1) := by decide +kernel
theorem dL_areSums_1 : decode cL_areSums 1 = .ok (.istore_n 1, 1) := by decide +kernel
theorem dL_areSums_2 : decode cL_areSums 2 = .ok (.iconst 0, 1) := by decide +kernel
theorem dL_areSums_3 : decode cL_areSums 3 = .ok (.istore_n 2, 1) := by decide +kernel
theorem dL_areSums_4 : decode cL_areSums 4 = .ok (.iconst 0, 1) := by decide +kernel
theorem dL_areSums_5 : decode cL_areSums 5 = .ok (.istore_n 3, 1) := by decide +kernel
theorem dL_areSums_6 : decode cL_areSums 6 = .ok (.iconst 0, 1) := by decide +kernel
theorem dL_areSums_7 : decode cL_areSums 7 = .ok (.istore 4, 2) := by decide +kernel
theorem dL_areSums_9 : decode cL_areSums 9 = .ok (.iload 4, 2) := by decide +kernel
theorem dL_areSums_11 : decode cL_areSums 11 = .ok (.aload_n 0, 1) := by decide +kernel
theorem dL_areSums_12 : decode cL_areSums 12 = .ok (.iconst 1, 1) := by decide +kernel
theorem dL_areSums_13 : decode cL_areSums 13 = .ok (.invokevirtual 113, 3) := by decide +kernel
theorem dL_areSums_16 : decode cL_areSums 16 = .ok (.if_icmp .ge 19, 3) := by decide +kernel
theorem dL_areSums_19 : decode cL_areSums 19 = .ok (.iload_n 1, 1) := by decide +kernel
theorem dL_areSums_20 : decode cL_areSums 20 = .ok (.aload_n 0, 1) := by decide +kernel
theorem dL_areSums_21 : decode cL_areSums 21 = .ok (.iload 4, 2) := by decide +kernel
theorem dL_areSums_23 : decode cL_areSums 23 = .ok (.iconst 0, 1) := by decide +kernel
theorem dL_areSums_24 : decode cL_areSums 24 = .ok (.invokevirtual 129, 3) := by decide +kernel
theorem dL_areSums_27 : decode cL_areSums 27 = .ok (.iadd, 1) := by decide +kernel
theorem dL_areSums_28 : decode cL_areSums 28 = .ok (.istore_n 1, 1) := by decide +kernel
theorem dL_areSums_29 : decode cL_areSums 29 = .ok (.iinc 4 1, 3) := by decide +kernel
theorem dL_areSums_32 : decode cL_areSums 32 = .ok (.goto (-23), 3) := by decide +kernel
theorem dL_areSums_35 : decode cL_areSums 35 = .ok (.iconst 0, 1) := by decide +kernel
theorem dL_areSums_36 : decode cL_areSums 36 = .ok (.istore 4, 2) := by decide +kernel
theorem dL_areSums_38 : decode cL_areSums 38 = .ok (.iload 4, 2) := by decide +kernel
theorem dL_areSums_40 : decode cL_areSums 40 = .ok (.aload_n 0, 1) := by decide +kernel
theorem dL_areSums_41 : decode cL_areSums 41 = .ok (.iconst 0, 1) := by decide +kernel
theorem dL_areSums_42 : decode cL_areSums 42 = .ok (.invokevirtual 113, 3) := by decide +kernel
theorem dL_areSums_45 : decode cL_areSums 45 = .ok (.if_icmp .ge 71, 3) := by decide +kernel
theorem dL_areSums_48 : decode cL_areSums 48 = .ok (.iload_n 2, 1) := by decide +kernel
theorem dL_areSums_49 : decode cL_areSums 49 = .ok (.aload_n 0, 1) := by decide +kernel
theorem dL_areSums_50 : decode cL_areSums 50 = .ok (.iload 4, 2) := by decide +kernel
theorem dL_areSums_52 : decode cL_areSums 52 = .ok (.iconst 3, 1) := by decide +kernel
theorem dL_areSums_53 : decode cL_areSums 53 = .ok (.invokevirtual 132, 3) := by decide +kernel
theorem dL_areSums_56 : decode cL_areSums 56 = .ok (.aload_n 0, 1) := by decide +kernel
theorem dL_areSums_57 : decode cL_areSums 57 = .ok (.iload 4, 2) := by decide +kernel
theorem dL_areSums_59 : decode cL_areSums 59 = .ok (.invokevirtual 135, 3) := by decide +kernel
theorem dL_areSums_62 : decode cL_areSums 62 = .ok (.isub, 1) := by decide +kernel
theorem dL_areSums_63 : decode cL_areSums 63 = .ok (.iadd, 1) := by decide +kernel
theorem dL_areSums_64 : decode cL_areSums 64 = .ok (.istore_n 2, 1) := by decide +kernel
theorem dL_areSums_65 : decode cL_areSums 65 = .ok (.iload_n 3, 1) := by decide +kernel
theorem dL_areSums_66 : decode cL_areSums 66 = .ok (.aload_n 0, 1) := by decide +kernel
theorem dL_areSums_67 : decode cL_areSums 67 = .ok (.iload 4, 2) := by decide +kernel
theorem dL_areSums_69 : decode cL_areSums 69 = .ok (.iconst 3, 1) := by decide +kernel
theorem dL_areSums_70 : decode cL_areSums 70 = .ok (.invokevirtual 132, 3) := by decide +kernel
theorem dL_areSums_73 : decode cL_areSums 73 = .ok (.iadd, 1) := by decide +kernel
theorem dL_areSums_74 : decode cL_areSums 74 = .ok (.istore_n 3, 1) := by decide +kernel
theorem dL_areSums_75 : decode cL_areSums 75 = .ok (.aload_n 0, 1) := by decide +kernel
theorem dL_areSums_76 : decode cL_areSums 76 = .ok (.iload 4, 2) := by decide +kernel
theorem dL_areSums_78 : decode cL_areSums 78 = .ok (.invokevirtual 135, 3) := by decide +kernel
theorem dL_areSums_81 : decode cL_areSums 81 = .ok (.aload_n 0, 1) := by decide +kernel
theorem dL_areSums_82 : decode cL_areSums 82 = .ok (.iload 4, 2) := by decide +kernel
theorem dL_areSums_84 : decode cL_areSums 84 = .ok (.iconst 3, 1) := by decide +kernel
theorem dL_areSums_85 : decode cL_areSums 85 = .ok (.invokevirtual 132, 3) := by decide +kernel
theorem dL_areSums_88 : decode cL_areSums 88 = .ok (.if_icmp .gt 20, 3) := by decide +kernel
theorem dL_areSums_91 : decode cL_areSums 91 = .ok (.aload_n 0, 1) := by decide +kernel
theorem dL_areSums_92 : decode cL_areSums 92 = .ok (.iload 4, 2) := by decide +kernel
theorem dL_areSums_94 : decode cL_areSums 94 = .ok (.iconst 3, 1) := by decide +kernel
theorem dL_areSums_95 : decode cL_areSums 95 = .ok (.invokevirtual 132, 3) := by decide +kernel
theorem dL_areSums_98 : decode cL_areSums 98 = .ok (.aload_n 0, 1) := by decide +kernel
theorem dL_areSums_99 : decode cL_areSums 99 = .ok (.iload 4, 2) := by decide +kernel
theorem dL_areSums_101 : decode cL_areSums 101 = .ok (.iconst 0, 1) := by decide +kernel
theorem dL_areSums_102 : decode cL_areSums 102 = .ok (.invokevirtual 132, 3) := by decide +kernel
theorem dL_areSums_105 : decode cL_areSums 105 = .ok (.if_icmp .le 5, 3) := by decide +kernel
theorem dL_areSums_108 : decode cL_areSums 108 = .ok (.iconst 0, 1) := by decide +kernel
theorem dL_areSums_109 : decode cL_areSums 109 = .ok (.ireturn, 1) := by decide +kernel
theorem dL_areSums_110 : decode cL_areSums 110 = .ok (.iinc 4 1, 3) := by decide +kernel
theorem dL_areSums_113 : decode cL_areSums 113 = .ok (.goto (-75), 3) := by decide +kernel
theorem dL_areSums_116 : decode cL_areSums 116 = .ok (.iconst 0, 1) := by decide +kernel
theorem dL_areSums_117 : decode cL_areSums 117 = .ok (.istore 4, 2) := by decide +kernel
theorem dL_areSums_119 : decode cL_areSums 119 = .ok (.iload 4, 2) := by decide +kernel
theorem dL_areSums_121 : decode cL_areSums 121 = .ok (.bipush 16, 2) := by decide +kernel
theorem dL_areSums_123 : decode cL_areSums 123 = .ok (.if_icmp .ge 49, 3) := by decide +kernel
theorem dL_areSums_126 : decode cL_areSums 126 = .ok (.aload_n 0, 1) := by decide +kernel
theorem dL_areSums_127 : decode cL_areSums 127 = .ok (.iload 4, 2) := by decide +kernel
theorem dL_areSums_129 : decode cL_areSums 129 = .ok (.invokevirtual 138, 3) := by decide +kernel
theorem dL_areSums_132 : decode cL_areSums 132 = .ok (.aload_n 0, 1) := by decide +kernel
theorem dL_areSums_133 : decode cL_areSums 133 = .ok (.iload 4, 2) := by decide +kernel
theorem dL_areSums_135 : decode cL_areSums 135 = .ok (.invokevirtual 141, 3) := by decide +kernel
theorem dL_areSums_138 : decode cL_areSums 138 = .ok (.if_icmp .gt 26, 3) := by decide +kernel
theorem dL_areSums_141 : decode cL_areSums 141 = .ok (.aload_n 0, 1) := by decide +kernel
theorem dL_areSums_142 : decode cL_areSums 142 = .ok (.iload 4, 2) := by decide +kernel
theorem dL_areSums_144 : decode cL_areSums 144 = .ok (.invokevirtual 144, 3) := by decide +kernel
theorem dL_areSums_147 : decode cL_areSums 147 = .ok (.iload 4, 2) := by decide +kernel
theorem dL_areSums_149 : decode cL_areSums 149 = .ok (.bipush 8, 2) := by decide +kernel
theorem dL_areSums_151 : decode cL_areSums 151 = .ok (.irem, 1) := by decide +kernel
theorem dL_areSums_152 : decode cL_areSums 152 = .ok (.aload_n 0, 1) := by decide +kernel
theorem dL_areSums_153 : decode cL_areSums 153 = .ok (.iconst 1, 1) := by decide +kernel
theorem dL_areSums_154 : decode cL_areSums 154 = .ok (.invokevirtual 113, 3) := by decide +kernel
theorem dL_areSums_157 : decode cL_areSums 157 = .ok (.imul, 1) := by decide +kernel
theorem dL_areSums_158 : decode cL_areSums 158 = .ok (.bipush 8, 2) := by decide +kernel
theorem dL_areSums_160 : decode cL_areSums 160 = .ok (.idiv, 1) := by decide +kernel
theorem dL_areSums_161 : decode cL_areSums 161 = .ok (.if_icmp .eq 5, 3) := by decide +kernel
theorem dL_areSums_164 : decode cL_areSums 164 = .ok (.iconst 0, 1) := by decide +kernel
theorem dL_areSums_165 : decode cL_areSums 165 = .ok (.ireturn, 1) := by decide +kernel
theorem dL_areSums_166 : decode cL_areSums 166 = .ok (.iinc 4 1, 3) := by decide +kernel
theorem dL_areSums_169 : decode cL_areSums 169 = .ok (.goto (-50), 3) := by decide +kernel
theorem dL_areSums_172 : decode cL_areSums 172 = .ok (.iload_n 1, 1) := by decide +kernel
theorem dL_areSums_173 : decode cL_areSums 173 = .ok (.bipush 8, 2) := by decide +kernel
theorem dL_areSums_175 : decode cL_areSums 175 = .ok (.if_icmp .ne 94, 3) := by decide +kernel
theorem dL_areSums_178 : decode cL_areSums 178 = .ok (.iload_n 2, 1) := by decide +kernel
theorem dL_areSums_179 : decode cL_areSums 179 = .ok (.aload_n 0, 1) := by decide +kernel
theorem dL_areSums_180 : decode cL_areSums 180 = .ok (.invokevirtual 147, 3) := by decide +kernel
theorem dL_areSums_183 : decode cL_areSums 183 = .ok (.if_icmp .ne 86, 3) := by decide +kernel
theorem dL_areSums_186 : decode cL_areSums 186 = .ok (.iload_n 3, 1) := by decide +kernel
theorem dL_areSums_187 : decode cL_areSums 187 = .ok (.aload_n 0, 1) := by decide +kernel
theorem dL_areSums_188 : decode cL_areSums 188 = .ok (.bipush 9, 2) := by decide +kernel
theorem dL_areSums_190 : decode cL_areSums 190 = .ok (.invokevirtual 113, 3) := by decide +kernel
theorem dL_areSums_193 : decode cL_areSums 193 = .ok (.if_icmp .gt 76, 3) := by decide +kernel
theorem dL_areSums_196 : decode cL_areSums 196 = .ok (.aload_n 0, 1) := by decide +kernel
theorem dL_areSums_197 : decode cL_areSums 197 = .ok (.bipush 7, 2) := by decide +kernel
theorem dL_areSums_199 : decode cL_areSums 199 = .ok (.invokevirtual 113, 3) := by decide +kernel
theorem dL_areSums_202 : decode cL_areSums 202 = .ok (.aload_n 0, 1) := by decide +kernel
theorem dL_areSums_203 : decode cL_areSums 203 = .ok (.bipush 6, 2) := by decide +kernel
theorem dL_areSums_205 : decode cL_areSums 205 = .ok (.invokevirtual 113, 3) := by decide +kernel
theorem dL_areSums_208 : decode cL_areSums 208 = .ok (.if_icmp .gt 61, 3) := by decide +kernel
theorem dL_areSums_211 : decode cL_areSums 211 = .ok (.aload_n 0, 1) := by decide +kernel
theorem dL_areSums_212 : decode cL_areSums 212 = .ok (.iconst 0, 1) := by decide +kernel
theorem dL_areSums_213 : decode cL_areSums 213 = .ok (.invokevirtual 150, 3) := by decide +kernel
theorem dL_areSums_216 : decode cL_areSums 216 = .ok (.iconst (-1), 1) := by decide +kernel
theorem dL_areSums_217 : decode cL_areSums 217 = .ok (.if_icmp .eq 17, 3) := by decide +kernel
theorem dL_areSums_220 : decode cL_areSums 220 = .ok (.aload_n 0, 1) := by decide +kernel
theorem dL_areSums_221 : decode cL_areSums 221 = .ok (.iconst 0, 1) := by decide +kernel
theorem dL_areSums_222 : decode cL_areSums 222 = .ok (.invokevirtual 150, 3) := by decide +kernel
theorem dL_areSums_225 : decode cL_areSums 225 = .ok (.aload_n 0, 1) := by decide +kernel
theorem dL_areSums_226 : decode cL_areSums 226 = .ok (.bipush 6, 2) := by decide +kernel
theorem dL_areSums_228 : decode cL_areSums 228 = .ok (.invokevirtual 113, 3) := by decide +kernel
theorem dL_areSums_231 : decode cL_areSums 231 = .ok (.if_icmp .ne 38, 3) := by decide +kernel
theorem dL_areSums_234 : decode cL_areSums 234 = .ok (.aload_n 0, 1) := by decide +kernel
theorem dL_areSums_235 : decode cL_areSums 235 = .ok (.iconst 0, 1) := by decide +kernel
theorem dL_areSums_236 : decode cL_areSums 236 = .ok (.invokevirtual 153, 3) := by decide +kernel
theorem dL_areSums_239 : decode cL_areSums 239 = .ok (.iconst (-1), 1) := by decide +kernel
theorem dL_areSums_240 : decode cL_areSums 240 = .ok (.if_icmp .ne 7, 3) := by decide +kernel
theorem dL_areSums_243 : decode cL_areSums 243 = .ok (.iconst 1, 1) := by decide +kernel
theorem dL_areSums_244 : decode cL_areSums 244 = .ok (.goto 4, 3) := by decide +kernel
theorem dL_areSums_247 : decode cL_areSums 247 = .ok (.iconst 0, 1) := by decide +kernel
theorem dL_areSums_248 : decode cL_areSums 248 = .ok (.aload_n 0, 1) := by decide +kernel
theorem dL_areSums_249 : decode cL_areSums 249 = .ok (.bipush 7, 2) := by decide +kernel
theorem dL_areSums_251 : decode cL_areSums 251 = .ok (.invokevirtual 113, 3) := by decide +kernel
theorem dL_areSums_254 : decode cL_areSums 254 = .ok (.ifCond .ne 7, 3) := by decide +kernel
theorem dL_areSums_257 : decode cL_areSums 257 = .ok (.iconst 1, 1) := by decide +kernel
theorem dL_areSums_258 : decode cL_areSums 258 = .ok (.goto 4, 3) := by decide +kernel
theorem dL_areSums_261 : decode cL_areSums 261 = .ok (.iconst 0, 1) := by decide +kernel
theorem dL_areSums_262 : decode cL_areSums 262 = .ok (.if_icmp .ne 7, 3) := by decide +kernel
theorem dL_areSums_265 : decode cL_areSums 265 = .ok (.iconst 1, 1) := by decide +kernel
theorem dL_areSums_266 : decode cL_areSums 266 = .ok (.goto 4, 3) := by decide +kernel
theorem dL_areSums_269 : decode cL_areSums 269 = .ok (.iconst 0, 1) := by decide +kernel
theorem dL_areSums_270 : decode cL_areSums 270 = .ok (.ireturn, 1) := by decide +kernel
theorem hyL_areSums : yL_areSums.cls ≠ "java/lang/invoke/MethodHandle" ∧ yL_areSums.cls ≠ "java/lang/invoke/VarHandle" ∧ (parseMethodDescriptor yL_areSums.desc).map (fun d => d.parameters.length) = some 1 := ⟨by decide +kernel, by decide +kernel, by decide +kernel⟩
set_option maxRecDepth 100000 in
set_option maxHeartbeats 4000000 in
theorem wsL_areSums_9b (C : zC p s m args meth c cL_areSums RL 5 D Ca B En) (hRm : zRm R 4 86 cells slots) (x0 : Nat) (x2 : Int32) (x3 : Int32) (σ : zS) (u1 : Int32) (u4 : Int32) (y : (zS × Int32 × Int32) ⊕ (zS × Int32)) (hf : sL_areSums_9b x0 x2 x3 σ u1 u4 = some y) (hk : (∀ z : (zS × Int32 × Int32), y = .inl z → zW p l e R s m args below meth c cells slots Q D Ca B 5 z.1 N 9 [(0, .ref x0), (1, .int z.2.1), (2, .int x2), (3, .int x3), (4, .int z.2.2)] []) ∧ (∀ z : (zS × Int32), y = .inr z → zW p l e R s m args below meth c cells slots Q D Ca B 5 z.1 N 35 [(0, .ref x0), (1, .int z.2), (2, .int x2), (3, .int x3)] [])) : zW p l e R s m args below meth c cells slots Q D Ca B 5 σ N 9 [(0, .ref x0), (1, .int u1), (2, .int x2), (3, .int x3), (4, .int u4)] [] := by
  unfold sL_areSums_9b at hf
  refine z_iload C dL_areSums_9 4 rfl ?_
  refine z_aload_n C dL_areSums_11 rfl 0 rfl ?_
  refine z_iconst C (zi 1) dL_areSums_12 (by decide) ?_
  obtain ⟨c1, hc1, hf⟩ := zbind hf
  obtain ⟨kc1, hc1⟩ := zck_ok hc1
  refine z_callVi (As := [.int ((zi 1))]) (F0 := 4) (L0 := 86) C (mX9_count l D Ca B En C.2.2.2.2.2.2.2.1 σ N x0 ((zi 1)) _ hc1) hRm kc1 rfl kw_481 kw_1 kw_478 kw_479 kw_480 hyX9_count (Nat.le_of_ble_eq_true rfl) (Nat.le_of_ble_eq_true rfl) rfl rfl (Nat.le_of_ble_eq_true rfl) dL_areSums_13 ?_
  refine z_icmp_ge C 35 dL_areSums_16 (by decide) (fun q3 => ?_) (fun q3 => ?_)
  · rw [if_pos q3] at hf
    cases hf
    refine z_sub [0, 1, 2, 3] rfl ?_
    exact hk.2 _ rfl
  · rw [if_neg q3] at hf
    refine z_iload_n C dL_areSums_19 rfl 1 rfl ?_
    refine z_aload_n C dL_areSums_20 rfl 0 rfl ?_
    refine z_iload C dL_areSums_21 4 rfl ?_
    refine z_iconst C (zi 0) dL_areSums_23 (by decide) ?_
    obtain ⟨c2, hc2, hf⟩ := zbind hf
    obtain ⟨kc2, hc2⟩ := zck_ok hc2
    refine z_callVi (As := [.int u4, .int ((zi 0))]) (F0 := 4) (L0 := 86) C (mX9_instance l D Ca B En C.2.2.2.2.2.2.2.1 c1.1 N x0 u4 ((zi 0)) _ hc2) hRm kc2 rfl kw_1308 kw_1 kw_1305 kw_1306 kw_1307 hyX9_instance (Nat.le_of_ble_eq_true rfl) (Nat.le_of_ble_eq_true rfl) rfl rfl (Nat.le_of_ble_eq_true rfl) dL_areSums_24 ?_
    refine z_iadd C dL_areSums_27 ?_
    refine z_istore_n (lv2 := [(1, .int (u1 + c2.2)), (0, .ref x0), (2, .int x2), (3, .int x3), (4, .int u4)]) C dL_areSums_28 rfl (by decide) rfl ?_
    refine z_iinc (lv2 := [(4, .int (u4 + (zi 1))), (1, .int (u1 + c2.2)), (0, .ref x0), (2, .int x2), (3, .int x3)]) C (u4 + (zi 1)) dL_areSums_29 4 rfl rfl (by decide) rfl ?_
    refine z_goto C 9 dL_areSums_32 (by decide) ?_
    cases hf
    refine z_sub [2, 1, 3, 4, 0] rfl ?_
    exact hk.1 _ rfl

theorem wsL_areSums_9 (C : zC p s m args meth c cL_areSums RL 5 D Ca B En) (hRm : zRm R 4 86 cells slots) (x0 : Nat) (x2 : Int32) (x3 : Int32) (n : Nat) (z : (zS × Int32 × Int32)) (x : (zS × Int32)) (hf : zloop (sL_areSums_9 x0 x2 x3) n z = some x) (hk : (∀ o : (zS × Int32), x = o → zW p l e R s m args below meth c cells slots Q D Ca B 5 o.1 N 35 [(0, .ref x0), (1, .int o.2), (2, .int x2), (3, .int x3)] [])) : zW p l e R s m args below meth c cells slots Q D Ca B 5 z.1 N 9 [(0, .ref x0), (1, .int z.2.1), (2, .int x2), (3, .int x3), (4, .int z.2.2)] [] := by
  refine zloop_W (P := fun z : (zS × Int32 × Int32) => zW p l e R s m args below meth c cells slots Q D Ca B 5 z.1 N 9 [(0, .ref x0), (1, .int z.2.1), (2, .int x2), (3, .int x3), (4, .int z.2.2)] []) (K := fun x : (zS × Int32) => (∀ o : (zS × Int32), x = o → zW p l e R s m args below meth c cells slots Q D Ca B 5 o.1 N 35 [(0, .ref x0), (1, .int o.2), (2, .int x2), (3, .int x3)] [])) ?_ n z x hf hk
  intro z y hy h1 h2
  refine wsL_areSums_9b C hRm x0 x2 x3 z.1 z.2.1 z.2.2 y hy ⟨fun z2 e => h1 z2 e, fun o e => (h2 _ e) o rfl⟩
set_option maxRecDepth 100000 in
set_option maxHeartbeats 4000000 in
theorem wsL_areSums_38b (C : zC p s m args meth c cL_areSums RL 5 D Ca B En) (hRm : zRm R 4 86 cells slots) (x0 : Nat) (x1 : Int32) (σ : zS) (u2 : Int32) (u3 : Int32) (u4 : Int32) (y : (zS × Int32 × Int32 × Int32) ⊕ (zS ⊕ (zS × Int32 × Int32))) (hf : sL_areSums_38b x0 x1 σ u2 u3 u4 = some y) (hk : (∀ z : (zS × Int32 × Int32 × Int32), y = .inl z → zW p l e R s m args below meth c cells slots Q D Ca B 5 z.1 N 38 [(0, .ref x0), (1, .int x1), (2, .int z.2.1), (3, .int z.2.2.1), (4, .int z.2.2.2)] []) ∧ (∀ z : zS, y = .inr (.inl z) → zW p l e R s m args below meth c cells slots Q D Ca B 5 z N 108 [] []) ∧ (∀ z : (zS × Int32 × Int32), y = .inr (.inr z) → zW p l e R s m args below meth c cells slots Q D Ca B 5 z.1 N 116 [(0, .ref x0), (1, .int x1), (2, .int z.2.1), (3, .int z.2.2)] [])) : zW p l e R s m args below meth c cells slots Q D Ca B 5 σ N 38 [(0, .ref x0), (1, .int x1), (2, .int u2), (3, .int u3), (4, .int u4)] [] := by
  unfold sL_areSums_38b at hf
  refine z_iload C dL_areSums_38 4 rfl ?_
  refine z_aload_n C dL_areSums_40 rfl 0 rfl ?_
  refine z_iconst C (zi 0) dL_areSums_41 (by decide) ?_
  obtain ⟨c5, hc5, hf⟩ := zbind hf
  obtain ⟨kc5, hc5⟩ := zck_ok hc5
  refine z_callVi (As := [.int ((zi 0))]) (F0 := 4) (L0 := 86) C (mX9_count l D Ca B En C.2.2.2.2.2.2.2.1 σ N x0 ((zi 0)) _ hc5) hRm kc5 rfl kw_481 kw_1 kw_478 kw_479 kw_480 hyX9_count (Nat.le_of_ble_eq_true rfl) (Nat.le_of_ble_eq_true rfl) rfl rfl (Nat.le_of_ble_eq_true rfl) dL_areSums_42 ?_
  refine z_icmp_ge C 116 dL_areSums_45 (by decide) (fun q15 => ?_) (fun q15 => ?_)
  · rw [if_pos q15] at hf
    cases hf
    refine z_sub [0, 1, 2, 3] rfl ?_
    exact hk.2.2 _ rfl
  · rw [if_neg q15] at hf
    refine z_iload_n C dL_areSums_48 rfl 2 rfl ?_
    refine z_aload_n C dL_areSums_49 rfl 0 rfl ?_
    refine z_iload C dL_areSums_50 4 rfl ?_
    refine z_iconst C (zi 3) dL_areSums_52 (by decide) ?_
    obtain ⟨c6, hc6, hf⟩ := zbind hf
    obtain ⟨kc6, hc6⟩ := zck_ok hc6
    refine z_callVi (As := [.int u4, .int ((zi 3))]) (F0 := 4) (L0 := 86) C (mX9_source l D Ca B En C.2.2.2.2.2.2.2.1 c5.1 N x0 u4 ((zi 3)) _ hc6) hRm kc6 rfl kw_1327 kw_1 kw_1324 kw_1325 kw_1326 hyX9_source (Nat.le_of_ble_eq_true rfl) (Nat.le_of_ble_eq_true rfl) rfl rfl (Nat.le_of_ble_eq_true rfl) dL_areSums_53 ?_
    refine z_aload_n C dL_areSums_56 rfl 0 rfl ?_
    refine z_iload C dL_areSums_57 4 rfl ?_
    obtain ⟨c7, hc7, hf⟩ := zbind hf
    obtain ⟨kc7, hc7⟩ := zck_ok hc7
    refine z_callVi (As := [.int u4]) (F0 := 4) (L0 := 86) C (mX9_notedPosition l D Ca B En C.2.2.2.2.2.2.2.1 c6.1 N x0 u4 _ hc7) hRm kc7 rfl kw_1331 kw_1 kw_1328 kw_1329 kw_1330 hyX9_notedPosition (Nat.le_of_ble_eq_true rfl) (Nat.le_of_ble_eq_true rfl) rfl rfl (Nat.le_of_ble_eq_true rfl) dL_areSums_59 ?_
    refine z_isub C dL_areSums_62 ?_
    refine z_iadd C dL_areSums_63 ?_
    refine z_istore_n (lv2 := [(2, .int (u2 + (c6.2 - c7.2))), (0, .ref x0), (1, .int x1), (3, .int u3), (4, .int u4)]) C dL_areSums_64 rfl (by decide) rfl ?_
    refine z_iload_n C dL_areSums_65 rfl 3 rfl ?_
    refine z_aload_n C dL_areSums_66 rfl 1 rfl ?_
    refine z_iload C dL_areSums_67 4 rfl ?_
    refine z_iconst C (zi 3) dL_areSums_69 (by decide) ?_
    obtain ⟨c8, hc8, hf⟩ := zbind hf
    obtain ⟨kc8, hc8⟩ := zck_ok hc8
    refine z_callVi (As := [.int u4, .int ((zi 3))]) (F0 := 4) (L0 := 86) C (mX9_source l D Ca B En C.2.2.2.2.2.2.2.1 c7.1 N x0 u4 ((zi 3)) _ hc8) hRm kc8 rfl kw_1327 kw_1 kw_1324 kw_1325 kw_1326 hyX9_source (Nat.le_of_ble_eq_true rfl) (Nat.le_of_ble_eq_true rfl) rfl rfl (Nat.le_of_ble_eq_true rfl) dL_areSums_70 ?_
    refine z_iadd C dL_areSums_73 ?_
    refine z_istore_n (lv2 := [(3, .int (u3 + c8.2)), (2, .int (u2 + (c6.2 - c7.2))), (0, .ref x0), (1, .int x1), (4, .int u4)]) C dL_areSums_74 rfl (by decide) rfl ?_
    refine z_aload_n C dL_areSums_75 rfl 2 rfl ?_
    refine z_iload C dL_areSums_76 4 rfl ?_
    obtain ⟨c9, hc9, hf⟩ := zbind hf
    obtain ⟨kc9, hc9⟩ := zck_ok hc9
    refine z_callVi (As := [.int u4]) (F0 := 4) (L0 := 86) C (mX9_notedPosition l D Ca B En C.2.2.2.2.2.2.2.1 c8.1 N x0 u4 _ hc9) hRm kc9 rfl kw_1331 kw_1 kw_1328 kw_1329 kw_1330 hyX9_notedPosition (Nat.le_of_ble_eq_true rfl) (Nat.le_of_ble_eq_true rfl) rfl rfl (Nat.le_of_ble_eq_true rfl) dL_areSums_78 ?_
    refine z_aload_n C dL_areSums_81 rfl 2 rfl ?_
    refine z_iload C dL_areSums_82 4 rfl ?_
    refine z_iconst C (zi 3) dL_areSums_84 (by decide) ?_
    obtain ⟨c10, hc10, hf⟩ := zbind hf
    obtain ⟨kc10, hc10⟩ := zck_ok hc10
    refine z_callVi (As := [.int u4, .int ((zi 3))]) (F0 := 4) (L0 := 86) C (mX9_source l D Ca B En C.2.2.2.2.2.2.2.1 c9.1 N x0 u4 ((zi 3)) _ hc10) hRm kc10 rfl kw_1327 kw_1 kw_1324 kw_1325 kw_1326 hyX9_source (Nat.le_of_ble_eq_true rfl) (Nat.le_of_ble_eq_true rfl) rfl rfl (Nat.le_of_ble_eq_true rfl) dL_areSums_85 ?_
    refine z_icmp_gt C 108 dL_areSums_88 (by decide) (fun q14 => ?_) (fun q14 => ?_)
    · rw [if_pos q14] at hf
      cases hf
      refine z_sub [] rfl ?_
      exact hk.2.1 _ rfl
    · rw [if_neg q14] at hf
      refine z_aload_n C dL_areSums_91 rfl 2 rfl ?_
      refine z_iload C dL_areSums_92 4 rfl ?_
      refine z_iconst C (zi 3) dL_areSums_94 (by decide) ?_
      obtain ⟨c11, hc11, hf⟩ := zbind hf
      obtain ⟨kc11, hc11⟩ := zck_ok hc11
      refine z_callVi (As := [.int u4, .int ((zi 3))]) (F0 := 4) (L0 := 86) C (mX9_source l D Ca B En C.2.2.2.2.2.2.2.1 c10.1 N x0 u4 ((zi 3)) _ hc11) hRm kc11 rfl kw_1327 kw_1 kw_1324 kw_1325 kw_1326 hyX9_source (Nat.le_of_ble_eq_true rfl) (Nat.le_of_ble_eq_true rfl) rfl rfl (Nat.le_of_ble_eq_true rfl) dL_areSums_95 ?_
      refine z_aload_n C dL_areSums_98 rfl 2 rfl ?_
      refine z_iload C dL_areSums_99 4 rfl ?_
      refine z_iconst C (zi 0) dL_areSums_101 (by decide) ?_
      obtain ⟨c12, hc12, hf⟩ := zbind hf
      obtain ⟨kc12, hc12⟩ := zck_ok hc12
      refine z_callVi (As := [.int u4, .int ((zi 0))]) (F0 := 4) (L0 := 86) C (mX9_source l D Ca B En C.2.2.2.2.2.2.2.1 c11.1 N x0 u4 ((zi 0)) _ hc12) hRm kc12 rfl kw_1327 kw_1 kw_1324 kw_1325 kw_1326 hyX9_source (Nat.le_of_ble_eq_true rfl) (Nat.le_of_ble_eq_true rfl) rfl rfl (Nat.le_of_ble_eq_true rfl) dL_areSums_102 ?_
      refine z_icmp_le C 110 dL_areSums_105 (by decide) (fun q13 => ?_) (fun q13 => ?_)
      · rw [if_pos q13] at hf
        refine z_iinc (lv2 := [(4, .int (u4 + (zi 1))), (3, .int (u3 + c8.2)), (2, .int (u2 + (c6.2 - c7.2))), (0, .ref x0), (1, .int x1)]) C (u4 + (zi 1)) dL_areSums_110 4 rfl rfl (by decide) rfl ?_
        refine z_goto C 38 dL_areSums_113 (by decide) ?_
        cases hf
        refine z_sub [3, 4, 2, 1, 0] rfl ?_
        exact hk.1 _ rfl
      · rw [if_neg q13] at hf
        cases hf
        refine z_sub [] rfl ?_
        exact hk.2.1 _ rfl

theorem wsL_areSums_38 (C : zC p s m args meth c cL_areSums RL 5 D Ca B En) (hRm : zRm R 4 86 cells slots) (x0 : Nat) (x1 : Int32) (n : Nat) (z : (zS × Int32 × Int32 × Int32)) (x : (zS ⊕ (zS × Int32 × Int32))) (hf : zloop (sL_areSums_38 x0 x1) n z = some x) (hk : (∀ o : zS, x = (.inl o) → zW p l e R s m args below meth c cells slots Q D Ca B 5 o N 108 [] []) ∧ (∀ o : (zS × Int32 × Int32), x = (.inr o) → zW p l e R s m args below meth c cells slots Q D Ca B 5 o.1 N 116 [(0, .ref x0), (1, .int x1), (2, .int o.2.1), (3, .int o.2.2)] [])) : zW p l e R s m args below meth c cells slots Q D Ca B 5 z.1 N 38 [(0, .ref x0), (1, .int x1), (2, .int z.2.1), (3, .int z.2.2.1), (4, .int z.2.2.2)] [] := by
  refine zloop_W (P := fun z : (zS × Int32 × Int32 × Int32) => zW p l e R s m args below meth c cells slots Q D Ca B 5 z.1 N 38 [(0, .ref x0), (1, .int x1), (2, .int z.2.1), (3, .int z.2.2.1), (4, .int z.2.2.2)] []) (K := fun x : (zS ⊕ (zS × Int32 × Int32)) => (∀ o : zS, x = (.inl o) → zW p l e R s m args below meth c cells slots Q D Ca B 5 o N 108 [] []) ∧ (∀ o : (zS × Int32 × Int32), x = (.inr o) → zW p l e R s m args below meth c cells slots Q D Ca B 5 o.1 N 116 [(0, .ref x0), (1, .int x1), (2, .int o.2.1), (3, .int o.2.2)] [])) ?_ n z x hf hk
  intro z y hy h1 h2
  refine wsL_areSums_38b C hRm x0 x1 z.1 z.2.1 z.2.2.1 z.2.2.2 y hy ⟨fun z2 e => h1 z2 e, fun o e => (h2 _ e).1 o rfl, fun o e => (h2 _ e).2 o rfl⟩
set_option maxRecDepth 100000 in
set_option maxHeartbeats 4000000 in
theorem wsL_areSums_119b (C : zC p s m args meth c cL_areSums RL 5 D Ca B En) (hRm : zRm R 4 86 cells slots) (x0 : Nat) (x1 : Int32) (x2 : Int32) (x3 : Int32) (σ : zS) (u4 : Int32) (y : (zS × Int32) ⊕ (zS ⊕ zS)) (hf : sL_areSums_119b x0 x1 x2 x3 σ u4 = some y) (hk : (∀ z : (zS × Int32), y = .inl z → zW p l e R s m args below meth c cells slots Q D Ca B 5 z.1 N 119 [(0, .ref x0), (1, .int x1), (2, .int x2), (3, .int x3), (4, .int z.2)] []) ∧ (∀ z : zS, y = .inr (.inl z) → zW p l e R s m args below meth c cells slots Q D Ca B 5 z N 164 [] []) ∧ (∀ z : zS, y = .inr (.inr z) → zW p l e R s m args below meth c cells slots Q D Ca B 5 z N 172 [(0, .ref x0), (1, .int x1), (2, .int x2), (3, .int x3)] [])) : zW p l e R s m args below meth c cells slots Q D Ca B 5 σ N 119 [(0, .ref x0), (1, .int x1), (2, .int x2), (3, .int x3), (4, .int u4)] [] := by
  unfold sL_areSums_119b at hf
  refine z_iload C dL_areSums_119 4 rfl ?_
  refine z_bipush C (zi 16) dL_areSums_121 (by decide) ?_
  refine z_icmp_ge C 172 dL_areSums_123 (by decide) (fun q25 => ?_) (fun q25 => ?_)
  · rw [if_pos q25] at hf
    cases hf
    refine z_sub [0, 1, 2, 3] rfl ?_
    exact hk.2.2 _ rfl
  · rw [if_neg q25] at hf
    refine z_aload_n C dL_areSums_126 rfl 0 rfl ?_
    refine z_iload C dL_areSums_127 4 rfl ?_
    obtain ⟨c19, hc19, hf⟩ := zbind hf
    obtain ⟨kc19, hc19⟩ := zck_ok hc19
    refine z_callVi (As := [.int u4]) (F0 := 4) (L0 := 86) C (mX9_notedSum l D Ca B En C.2.2.2.2.2.2.2.1 σ N x0 u4 _ hc19) hRm kc19 rfl kw_1335 kw_1 kw_1332 kw_1333 kw_1334 hyX9_notedSum (Nat.le_of_ble_eq_true rfl) (Nat.le_of_ble_eq_true rfl) rfl rfl (Nat.le_of_ble_eq_true rfl) dL_areSums_129 ?_
    refine z_aload_n C dL_areSums_132 rfl 0 rfl ?_
    refine z_iload C dL_areSums_133 4 rfl ?_
    obtain ⟨c20, hc20, hf⟩ := zbind hf
    obtain ⟨kc20, hc20⟩ := zck_ok hc20
    refine z_callVi (As := [.int u4]) (F0 := 4) (L0 := 86) C (mX9_sum l D Ca B En C.2.2.2.2.2.2.2.1 c19.1 N x0 u4 _ hc20) hRm kc20 rfl kw_1339 kw_1 kw_1336 kw_1337 kw_1338 hyX9_sum (Nat.le_of_ble_eq_true rfl) (Nat.le_of_ble_eq_true rfl) rfl rfl (Nat.le_of_ble_eq_true rfl) dL_areSums_135 ?_
    refine z_icmp_gt C 164 dL_areSums_138 (by decide) (fun q24 => ?_) (fun q24 => ?_)
    · rw [if_pos q24] at hf
      cases hf
      refine z_sub [] rfl ?_
      exact hk.2.1 _ rfl
    · rw [if_neg q24] at hf
      refine z_aload_n C dL_areSums_141 rfl 0 rfl ?_
      refine z_iload C dL_areSums_142 4 rfl ?_
      obtain ⟨c21, hc21, hf⟩ := zbind hf
      obtain ⟨kc21, hc21⟩ := zck_ok hc21
      refine z_callVi (As := [.int u4]) (F0 := 4) (L0 := 86) C (mX9_owner l D Ca B En C.2.2.2.2.2.2.2.1 c20.1 N x0 u4 _ hc21) hRm kc21 rfl kw_1343 kw_1 kw_1340 kw_1341 kw_1342 hyX9_owner (Nat.le_of_ble_eq_true rfl) (Nat.le_of_ble_eq_true rfl) rfl rfl (Nat.le_of_ble_eq_true rfl) dL_areSums_144 ?_
      refine z_iload C dL_areSums_147 4 rfl ?_
      refine z_bipush C (zi 8) dL_areSums_149 (by decide) ?_
      refine z_irem C dL_areSums_151 (by decide) ?_
      refine z_aload_n C dL_areSums_152 rfl 0 rfl ?_
      refine z_iconst C (zi 1) dL_areSums_153 (by decide) ?_
      obtain ⟨c22, hc22, hf⟩ := zbind hf
      obtain ⟨kc22, hc22⟩ := zck_ok hc22
      refine z_callVi (As := [.int ((zi 1))]) (F0 := 4) (L0 := 86) C (mX9_count l D Ca B En C.2.2.2.2.2.2.2.1 c21.1 N x0 ((zi 1)) _ hc22) hRm kc22 rfl kw_481 kw_1 kw_478 kw_479 kw_480 hyX9_count (Nat.le_of_ble_eq_true rfl) (Nat.le_of_ble_eq_true rfl) rfl rfl (Nat.le_of_ble_eq_true rfl) dL_areSums_154 ?_
      refine z_imul C dL_areSums_157 ?_
      refine z_bipush C (zi 8) dL_areSums_158 (by decide) ?_
      refine z_idiv C dL_areSums_160 (by decide) ?_
      refine z_icmp_eq C 166 dL_areSums_161 (by decide) (fun q23 => ?_) (fun q23 => ?_)
      · rw [if_pos q23] at hf
        refine z_iinc (lv2 := [(4, .int (u4 + (zi 1))), (0, .ref x0), (1, .int x1), (2, .int x2), (3, .int x3)]) C (u4 + (zi 1)) dL_areSums_166 4 rfl rfl (by decide) rfl ?_
        refine z_goto C 119 dL_areSums_169 (by decide) ?_
        cases hf
        refine z_sub [1, 2, 3, 4, 0] rfl ?_
        exact hk.1 _ rfl
      · rw [if_neg q23] at hf
        cases hf
        refine z_sub [] rfl ?_
        exact hk.2.1 _ rfl

theorem wsL_areSums_119 (C : zC p s m args meth c cL_areSums RL 5 D Ca B En) (hRm : zRm R 4 86 cells slots) (x0 : Nat) (x1 : Int32) (x2 : Int32) (x3 : Int32) (n : Nat) (z : (zS × Int32)) (x : (zS ⊕ zS)) (hf : zloop (sL_areSums_119 x0 x1 x2 x3) n z = some x) (hk : (∀ o : zS, x = (.inl o) → zW p l e R s m args below meth c cells slots Q D Ca B 5 o N 164 [] []) ∧ (∀ o : zS, x = (.inr o) → zW p l e R s m args below meth c cells slots Q D Ca B 5 o N 172 [(0, .ref x0), (1, .int x1), (2, .int x2), (3, .int x3)] [])) : zW p l e R s m args below meth c cells slots Q D Ca B 5 z.1 N 119 [(0, .ref x0), (1, .int x1), (2, .int x2), (3, .int x3), (4, .int z.2)] [] := by
  refine zloop_W (P := fun z : (zS × Int32) => zW p l e R s m args below meth c cells slots Q D Ca B 5 z.1 N 119 [(0, .ref x0), (1, .int x1), (2, .int x2), (3, .int x3), (4, .int z.2)] []) (K := fun x : (zS ⊕ zS) => (∀ o : zS, x = (.inl o) → zW p l e R s m args below meth c cells slots Q D Ca B 5 o N 164 [] []) ∧ (∀ o : zS, x = (.inr o) → zW p l e R s m args below meth c cells slots Q D Ca B 5 o N 172 [(0, .ref x0), (1, .int x1), (2, .int x2), (3, .int x3)] [])) ?_ n z x hf hk
  intro z y hy h1 h2
  refine wsL_areSums_119b C hRm x0 x1 x2 x3 z.1 z.2 y hy ⟨fun z2 e => h1 z2 e, fun o e => (h2 _ e).1 o rfl, fun o e => (h2 _ e).2 o rfl⟩
set_option maxRecDepth 100000 in
set_option maxHeartbeats 4000000 in
theorem wjL_areSums_262 (C : zC p s m args meth c cL_areSums RL 5 D Ca B En) (hRm : zRm R 4 86 cells slots) (σ : zS)  (y0 : Int32) (y1 : Int32) (τ : zS) (r : Int32) (hf : jL_areSums_262 σ  y0 y1 = some (τ, r)) (hq : ∀ (pc : Nat) (lv : List (Nat × Value)), (r = 0 ∨ r = 1) → decode cL_areSums pc = .ok (.ireturn, 1) → zW p l e R s m args below meth c cells slots Q D Ca B 5 τ N pc lv [.int r]) : zW p l e R s m args below meth c cells slots Q D Ca B 5 σ N 262 [] [.int y0, .int y1] := by
  unfold jL_areSums_262 at hf
  refine z_icmp_ne C 269 dL_areSums_262 (by decide) (fun q36 => ?_) (fun q36 => ?_)
  · rw [if_neg q36] at hf
    refine z_iconst C (zi 0) dL_areSums_269 (by decide) ?_
    obtain ⟨e9, b9⟩ := zrZ_ok hf
    cases e9
    exact hq _ _ b9 dL_areSums_270
  · rw [if_pos q36] at hf
    refine z_iconst C (zi 1) dL_areSums_265 (by decide) ?_
    refine z_goto C 270 dL_areSums_266 (by decide) ?_
    obtain ⟨e9, b9⟩ := zrZ_ok hf
    cases e9
    exact hq _ _ b9 dL_areSums_270

set_option maxRecDepth 100000 in
set_option maxHeartbeats 4000000 in
theorem wjL_areSums_248 (C : zC p s m args meth c cL_areSums RL 5 D Ca B En) (hRm : zRm R 4 86 cells slots) (σ : zS) (x0 : Nat) (y0 : Int32) (τ : zS) (r : Int32) (hf : jL_areSums_248 σ x0 y0 = some (τ, r)) (hq : ∀ (pc : Nat) (lv : List (Nat × Value)), (r = 0 ∨ r = 1) → decode cL_areSums pc = .ok (.ireturn, 1) → zW p l e R s m args below meth c cells slots Q D Ca B 5 τ N pc lv [.int r]) : zW p l e R s m args below meth c cells slots Q D Ca B 5 σ N 248 [(0, .ref x0)] [.int y0] := by
  unfold jL_areSums_248 at hf
  refine z_aload_n C dL_areSums_248 rfl 0 rfl ?_
  refine z_bipush C (zi 7) dL_areSums_249 (by decide) ?_
  obtain ⟨c35, hc35, hf⟩ := zbind hf
  obtain ⟨kc35, hc35⟩ := zck_ok hc35
  refine z_callVi (As := [.int ((zi 7))]) (F0 := 4) (L0 := 86) C (mX9_count l D Ca B En C.2.2.2.2.2.2.2.1 σ N x0 ((zi 7)) _ hc35) hRm kc35 rfl kw_481 kw_1 kw_478 kw_479 kw_480 hyX9_count (Nat.le_of_ble_eq_true rfl) (Nat.le_of_ble_eq_true rfl) rfl rfl (Nat.le_of_ble_eq_true rfl) dL_areSums_251 ?_
  refine z_if_ne C 261 dL_areSums_254 (by decide) (fun q37 => ?_) (fun q37 => ?_)
  · rw [if_neg q37] at hf
    refine z_iconst C (zi 0) dL_areSums_261 (by decide) ?_
    refine z_sub [] rfl ?_
    exact wjL_areSums_262 C hRm _  _ _ _ _ hf hq
  · rw [if_pos q37] at hf
    refine z_iconst C (zi 1) dL_areSums_257 (by decide) ?_
    refine z_goto C 262 dL_areSums_258 (by decide) ?_
    refine z_sub [] rfl ?_
    exact wjL_areSums_262 C hRm _  _ _ _ _ hf hq

set_option maxRecDepth 100000 in
set_option maxHeartbeats 4000000 in
theorem wjL_areSums_234 (C : zC p s m args meth c cL_areSums RL 5 D Ca B En) (hRm : zRm R 4 86 cells slots) (σ : zS) (x0 : Nat)  (τ : zS) (r : Int32) (hf : jL_areSums_234 σ x0  = some (τ, r)) (hq : ∀ (pc : Nat) (lv : List (Nat × Value)), (r = 0 ∨ r = 1) → decode cL_areSums pc = .ok (.ireturn, 1) → zW p l e R s m args below meth c cells slots Q D Ca B 5 τ N pc lv [.int r]) : zW p l e R s m args below meth c cells slots Q D Ca B 5 σ N 234 [(0, .ref x0)] [] := by
  unfold jL_areSums_234 at hf
  refine z_aload_n C dL_areSums_234 rfl 0 rfl ?_
  refine z_iconst C (zi 0) dL_areSums_235 (by decide) ?_
  obtain ⟨c34, hc34, hf⟩ := zbind hf
  obtain ⟨kc34, hc34⟩ := zck_ok hc34
  refine z_callVi (As := [.int ((zi 0))]) (F0 := 4) (L0 := 86) C (mX9_completed l D Ca B En C.2.2.2.2.2.2.2.1 σ N x0 ((zi 0)) _ hc34) hRm kc34 rfl kw_565 kw_1 kw_562 kw_563 kw_564 hyX9_completed (Nat.le_of_ble_eq_true rfl) (Nat.le_of_ble_eq_true rfl) rfl rfl (Nat.le_of_ble_eq_true rfl) dL_areSums_236 ?_
  refine z_iconst C (zi (-1)) dL_areSums_239 (by decide) ?_
  refine z_icmp_ne C 247 dL_areSums_240 (by decide) (fun q38 => ?_) (fun q38 => ?_)
  · rw [if_neg q38] at hf
    refine z_iconst C (zi 0) dL_areSums_247 (by decide) ?_
    refine z_sub [0] rfl ?_
    exact wjL_areSums_248 C hRm _ _ _ _ _ hf hq
  · rw [if_pos q38] at hf
    refine z_iconst C (zi 1) dL_areSums_243 (by decide) ?_
    refine z_goto C 248 dL_areSums_244 (by decide) ?_
    refine z_sub [0] rfl ?_
    exact wjL_areSums_248 C hRm _ _ _ _ _ hf hq

set_option maxRecDepth 100000 in
set_option maxHeartbeats 4000000 in
theorem wfL_areSums (C : zC p s m args meth c cL_areSums RL 5 D Ca B En) (hRm : zRm R 4 86 cells slots) (σ : zS) (x0 : Nat) (τ : zS) (r : Int32) (hf : fL_areSums σ x0 = some (τ, r)) (hq : ∀ (pc : Nat) (lv : List (Nat × Value)), (r = 0 ∨ r = 1) → decode cL_areSums pc = .ok (.ireturn, 1) → zW p l e R s m args below meth c cells slots Q D Ca B 5 τ N pc lv [.int r]) : zW p l e R s m args below meth c cells slots Q D Ca B 5 σ N 0 [(0, .ref x0)] [] := by
  unfold fL_areSums at hf
  refine z_iconst C (zi 0) dL_areSums_0 (by decide) ?_
  refine z_istore_n (lv2 := [(1, .int ((zi 0))), (0, .ref x0)]) C dL_areSums_1 rfl (by decide) rfl ?_
  refine z_iconst C (zi 0) dL_areSums_2 (by decide) ?_
  refine z_istore_n (lv2 := [(2, .int ((zi 0))), (1, .int ((zi 0))), (0, .ref x0)]) C dL_areSums_3 rfl (by decide) rfl ?_
  refine z_iconst C (zi 0) dL_areSums_4 (by decide) ?_
  refine z_istore_n (lv2 := [(3, .int ((zi 0))), (2, .int ((zi 0))), (1, .int ((zi 0))), (0, .ref x0)]) C dL_areSums_5 rfl (by decide) rfl ?_
  refine z_iconst C (zi 0) dL_areSums_6 (by decide) ?_
  refine z_istore (lv2 := [(4, .int ((zi 0))), (3, .int ((zi 0))), (2, .int ((zi 0))), (1, .int ((zi 0))), (0, .ref x0)]) C dL_areSums_7 (by decide) rfl ?_
  obtain ⟨o4, ho4, hf⟩ := zbind hf
  refine z_sub [4, 3, 2, 1, 0] rfl ?_
  refine wsL_areSums_9 C hRm _ _ _ zfuel (σ, (zi 0), (zi 0)) o4 ho4 ?_
  intro z9 e9
  subst e9
  refine z_iconst C (zi 0) dL_areSums_35 (by decide) ?_
  refine z_istore (lv2 := [(4, .int ((zi 0))), (0, .ref x0), (1, .int o4.2), (2, .int ((zi 0))), (3, .int ((zi 0)))]) C dL_areSums_36 (by decide) rfl ?_
  obtain ⟨o16, ho16, hf⟩ := zbind hf
  refine z_sub [1, 2, 3, 4, 0] rfl ?_
  refine wsL_areSums_38 C hRm _ _ zfuel (o4.1, (zi 0), (zi 0), (zi 0)) o16 ho16 ⟨?_, ?_⟩
  · intro z17 e9
    subst e9
    dsimp only at hf
    refine z_iconst C (zi 0) dL_areSums_108 (by decide) ?_
    obtain ⟨e9, b9⟩ := zrZ_ok hf
    cases e9
    exact hq _ _ b9 dL_areSums_109
  · intro z18 e9
    subst e9
    dsimp only at hf
    refine z_iconst C (zi 0) dL_areSums_116 (by decide) ?_
    refine z_istore (lv2 := [(4, .int ((zi 0))), (0, .ref x0), (1, .int o4.2), (2, .int z18.2.1), (3, .int z18.2.2)]) C dL_areSums_117 (by decide) rfl ?_
    obtain ⟨o26, ho26, hf⟩ := zbind hf
    refine z_sub [1, 2, 3, 4, 0] rfl ?_
    refine wsL_areSums_119 C hRm _ _ _ _ zfuel (z18.1, (zi 0)) o26 ho26 ⟨?_, ?_⟩
    · intro z27 e9
      subst e9
      dsimp only at hf
      refine z_iconst C (zi 0) dL_areSums_164 (by decide) ?_
      obtain ⟨e9, b9⟩ := zrZ_ok hf
      cases e9
      exact hq _ _ b9 dL_areSums_165
    · intro z28 e9
      subst e9
      dsimp only at hf
      refine z_iload_n C dL_areSums_172 rfl 1 rfl ?_
      refine z_bipush C (zi 8) dL_areSums_173 (by decide) ?_
      refine z_icmp_ne C 269 dL_areSums_175 (by decide) (fun q46 => ?_) (fun q46 => ?_)
      · rw [if_neg q46] at hf
        refine z_iconst C (zi 0) dL_areSums_269 (by decide) ?_
        obtain ⟨e9, b9⟩ := zrZ_ok hf
        cases e9
        exact hq _ _ b9 dL_areSums_270
      · rw [if_pos q46] at hf
        refine z_iload_n C dL_areSums_178 rfl 2 rfl ?_
        refine z_aload_n C dL_areSums_179 rfl 0 rfl ?_
        obtain ⟨c29, hc29, hf⟩ := zbind hf
        obtain ⟨kc29, hc29⟩ := zck_ok hc29
        refine z_callVi (As := []) (F0 := 4) (L0 := 86) C (mX9_atRisk l D Ca B En C.2.2.2.2.2.2.2.1 z28 N x0  _ hc29) hRm kc29 rfl kw_569 kw_1 kw_566 kw_567 kw_568 hyX9_atRisk (Nat.le_of_ble_eq_true rfl) (Nat.le_of_ble_eq_true rfl) rfl rfl (Nat.le_of_ble_eq_true rfl) dL_areSums_180 ?_
        refine z_icmp_ne C 269 dL_areSums_183 (by decide) (fun q45 => ?_) (fun q45 => ?_)
        · rw [if_neg q45] at hf
          refine z_iconst C (zi 0) dL_areSums_269 (by decide) ?_
          obtain ⟨e9, b9⟩ := zrZ_ok hf
          cases e9
          exact hq _ _ b9 dL_areSums_270
        · rw [if_pos q45] at hf
          refine z_iload_n C dL_areSums_186 rfl 3 rfl ?_
          refine z_aload_n C dL_areSums_187 rfl 0 rfl ?_
          refine z_bipush C (zi 9) dL_areSums_188 (by decide) ?_
          obtain ⟨c30, hc30, hf⟩ := zbind hf
          obtain ⟨kc30, hc30⟩ := zck_ok hc30
          refine z_callVi (As := [.int ((zi 9))]) (F0 := 4) (L0 := 86) C (mX9_count l D Ca B En C.2.2.2.2.2.2.2.1 c29.1 N x0 ((zi 9)) _ hc30) hRm kc30 rfl kw_481 kw_1 kw_478 kw_479 kw_480 hyX9_count (Nat.le_of_ble_eq_true rfl) (Nat.le_of_ble_eq_true rfl) rfl rfl (Nat.le_of_ble_eq_true rfl) dL_areSums_190 ?_
          refine z_icmp_gt C 269 dL_areSums_193 (by decide) (fun q44 => ?_) (fun q44 => ?_)
          · rw [if_pos q44] at hf
            refine z_iconst C (zi 0) dL_areSums_269 (by decide) ?_
            obtain ⟨e9, b9⟩ := zrZ_ok hf
            cases e9
            exact hq _ _ b9 dL_areSums_270
          · rw [if_neg q44] at hf
            refine z_aload_n C dL_areSums_196 rfl 0 rfl ?_
            refine z_bipush C (zi 7) dL_areSums_197 (by decide) ?_
            obtain ⟨c31, hc31, hf⟩ := zbind hf
            obtain ⟨kc31, hc31⟩ := zck_ok hc31
            refine z_callVi (As := [.int ((zi 7))]) (F0 := 4) (L0 := 86) C (mX9_count l D Ca B En C.2.2.2.2.2.2.2.1 c30.1 N x0 ((zi 7)) _ hc31) hRm kc31 rfl kw_481 kw_1 kw_478 kw_479 kw_480 hyX9_count (Nat.le_of_ble_eq_true rfl) (Nat.le_of_ble_eq_true rfl) rfl rfl (Nat.le_of_ble_eq_true rfl) dL_areSums_199 ?_
            refine z_aload_n C dL_areSums_202 rfl 0 rfl ?_
            refine z_bipush C (zi 6) dL_areSums_203 (by decide) ?_
            obtain ⟨c32, hc32, hf⟩ := zbind hf
            obtain ⟨kc32, hc32⟩ := zck_ok hc32
            refine z_callVi (As := [.int ((zi 6))]) (F0 := 4) (L0 := 86) C (mX9_count l D Ca B En C.2.2.2.2.2.2.2.1 c31.1 N x0 ((zi 6)) _ hc32) hRm kc32 rfl kw_481 kw_1 kw_478 kw_479 kw_480 hyX9_count (Nat.le_of_ble_eq_true rfl) (Nat.le_of_ble_eq_true rfl) rfl rfl (Nat.le_of_ble_eq_true rfl) dL_areSums_205 ?_
            refine z_icmp_gt C 269 dL_areSums_208 (by decide) (fun q43 => ?_) (fun q43 => ?_)
            · rw [if_pos q43] at hf
              refine z_iconst C (zi 0) dL_areSums_269 (by decide) ?_
              obtain ⟨e9, b9⟩ := zrZ_ok hf
              cases e9
              exact hq _ _ b9 dL_areSums_270
            · rw [if_neg q43] at hf
              refine z_aload_n C dL_areSums_211 rfl 0 rfl ?_
              refine z_iconst C (zi 0) dL_areSums_212 (by decide) ?_
              obtain ⟨c33, hc33, hf⟩ := zbind hf
              obtain ⟨kc33, hc33⟩ := zck_ok hc33
              refine z_callVi (As := [.int ((zi 0))]) (F0 := 4) (L0 := 86) C (mX9_progress l D Ca B En C.2.2.2.2.2.2.2.1 c32.1 N x0 ((zi 0)) _ hc33) hRm kc33 rfl kw_485 kw_1 kw_482 kw_483 kw_484 hyX9_progress (Nat.le_of_ble_eq_true rfl) (Nat.le_of_ble_eq_true rfl) rfl rfl (Nat.le_of_ble_eq_true rfl) dL_areSums_213 ?_
              refine z_iconst C (zi (-1)) dL_areSums_216 (by decide) ?_
              refine z_icmp_eq C 234 dL_areSums_217 (by decide) (fun q42 => ?_) (fun q42 => ?_)
              · rw [if_pos q42] at hf
                refine z_sub [0] rfl ?_
                exact wjL_areSums_234 C hRm _ _  _ _ hf hq
              · rw [if_neg q42] at hf
                refine z_aload_n C dL_areSums_220 rfl 0 rfl ?_
                refine z_iconst C (zi 0) dL_areSums_221 (by decide) ?_
                obtain ⟨c39, hc39, hf⟩ := zbind hf
                obtain ⟨kc39, hc39⟩ := zck_ok hc39
                refine z_callVi (As := [.int ((zi 0))]) (F0 := 4) (L0 := 86) C (mX9_progress l D Ca B En C.2.2.2.2.2.2.2.1 c33.1 N x0 ((zi 0)) _ hc39) hRm kc39 rfl kw_485 kw_1 kw_482 kw_483 kw_484 hyX9_progress (Nat.le_of_ble_eq_true rfl) (Nat.le_of_ble_eq_true rfl) rfl rfl (Nat.le_of_ble_eq_true rfl) dL_areSums_222 ?_
                refine z_aload_n C dL_areSums_225 rfl 0 rfl ?_
                refine z_bipush C (zi 6) dL_areSums_226 (by decide) ?_
                obtain ⟨c40, hc40, hf⟩ := zbind hf
                obtain ⟨kc40, hc40⟩ := zck_ok hc40
                refine z_callVi (As := [.int ((zi 6))]) (F0 := 4) (L0 := 86) C (mX9_count l D Ca B En C.2.2.2.2.2.2.2.1 c39.1 N x0 ((zi 6)) _ hc40) hRm kc40 rfl kw_481 kw_1 kw_478 kw_479 kw_480 hyX9_count (Nat.le_of_ble_eq_true rfl) (Nat.le_of_ble_eq_true rfl) rfl rfl (Nat.le_of_ble_eq_true rfl) dL_areSums_228 ?_
                refine z_icmp_ne C 269 dL_areSums_231 (by decide) (fun q41 => ?_) (fun q41 => ?_)
                · rw [if_neg q41] at hf
                  refine z_iconst C (zi 0) dL_areSums_269 (by decide) ?_
                  obtain ⟨e9, b9⟩ := zrZ_ok hf
                  cases e9
                  exact hq _ _ b9 dL_areSums_270
                · rw [if_pos q41] at hf
                  refine z_sub [0] rfl ?_
                  exact wjL_areSums_234 C hRm _ _  _ _ hf hq

theorem mL_areSums (l : Launch) (D : va_G) (Ca : Nat → ClassId) (B : Nat) (En : State → Prop) (hE : zEk B En) (σ : zS) (N : Nat) (x0 : Nat) (X : zS × Int32) (hf : fL_areSums σ x0 = some X) : zMi l D Ca B En yL_areSums cL_areSums 5 (Option.some Jvm.ClassFile.FieldType.boolean) 4 86 [.ref x0] σ N X.1 X.2 :=
  zMet_i (own := RL) hE (by decide +kernel) rfl (Nat.le_of_ble_eq_true rfl) (fun p e s m args below meth c C hr hRm => wfL_areSums C hRm σ x0 X.1 X.2 hf (fun pc lv hb hd => zfin_z C hb hr hd))
theorem dL_isOnce_0 : decode cL_isOnce 0 = .ok (.bipush 16, 2) := by decide +kernel
theorem dL_isOnce_2 : decode cL_isOnce 2 = .ok (.newarray .int, 2) := by decide +kernel
theorem dL_isOnce_4 : decode cL_isOnce 4 = .ok (.astore_n 1, 1) := by decide +kernel
theorem dL_isOnce_5 : decode cL_isOnce 5 = .ok (.iconst 0, 1) := by decide +kernel
theorem dL_isOnce_6 : decode cL_isOnce 6 = .ok (.istore_n 2, 1) := by decide +kernel
theorem dL_isOnce_7 : decode cL_isOnce 7 = .ok (.iload_n 2, 1) := by decide +kernel
theorem dL_isOnce_8 : decode cL_isOnce 8 = .ok (.aload_n 0, 1) := by decide +kernel
theorem dL_isOnce_9 : decode cL_isOnce 9 = .ok (.iconst 2, 1) := by decide +kernel
theorem dL_isOnce_10 : decode cL_isOnce 10 = .ok (.invokevirtual 113, 3) := by decide +kernel
theorem dL_isOnce_13 : decode cL_isOnce 13 = .ok (.if_icmp .ge 80, 3) := by decide +kernel
theorem dL_isOnce_16 : decode cL_isOnce 16 = .ok (.iconst 0, 1) := by decide +kernel
theorem dL_isOnce_17 : decode cL_isOnce 17 = .ok (.istore_n 3, 1) := by decide +kernel
theorem dL_isOnce_18 : decode cL_isOnce 18 = .ok (.iload_n 3, 1) := by decide +kernel
theorem dL_isOnce_19 : decode cL_isOnce 19 = .ok (.aload_n 0, 1) := by decide +kernel
theorem dL_isOnce_20 : decode cL_isOnce 20 = .ok (.iload_n 2, 1) := by decide +kernel
theorem dL_isOnce_21 : decode cL_isOnce 21 = .ok (.iconst 2, 1) := by decide +kernel
theorem dL_isOnce_22 : decode cL_isOnce 22 = .ok (.invokevirtual 116, 3) := by decide +kernel
theorem dL_isOnce_25 : decode cL_isOnce 25 = .ok (.if_icmp .ge 62, 3) := by decide +kernel
theorem dL_isOnce_28 : decode cL_isOnce 28 = .ok (.aload_n 0, 1) := by decide +kernel
theorem dL_isOnce_29 : decode cL_isOnce 29 = .ok (.iload_n 2, 1) := by decide +kernel
theorem dL_isOnce_30 : decode cL_isOnce 30 = .ok (.iload_n 3, 1) := by decide +kernel
theorem dL_isOnce_31 : decode cL_isOnce 31 = .ok (.iconst 0, 1) := by decide +kernel
theorem dL_isOnce_32 : decode cL_isOnce 32 = .ok (.invokevirtual 119, 3) := by decide +kernel
theorem dL_isOnce_35 : decode cL_isOnce 35 = .ok (.istore 4, 2) := by decide +kernel
theorem dL_isOnce_37 : decode cL_isOnce 37 = .ok (.aload_n 1, 1) := by decide +kernel
theorem dL_isOnce_38 : decode cL_isOnce 38 = .ok (.iload 4, 2) := by decide +kernel
theorem dL_isOnce_40 : decode cL_isOnce 40 = .ok (.dup2, 1) := by decide +kernel
theorem dL_isOnce_41 : decode cL_isOnce 41 = .ok (.iaload, 1) := by decide +kernel
theorem dL_isOnce_42 : decode cL_isOnce 42 = .ok (.iconst 1, 1) := by decide +kernel
theorem dL_isOnce_43 : decode cL_isOnce 43 = .ok (.iadd, 1) := by decide +kernel
theorem dL_isOnce_44 : decode cL_isOnce 44 = .ok (.iastore, 1) := by decide +kernel
theorem dL_isOnce_45 : decode cL_isOnce 45 = .ok (.aload_n 0, 1) := by decide +kernel
theorem dL_isOnce_46 : decode cL_isOnce 46 = .ok (.iload_n 2, 1) := by decide +kernel
theorem dL_isOnce_47 : decode cL_isOnce 47 = .ok (.iload_n 3, 1) := by decide +kernel
theorem dL_isOnce_48 : decode cL_isOnce 48 = .ok (.iconst 1, 1) := by decide +kernel
theorem dL_isOnce_49 : decode cL_isOnce 49 = .ok (.invokevirtual 119, 3) := by decide +kernel
theorem dL_isOnce_52 : decode cL_isOnce 52 = .ok (.aload_n 0, 1) := by decide +kernel
theorem dL_isOnce_53 : decode cL_isOnce 53 = .ok (.iload 4, 2) := by decide +kernel
theorem dL_isOnce_55 : decode cL_isOnce 55 = .ok (.aload_n 1, 1) := by decide +kernel
theorem dL_isOnce_56 : decode cL_isOnce 56 = .ok (.iload 4, 2) := by decide +kernel
theorem dL_isOnce_58 : decode cL_isOnce 58 = .ok (.iaload, 1) := by decide +kernel
theorem dL_isOnce_59 : decode cL_isOnce 59 = .ok (.invokevirtual 123, 3) := by decide +kernel
theorem dL_isOnce_62 : decode cL_isOnce 62 = .ok (.if_icmp .ne 17, 3) := by decide +kernel
theorem dL_isOnce_65 : decode cL_isOnce 65 = .ok (.iload 4, 2) := by decide +kernel
theorem dL_isOnce_67 : decode cL_isOnce 67 = .ok (.iconst 4, 1) := by decide +kernel
theorem dL_isOnce_68 : decode cL_isOnce 68 = .ok (.idiv, 1) := by decide +kernel
theorem dL_isOnce_69 : decode cL_isOnce 69 = .ok (.aload_n 0, 1) := by decide +kernel
theorem dL_isOnce_70 : decode cL_isOnce 70 = .ok (.iconst 2, 1) := by decide +kernel
theorem dL_isOnce_71 : decode cL_isOnce 71 = .ok (.invokevirtual 113, 3) := by decide +kernel
theorem dL_isOnce_74 : decode cL_isOnce 74 = .ok (.irem, 1) := by decide +kernel
theorem dL_isOnce_75 : decode cL_isOnce 75 = .ok (.iload_n 2, 1) := by decide +kernel
theorem dL_isOnce_76 : decode cL_isOnce 76 = .ok (.if_icmp .eq 5, 3) := by decide +kernel
theorem dL_isOnce_79 : decode cL_isOnce 79 = .ok (.iconst 0, 1) := by decide +kernel
theorem dL_isOnce_80 : decode cL_isOnce 80 = .ok (.ireturn, 1) := by decide +kernel
theorem dL_isOnce_81 : decode cL_isOnce 81 = .ok (.iinc 3 1, 3) := by decide +kernel
theorem dL_isOnce_84 : decode cL_isOnce 84 = .ok (.goto (-66), 3) := by decide +kernel
theorem dL_isOnce_87 : decode cL_isOnce 87 = .ok (.iinc 2 1, 3) := by decide +kernel
theorem dL_isOnce_90 : decode cL_isOnce 90 = .ok (.goto (-83), 3) := by decide +kernel
theorem dL_isOnce_93 : decode cL_isOnce 93 = .ok (.iconst 0, 1) := by decide +kernel
theorem dL_isOnce_94 : decode cL_isOnce 94 = .ok (.istore_n 2, 1) := by decide +kernel
theorem dL_isOnce_95 : decode cL_isOnce 95 = .ok (.iload_n 2, 1) := by decide +kernel
theorem dL_isOnce_96 : decode cL_isOnce 96 = .ok (.bipush 16, 2) := by decide +kernel
theorem dL_isOnce_98 : decode cL_isOnce 98 = .ok (.if_icmp .ge 22, 3) := by decide +kernel
theorem dL_isOnce_101 : decode cL_isOnce 101 = .ok (.aload_n 1, 1) := by decide +kernel
theorem dL_isOnce_102 : decode cL_isOnce 102 = .ok (.iload_n 2, 1) := by decide +kernel
theorem dL_isOnce_103 : decode cL_isOnce 103 = .ok (.iaload, 1) := by decide +kernel
theorem dL_isOnce_104 : decode cL_isOnce 104 = .ok (.aload_n 0, 1) := by decide +kernel
theorem dL_isOnce_105 : decode cL_isOnce 105 = .ok (.iload_n 2, 1) := by decide +kernel
theorem dL_isOnce_106 : decode cL_isOnce 106 = .ok (.invokevirtual 126, 3) := by decide +kernel
theorem dL_isOnce_109 : decode cL_isOnce 109 = .ok (.if_icmp .eq 5, 3) := by decide +kernel
theorem dL_isOnce_112 : decode cL_isOnce 112 = .ok (.iconst 0, 1) := by decide +kernel
theorem dL_isOnce_113 : decode cL_isOnce 113 = .ok (.ireturn, 1) := by decide +kernel
theorem dL_isOnce_114 : decode cL_isOnce 114 = .ok (.iinc 2 1, 3) := by decide +kernel
theorem dL_isOnce_117 : decode cL_isOnce 117 = .ok (.goto (-22), 3) := by decide +kernel
theorem dL_isOnce_120 : decode cL_isOnce 120 = .ok (.iconst 1, 1) := by decide +kernel
theorem dL_isOnce_121 : decode cL_isOnce 121 = .ok (.ireturn, 1) := by decide +kernel
set_option maxRecDepth 100000 in
set_option maxHeartbeats 4000000 in
theorem wsL_isOnce_18b (C : zC p s m args meth c cL_isOnce RL 5 D Ca B En) (hRm : zRm R 4 89 cells slots) (x0 : Nat) (x1 : Nat) (x2 : Int32) (σ : zS) (u3 : Int32) (y : (zS × Int32) ⊕ (zS ⊕ zS)) (hf : sL_isOnce_18b x0 x1 x2 σ u3 = some y) (hk : (∀ z : (zS × Int32), y = .inl z → zW p l e R s m args below meth c cells slots Q D Ca B 5 z.1 N 18 [(0, .ref x0), (1, .ref x1), (2, .int x2), (3, .int z.2)] []) ∧ (∀ z : zS, y = .inr (.inl z) → zW p l e R s m args below meth c cells slots Q D Ca B 5 z N 79 [] []) ∧ (∀ z : zS, y = .inr (.inr z) → zW p l e R s m args below meth c cells slots Q D Ca B 5 z N 87 [(0, .ref x0), (1, .ref x1), (2, .int x2)] [])) : zW p l e R s m args below meth c cells slots Q D Ca B 5 σ N 18 [(0, .ref x0), (1, .ref x1), (2, .int x2), (3, .int u3)] [] := by
  unfold sL_isOnce_18b at hf
  refine z_iload_n C dL_isOnce_18 rfl 3 rfl ?_
  refine z_aload_n C dL_isOnce_19 rfl 0 rfl ?_
  refine z_iload_n C dL_isOnce_20 rfl 2 rfl ?_
  refine z_iconst C (zi 2) dL_isOnce_21 (by decide) ?_
  obtain ⟨c2, hc2, hf⟩ := zbind hf
  obtain ⟨kc2, hc2⟩ := zck_ok hc2
  refine z_callVi (As := [.int x2, .int ((zi 2))]) (F0 := 4) (L0 := 89) C (mX9_sink l D Ca B En C.2.2.2.2.2.2.2.1 σ N x0 x2 ((zi 2)) _ hc2) hRm kc2 rfl kw_1246 kw_1 kw_1243 kw_1244 kw_1245 hyX9_sink (Nat.le_of_ble_eq_true rfl) (Nat.le_of_ble_eq_true rfl) rfl rfl (Nat.le_of_ble_eq_true rfl) dL_isOnce_22 ?_
  refine z_icmp_ge C 87 dL_isOnce_25 (by decide) (fun q13 => ?_) (fun q13 => ?_)
  · rw [if_pos q13] at hf
    cases hf
    refine z_sub [0, 1, 2] rfl ?_
    exact hk.2.2 _ rfl
  · rw [if_neg q13] at hf
    refine z_aload_n C dL_isOnce_28 rfl 0 rfl ?_
    refine z_iload_n C dL_isOnce_29 rfl 2 rfl ?_
    refine z_iload_n C dL_isOnce_30 rfl 3 rfl ?_
    refine z_iconst C (zi 0) dL_isOnce_31 (by decide) ?_
    obtain ⟨c3, hc3, hf⟩ := zbind hf
    obtain ⟨kc3, hc3⟩ := zck_ok hc3
    refine z_callVi (As := [.int x2, .int u3, .int ((zi 0))]) (F0 := 4) (L0 := 89) C (mX9_shown l D Ca B En C.2.2.2.2.2.2.2.1 c2.1 N x0 x2 u3 ((zi 0)) _ hc3) hRm kc3 rfl kw_1255 kw_1 kw_1252 kw_1253 kw_1254 hyX9_shown (Nat.le_of_ble_eq_true rfl) (Nat.le_of_ble_eq_true rfl) rfl rfl (Nat.le_of_ble_eq_true rfl) dL_isOnce_32 ?_
    refine z_istore (lv2 := [(4, .int c3.2), (0, .ref x0), (1, .ref x1), (2, .int x2), (3, .int u3)]) C dL_isOnce_35 (by decide) rfl ?_
    refine z_aload_n C dL_isOnce_37 rfl 2 rfl ?_
    refine z_iload C dL_isOnce_38 0 rfl ?_
    refine z_dup2 C dL_isOnce_40 rfl rfl ?_
    obtain ⟨v4, hv4, hf⟩ := zbind hf
    refine z_aI C hv4 dL_isOnce_41 ?_
    refine z_iconst C (zi 1) dL_isOnce_42 (by decide) ?_
    refine z_iadd C dL_isOnce_43 ?_
    obtain ⟨σ5, hσ5, hf⟩ := zbind hf
    refine z_sI C hσ5 dL_isOnce_44 ?_
    refine z_aload_n C dL_isOnce_45 rfl 1 rfl ?_
    refine z_iload_n C dL_isOnce_46 rfl 3 rfl ?_
    refine z_iload_n C dL_isOnce_47 rfl 4 rfl ?_
    refine z_iconst C (zi 1) dL_isOnce_48 (by decide) ?_
    obtain ⟨c6, hc6, hf⟩ := zbind hf
    obtain ⟨kc6, hc6⟩ := zck_ok hc6
    refine z_callVi (As := [.int x2, .int u3, .int ((zi 1))]) (F0 := 4) (L0 := 89) C (mX9_shown l D Ca B En C.2.2.2.2.2.2.2.1 σ5 N x0 x2 u3 ((zi 1)) _ hc6) hRm kc6 rfl kw_1255 kw_1 kw_1252 kw_1253 kw_1254 hyX9_shown (Nat.le_of_ble_eq_true rfl) (Nat.le_of_ble_eq_true rfl) rfl rfl (Nat.le_of_ble_eq_true rfl) dL_isOnce_49 ?_
    refine z_aload_n C dL_isOnce_52 rfl 1 rfl ?_
    refine z_iload C dL_isOnce_53 0 rfl ?_
    refine z_aload_n C dL_isOnce_55 rfl 2 rfl ?_
    refine z_iload C dL_isOnce_56 0 rfl ?_
    obtain ⟨v7, hv7, hf⟩ := zbind hf
    refine z_aI C hv7 dL_isOnce_58 ?_
    obtain ⟨c8, hc8, hf⟩ := zbind hf
    obtain ⟨kc8, hc8⟩ := zck_ok hc8
    refine z_callVi (As := [.int c3.2, .int v7]) (F0 := 4) (L0 := 89) C (mX9_expected l D Ca B En C.2.2.2.2.2.2.2.1 c6.1 N x0 c3.2 v7 _ hc8) hRm kc8 rfl kw_1285 kw_1 kw_1282 kw_1283 kw_1284 hyX9_expected (Nat.le_of_ble_eq_true rfl) (Nat.le_of_ble_eq_true rfl) rfl rfl (Nat.le_of_ble_eq_true rfl) dL_isOnce_59 ?_
    refine z_icmp_ne C 79 dL_isOnce_62 (by decide) (fun q12 => ?_) (fun q12 => ?_)
    · rw [if_neg q12] at hf
      cases hf
      refine z_sub [] rfl ?_
      exact hk.2.1 _ rfl
    · rw [if_pos q12] at hf
      refine z_iload C dL_isOnce_65 0 rfl ?_
      refine z_iconst C (zi 4) dL_isOnce_67 (by decide) ?_
      refine z_idiv C dL_isOnce_68 (by decide) ?_
      refine z_aload_n C dL_isOnce_69 rfl 1 rfl ?_
      refine z_iconst C (zi 2) dL_isOnce_70 (by decide) ?_
      obtain ⟨c9, hc9, hf⟩ := zbind hf
      obtain ⟨kc9, hc9⟩ := zck_ok hc9
      refine z_callVi (As := [.int ((zi 2))]) (F0 := 4) (L0 := 89) C (mX9_count l D Ca B En C.2.2.2.2.2.2.2.1 c8.1 N x0 ((zi 2)) _ hc9) hRm kc9 rfl kw_481 kw_1 kw_478 kw_479 kw_480 hyX9_count (Nat.le_of_ble_eq_true rfl) (Nat.le_of_ble_eq_true rfl) rfl rfl (Nat.le_of_ble_eq_true rfl) dL_isOnce_71 ?_
      obtain ⟨d10, hd10, hf⟩ := zbind hf
      refine z_irem C dL_isOnce_74 (znz_ok hd10) ?_
      refine z_iload_n C dL_isOnce_75 rfl 3 rfl ?_
      refine z_icmp_eq C 81 dL_isOnce_76 (by decide) (fun q11 => ?_) (fun q11 => ?_)
      · rw [if_pos q11] at hf
        refine z_iinc (lv2 := [(3, .int (u3 + (zi 1))), (4, .int c3.2), (0, .ref x0), (1, .ref x1), (2, .int x2)]) C (u3 + (zi 1)) dL_isOnce_81 4 rfl rfl (by decide) rfl ?_
        refine z_goto C 18 dL_isOnce_84 (by decide) ?_
        cases hf
        refine z_sub [2, 3, 4, 0] rfl ?_
        exact hk.1 _ rfl
      · rw [if_neg q11] at hf
        cases hf
        refine z_sub [] rfl ?_
        exact hk.2.1 _ rfl

theorem wsL_isOnce_18 (C : zC p s m args meth c cL_isOnce RL 5 D Ca B En) (hRm : zRm R 4 89 cells slots) (x0 : Nat) (x1 : Nat) (x2 : Int32) (n : Nat) (z : (zS × Int32)) (x : (zS ⊕ zS)) (hf : zloop (sL_isOnce_18 x0 x1 x2) n z = some x) (hk : (∀ o : zS, x = (.inl o) → zW p l e R s m args below meth c cells slots Q D Ca B 5 o N 79 [] []) ∧ (∀ o : zS, x = (.inr o) → zW p l e R s m args below meth c cells slots Q D Ca B 5 o N 87 [(0, .ref x0), (1, .ref x1), (2, .int x2)] [])) : zW p l e R s m args below meth c cells slots Q D Ca B 5 z.1 N 18 [(0, .ref x0), (1, .ref x1), (2, .int x2), (3, .int z.2)] [] := by
  refine zloop_W (P := fun z : (zS × Int32) => zW p l e R s m args below meth c cells slots Q D Ca B 5 z.1 N 18 [(0, .ref x0), (1, .ref x1), (2, .int x2), (3, .int z.2)] []) (K := fun x : (zS ⊕ zS) => (∀ o : zS, x = (.inl o) → zW p l e R s m args below meth c cells slots Q D Ca B 5 o N 79 [] []) ∧ (∀ o : zS, x = (.inr o) → zW p l e R s m args below meth c cells slots Q D Ca B 5 o N 87 [(0, .ref x0), (1, .ref x1), (2, .int x2)] [])) ?_ n z x hf hk
  intro z y hy h1 h2
  refine wsL_isOnce_18b C hRm x0 x1 x2 z.1 z.2 y hy ⟨fun z2 e => h1 z2 e, fun o e => (h2 _ e).1 o rfl, fun o e => (h2 _ e).2 o rfl⟩
set_option maxRecDepth 100000 in
set_option maxHeartbeats 4000000 in
theorem wsL_isOnce_7b (C : zC p s m args meth c cL_isOnce RL 5 D Ca B En) (hRm : zRm R 4 89 cells slots) (x0 : Nat) (x1 : Nat) (σ : zS) (u2 : Int32) (y : (zS × Int32) ⊕ (zS ⊕ zS)) (hf : sL_isOnce_7b x0 x1 σ u2 = some y) (hk : (∀ z : (zS × Int32), y = .inl z → zW p l e R s m args below meth c cells slots Q D Ca B 5 z.1 N 7 [(0, .ref x0), (1, .ref x1), (2, .int z.2)] []) ∧ (∀ z : zS, y = .inr (.inl z) → zW p l e R s m args below meth c cells slots Q D Ca B 5 z N 79 [] []) ∧ (∀ z : zS, y = .inr (.inr z) → zW p l e R s m args below meth c cells slots Q D Ca B 5 z N 93 [(0, .ref x0), (1, .ref x1)] [])) : zW p l e R s m args below meth c cells slots Q D Ca B 5 σ N 7 [(0, .ref x0), (1, .ref x1), (2, .int u2)] [] := by
  unfold sL_isOnce_7b at hf
  refine z_iload_n C dL_isOnce_7 rfl 2 rfl ?_
  refine z_aload_n C dL_isOnce_8 rfl 0 rfl ?_
  refine z_iconst C (zi 2) dL_isOnce_9 (by decide) ?_
  obtain ⟨c1, hc1, hf⟩ := zbind hf
  obtain ⟨kc1, hc1⟩ := zck_ok hc1
  refine z_callVi (As := [.int ((zi 2))]) (F0 := 4) (L0 := 89) C (mX9_count l D Ca B En C.2.2.2.2.2.2.2.1 σ N x0 ((zi 2)) _ hc1) hRm kc1 rfl kw_481 kw_1 kw_478 kw_479 kw_480 hyX9_count (Nat.le_of_ble_eq_true rfl) (Nat.le_of_ble_eq_true rfl) rfl rfl (Nat.le_of_ble_eq_true rfl) dL_isOnce_10 ?_
  refine z_icmp_ge C 93 dL_isOnce_13 (by decide) (fun q17 => ?_) (fun q17 => ?_)
  · rw [if_pos q17] at hf
    cases hf
    refine z_sub [0, 1] rfl ?_
    exact hk.2.2 _ rfl
  · rw [if_neg q17] at hf
    refine z_iconst C (zi 0) dL_isOnce_16 (by decide) ?_
    refine z_istore_n (lv2 := [(3, .int ((zi 0))), (0, .ref x0), (1, .ref x1), (2, .int u2)]) C dL_isOnce_17 rfl (by decide) rfl ?_
    obtain ⟨o14, ho14, hf⟩ := zbind hf
    refine z_sub [1, 2, 3, 0] rfl ?_
    refine wsL_isOnce_18 C hRm _ _ _ zfuel (c1.1, (zi 0)) o14 ho14 ⟨?_, ?_⟩
    · intro z15 e9
      subst e9
      dsimp only at hf
      cases hf
      refine z_sub [] rfl ?_
      exact hk.2.1 _ rfl
    · intro z16 e9
      subst e9
      dsimp only at hf
      refine z_iinc (lv2 := [(2, .int (u2 + (zi 1))), (0, .ref x0), (1, .ref x1)]) C (u2 + (zi 1)) dL_isOnce_87 2 rfl rfl (by decide) rfl ?_
      refine z_goto C 7 dL_isOnce_90 (by decide) ?_
      cases hf
      refine z_sub [1, 2, 0] rfl ?_
      exact hk.1 _ rfl

theorem wsL_isOnce_7 (C : zC p s m args meth c cL_isOnce RL 5 D Ca B En) (hRm : zRm R 4 89 cells slots) (x0 : Nat) (x1 : Nat) (n : Nat) (z : (zS × Int32)) (x : (zS ⊕ zS)) (hf : zloop (sL_isOnce_7 x0 x1) n z = some x) (hk : (∀ o : zS, x = (.inl o) → zW p l e R s m args below meth c cells slots Q D Ca B 5 o N 79 [] []) ∧ (∀ o : zS, x = (.inr o) → zW p l e R s m args below meth c cells slots Q D Ca B 5 o N 93 [(0, .ref x0), (1, .ref x1)] [])) : zW p l e R s m args below meth c cells slots Q D Ca B 5 z.1 N 7 [(0, .ref x0), (1, .ref x1), (2, .int z.2)] [] := by
  refine zloop_W (P := fun z : (zS × Int32) => zW p l e R s m args below meth c cells slots Q D Ca B 5 z.1 N 7 [(0, .ref x0), (1, .ref x1), (2, .int z.2)] []) (K := fun x : (zS ⊕ zS) => (∀ o : zS, x = (.inl o) → zW p l e R s m args below meth c cells slots Q D Ca B 5 o N 79 [] []) ∧ (∀ o : zS, x = (.inr o) → zW p l e R s m args below meth c cells slots Q D Ca B 5 o N 93 [(0, .ref x0), (1, .ref x1)] [])) ?_ n z x hf hk
  intro z y hy h1 h2
  refine wsL_isOnce_7b C hRm x0 x1 z.1 z.2 y hy ⟨fun z2 e => h1 z2 e, fun o e => (h2 _ e).1 o rfl, fun o e => (h2 _ e).2 o rfl⟩
set_option maxRecDepth 100000 in
set_option maxHeartbeats 4000000 in
theorem wsL_isOnce_95b (C : zC p s m args meth c cL_isOnce RL 5 D Ca B En) (hRm : zRm R 4 89 cells slots) (x0 : Nat) (x1 : Nat) (σ : zS) (u2 : Int32) (y : (zS × Int32) ⊕ (zS ⊕ zS)) (hf : sL_isOnce_95b x0 x1 σ u2 = some y) (hk : (∀ z : (zS × Int32), y = .inl z → zW p l e R s m args below meth c cells slots Q D Ca B 5 z.1 N 95 [(0, .ref x0), (1, .ref x1), (2, .int z.2)] []) ∧ (∀ z : zS, y = .inr (.inl z) → zW p l e R s m args below meth c cells slots Q D Ca B 5 z N 112 [] []) ∧ (∀ z : zS, y = .inr (.inr z) → zW p l e R s m args below meth c cells slots Q D Ca B 5 z N 120 [] [])) : zW p l e R s m args below meth c cells slots Q D Ca B 5 σ N 95 [(0, .ref x0), (1, .ref x1), (2, .int u2)] [] := by
  unfold sL_isOnce_95b at hf
  refine z_iload_n C dL_isOnce_95 rfl 2 rfl ?_
  refine z_bipush C (zi 16) dL_isOnce_96 (by decide) ?_
  refine z_icmp_ge C 120 dL_isOnce_98 (by decide) (fun q24 => ?_) (fun q24 => ?_)
  · rw [if_pos q24] at hf
    cases hf
    refine z_sub [] rfl ?_
    exact hk.2.2 _ rfl
  · rw [if_neg q24] at hf
    refine z_aload_n C dL_isOnce_101 rfl 1 rfl ?_
    refine z_iload_n C dL_isOnce_102 rfl 2 rfl ?_
    obtain ⟨v21, hv21, hf⟩ := zbind hf
    refine z_aI C hv21 dL_isOnce_103 ?_
    refine z_aload_n C dL_isOnce_104 rfl 0 rfl ?_
    refine z_iload_n C dL_isOnce_105 rfl 2 rfl ?_
    obtain ⟨c22, hc22, hf⟩ := zbind hf
    obtain ⟨kc22, hc22⟩ := zck_ok hc22
    refine z_callVi (As := [.int u2]) (F0 := 4) (L0 := 89) C (mX9_shownOf l D Ca B En C.2.2.2.2.2.2.2.1 σ N x0 u2 _ hc22) hRm kc22 rfl kw_1298 kw_1 kw_1295 kw_1296 kw_1297 hyX9_shownOf (Nat.le_of_ble_eq_true rfl) (Nat.le_of_ble_eq_true rfl) rfl rfl (Nat.le_of_ble_eq_true rfl) dL_isOnce_106 ?_
    refine z_icmp_eq C 114 dL_isOnce_109 (by decide) (fun q23 => ?_) (fun q23 => ?_)
    · rw [if_pos q23] at hf
      refine z_iinc (lv2 := [(2, .int (u2 + (zi 1))), (0, .ref x0), (1, .ref x1)]) C (u2 + (zi 1)) dL_isOnce_114 2 rfl rfl (by decide) rfl ?_
      refine z_goto C 95 dL_isOnce_117 (by decide) ?_
      cases hf
      refine z_sub [1, 2, 0] rfl ?_
      exact hk.1 _ rfl
    · rw [if_neg q23] at hf
      cases hf
      refine z_sub [] rfl ?_
      exact hk.2.1 _ rfl

theorem wsL_isOnce_95 (C : zC p s m args meth c cL_isOnce RL 5 D Ca B En) (hRm : zRm R 4 89 cells slots) (x0 : Nat) (x1 : Nat) (n : Nat) (z : (zS × Int32)) (x : (zS ⊕ zS)) (hf : zloop (sL_isOnce_95 x0 x1) n z = some x) (hk : (∀ o : zS, x = (.inl o) → zW p l e R s m args below meth c cells slots Q D Ca B 5 o N 112 [] []) ∧ (∀ o : zS, x = (.inr o) → zW p l e R s m args below meth c cells slots Q D Ca B 5 o N 120 [] [])) : zW p l e R s m args below meth c cells slots Q D Ca B 5 z.1 N 95 [(0, .ref x0), (1, .ref x1), (2, .int z.2)] [] := by
  refine zloop_W (P := fun z : (zS × Int32) => zW p l e R s m args below meth c cells slots Q D Ca B 5 z.1 N 95 [(0, .ref x0), (1, .ref x1), (2, .int z.2)] []) (K := fun x : (zS ⊕ zS) => (∀ o : zS, x = (.inl o) → zW p l e R s m args below meth c cells slots Q D Ca B 5 o N 112 [] []) ∧ (∀ o : zS, x = (.inr o) → zW p l e R s m args below meth c cells slots Q D Ca B 5 o N 120 [] [])) ?_ n z x hf hk
  intro z y hy h1 h2
  refine wsL_isOnce_95b C hRm x0 x1 z.1 z.2 y hy ⟨fun z2 e => h1 z2 e, fun o e => (h2 _ e).1 o rfl, fun o e => (h2 _ e).2 o rfl⟩
set_option maxRecDepth 100000 in
set_option maxHeartbeats 4000000 in
theorem wjL_isOnce_5 (C : zC p s m args meth c cL_isOnce RL 5 D Ca B En) (hRm : zRm R 4 89 cells slots) (σ : zS) (x0 : Nat) (x1 : Nat)  (τ : zS) (r : Int32) (hf : jL_isOnce_5 σ x0 x1  = some (τ, r)) (hq : ∀ (pc : Nat) (lv : List (Nat × Value)), (r = 0 ∨ r = 1) → decode cL_isOnce pc = .ok (.ireturn, 1) → zW p l e R s m args below meth c cells slots Q D Ca B 5 τ N pc lv [.int r]) : zW p l e R s m args below meth c cells slots Q D Ca B 5 σ N 5 [(0, .ref x0), (1, .ref x1)] [] := by
  unfold jL_isOnce_5 at hf
  refine z_iconst C (zi 0) dL_isOnce_5 (by decide) ?_
  refine z_istore_n (lv2 := [(2, .int ((zi 0))), (0, .ref x0), (1, .ref x1)]) C dL_isOnce_6 rfl (by decide) rfl ?_
  obtain ⟨o18, ho18, hf⟩ := zbind hf
  refine z_sub [1, 2, 0] rfl ?_
  refine wsL_isOnce_7 C hRm _ _ zfuel (σ, (zi 0)) o18 ho18 ⟨?_, ?_⟩
  · intro z19 e9
    subst e9
    dsimp only at hf
    refine z_iconst C (zi 0) dL_isOnce_79 (by decide) ?_
    obtain ⟨e9, b9⟩ := zrZ_ok hf
    cases e9
    exact hq _ _ b9 dL_isOnce_80
  · intro z20 e9
    subst e9
    dsimp only at hf
    refine z_iconst C (zi 0) dL_isOnce_93 (by decide) ?_
    refine z_istore_n (lv2 := [(2, .int ((zi 0))), (0, .ref x0), (1, .ref x1)]) C dL_isOnce_94 rfl (by decide) rfl ?_
    obtain ⟨o25, ho25, hf⟩ := zbind hf
    refine z_sub [1, 2, 0] rfl ?_
    refine wsL_isOnce_95 C hRm _ _ zfuel (z20, (zi 0)) o25 ho25 ⟨?_, ?_⟩
    · intro z26 e9
      subst e9
      dsimp only at hf
      refine z_iconst C (zi 0) dL_isOnce_112 (by decide) ?_
      obtain ⟨e9, b9⟩ := zrZ_ok hf
      cases e9
      exact hq _ _ b9 dL_isOnce_113
    · intro z27 e9
      subst e9
      dsimp only at hf
      refine z_iconst C (zi 1) dL_isOnce_120 (by decide) ?_
      obtain ⟨e9, b9⟩ := zrZ_ok hf
      cases e9
      exact hq _ _ b9 dL_isOnce_121

set_option maxRecDepth 100000 in
set_option maxHeartbeats 4000000 in
theorem wfK0_coder_7d493 (C : zC p s m args meth c cJ0_coder_7d493 RJ0 1 D Ca B En) (hRm : zRm R 0 0 cells slots) (ev : zEv) (hZ : ∀ U : State, En U → zEnv ev B U) (σ : zS) (x0 : Nat) (τ : zS) (r : Int32) (hf : fK0_coder_7d493 σ x0 = some (τ, r)) (hq : ∀ (pc : Nat) (lv : List (Nat × Value)), (r.toInt8.toInt32 = r) → decode cJ0_coder_7d493 pc = .ok (.ireturn, 1) → zW p l e R s m args below meth c cells slots Q D Ca B 1 τ N pc lv [.int r]) : zW p l e R s m args below meth c cells slots Q D Ca B 1 σ N 0 [(0, .ref x0)] [] := by
  unfold fK0_coder_7d493 at hf
  refine z_gsC C ev hZ kw_796 dJ0_coder_7d493_0 ?_
  refine z_if_eq C 13 dJ0_coder_7d493_3 (by decide) (fun q2 => ?_) (fun q2 => ?_)
  · rw [if_pos q2] at hf
    refine z_iconst C (zi 1) dJ0_coder_7d493_13 (by decide) ?_
    obtain ⟨e9, b9⟩ := zrB_ok hf
    cases e9
    exact hq _ _ b9 dJ0_coder_7d493_14
  · rw [if_neg q2] at hf
    refine z_aload_n C dJ0_coder_7d493_6 rfl 0 rfl ?_
    obtain ⟨v1, hv1, hf⟩ := zbind hf
    refine gf_RJ0_15 C hv1 dJ0_coder_7d493_7 ?_
    refine z_goto C 14 dJ0_coder_7d493_10 (by decide) ?_
    obtain ⟨e9, b9⟩ := zrB_ok hf
    cases e9
    exact hq _ _ b9 dJ0_coder_7d493_14

theorem mK0_coder_7d493 (l : Launch) (D : va_G) (Ca : Nat → ClassId) (B : Nat) (En : State → Prop) (hE : zEk B En) (ev : zEv) (hZ : ∀ U : State, En U → zEnv ev B U) (σ : zS) (N : Nat) (x0 : Nat) (X : zS × Int32) (hf : fK0_coder_7d493 σ x0 = some X) : zMi l D Ca B En yJ0_coder_7d493 cJ0_coder_7d493 1 (Option.some Jvm.ClassFile.FieldType.byte) 0 0 [.ref x0] σ N X.1 X.2 :=
  zMet_i (own := RJ0) hE (by decide +kernel) rfl (Nat.le_of_ble_eq_true rfl) (fun p e s m args below meth c C hr hRm => wfK0_coder_7d493 C hRm ev hZ σ x0 X.1 X.2 hf (fun pc lv hb hd => zfin_b C hb hr hd))
set_option maxRecDepth 100000 in
set_option maxHeartbeats 4000000 in
theorem wfK0_length_8abf5 (C : zC p s m args meth c cJ0_length_8abf5 RJ0 1 D Ca B En) (hRm : zRm R 1 20 cells slots) (ev : zEv) (hZ : ∀ U : State, En U → zEnv ev B U) (σ : zS) (x0 : Nat) (τ : zS) (r : Int32) (hf : fK0_length_8abf5 σ x0 = some (τ, r)) (hq : ∀ (pc : Nat) (lv : List (Nat × Value)), decode cJ0_length_8abf5 pc = .ok (.ireturn, 1) → zW p l e R s m args below meth c cells slots Q D Ca B 1 τ N pc lv [.int r]) : zW p l e R s m args below meth c cells slots Q D Ca B 1 σ N 0 [(0, .ref x0)] [] := by
  unfold fK0_length_8abf5 at hf
  refine z_aload_n C dJ0_length_8abf5_0 rfl 0 rfl ?_
  obtain ⟨v1, hv1, hf⟩ := zbind hf
  refine gf_RJ0_9 C hv1 dJ0_length_8abf5_1 ?_
  obtain ⟨v2, hv2, hf⟩ := zbind hf
  refine z_alen C hv2 dJ0_length_8abf5_4 ?_
  refine z_aload_n C dJ0_length_8abf5_5 rfl 0 rfl ?_
  obtain ⟨c3, hc3, hf⟩ := zbind hf
  obtain ⟨kc3, hc3⟩ := zck_ok hc3
  refine z_callVi (As := []) (F0 := 1) (L0 := 20) C (mK0_coder_7d493 l D Ca B En C.2.2.2.2.2.2.2.1 ev hZ σ N x0  _ hc3) hRm kc3 rfl kw_795 kw_16 kw_792 kw_793 kw_794 hyJ0_coder_7d493 (Nat.le_of_ble_eq_true rfl) (Nat.le_of_ble_eq_true rfl) rfl rfl (Nat.le_of_ble_eq_true rfl) dJ0_length_8abf5_6 ?_
  refine z_ishr C dJ0_length_8abf5_9 ?_
  cases hf
  exact hq _ _ dJ0_length_8abf5_10

theorem mK0_length_8abf5 (l : Launch) (D : va_G) (Ca : Nat → ClassId) (B : Nat) (En : State → Prop) (hE : zEk B En) (ev : zEv) (hZ : ∀ U : State, En U → zEnv ev B U) (σ : zS) (N : Nat) (x0 : Nat) (X : zS × Int32) (hf : fK0_length_8abf5 σ x0 = some X) : zMi l D Ca B En yJ0_length_8abf5 cJ0_length_8abf5 1 (Option.some Jvm.ClassFile.FieldType.int) 1 20 [.ref x0] σ N X.1 X.2 :=
  zMet_i (own := RJ0) hE (by decide +kernel) rfl (Nat.le_of_ble_eq_true rfl) (fun p e s m args below meth c C hr hRm => wfK0_length_8abf5 C hRm ev hZ σ x0 X.1 X.2 hf (fun pc lv hd => zfin_i C hr hd))
set_option maxRecDepth 100000 in
set_option maxHeartbeats 4000000 in
theorem wfK0_isLatin1_aae02 (C : zC p s m args meth c cJ0_isLatin1_aae02 RJ0 1 D Ca B En) (hRm : zRm R 0 0 cells slots) (ev : zEv) (hZ : ∀ U : State, En U → zEnv ev B U) (σ : zS) (x0 : Nat) (τ : zS) (r : Int32) (hf : fK0_isLatin1_aae02 σ x0 = some (τ, r)) (hq : ∀ (pc : Nat) (lv : List (Nat × Value)), (r = 0 ∨ r = 1) → decode cJ0_isLatin1_aae02 pc = .ok (.ireturn, 1) → zW p l e R s m args below meth c cells slots Q D Ca B 1 τ N pc lv [.int r]) : zW p l e R s m args below meth c cells slots Q D Ca B 1 σ N 0 [(0, .ref x0)] [] := by
  unfold fK0_isLatin1_aae02 at hf
  refine z_gsC C ev hZ kw_796 dJ0_isLatin1_aae02_0 ?_
  refine z_if_eq C 17 dJ0_isLatin1_aae02_3 (by decide) (fun q3 => ?_) (fun q3 => ?_)
  · rw [if_pos q3] at hf
    refine z_iconst C (zi 0) dJ0_isLatin1_aae02_17 (by decide) ?_
    obtain ⟨e9, b9⟩ := zrZ_ok hf
    cases e9
    exact hq _ _ b9 dJ0_isLatin1_aae02_18
  · rw [if_neg q3] at hf
    refine z_aload_n C dJ0_isLatin1_aae02_6 rfl 0 rfl ?_
    obtain ⟨v1, hv1, hf⟩ := zbind hf
    refine gf_RJ0_15 C hv1 dJ0_isLatin1_aae02_7 ?_
    refine z_if_ne C 17 dJ0_isLatin1_aae02_10 (by decide) (fun q2 => ?_) (fun q2 => ?_)
    · rw [if_neg q2] at hf
      refine z_iconst C (zi 0) dJ0_isLatin1_aae02_17 (by decide) ?_
      obtain ⟨e9, b9⟩ := zrZ_ok hf
      cases e9
      exact hq _ _ b9 dJ0_isLatin1_aae02_18
    · rw [if_pos q2] at hf
      refine z_iconst C (zi 1) dJ0_isLatin1_aae02_13 (by decide) ?_
      refine z_goto C 18 dJ0_isLatin1_aae02_14 (by decide) ?_
      obtain ⟨e9, b9⟩ := zrZ_ok hf
      cases e9
      exact hq _ _ b9 dJ0_isLatin1_aae02_18

theorem mK0_isLatin1_aae02 (l : Launch) (D : va_G) (Ca : Nat → ClassId) (B : Nat) (En : State → Prop) (hE : zEk B En) (ev : zEv) (hZ : ∀ U : State, En U → zEnv ev B U) (σ : zS) (N : Nat) (x0 : Nat) (X : zS × Int32) (hf : fK0_isLatin1_aae02 σ x0 = some X) : zMi l D Ca B En yJ0_isLatin1_aae02 cJ0_isLatin1_aae02 1 (Option.some Jvm.ClassFile.FieldType.boolean) 0 0 [.ref x0] σ N X.1 X.2 :=
  zMet_i (own := RJ0) hE (by decide +kernel) rfl (Nat.le_of_ble_eq_true rfl) (fun p e s m args below meth c C hr hRm => wfK0_isLatin1_aae02 C hRm ev hZ σ x0 X.1 X.2 hf (fun pc lv hb hd => zfin_z C hb hr hd))
set_option maxRecDepth 100000 in
set_option maxHeartbeats 4000000 in
theorem wfK1_charAt_3b067 (C : zC p s m args meth c cJ1_charAt_3b067 RJ1 2 D Ca B En) (hRm : zRm R 2 43 cells slots) (ev : zEv) (hZ : ∀ U : State, En U → zEnv ev B U) (σ : zS) (x0 : Nat) (x1 : Int32) (τ : zS) (r : Int32) (hf : fK1_charAt_3b067 σ x0 x1 = some (τ, r)) (hq : ∀ (pc : Nat) (lv : List (Nat × Value)), ((r.toUInt32 % 65536).toInt32 = r) → decode cJ1_charAt_3b067 pc = .ok (.ireturn, 1) → zW p l e R s m args below meth c cells slots Q D Ca B 2 τ N pc lv [.int r]) : zW p l e R s m args below meth c cells slots Q D Ca B 2 σ N 0 [(0, .ref x0), (1, .int x1)] [] := by
  unfold fK1_charAt_3b067 at hf
  refine z_iload_n C dJ1_charAt_3b067_0 rfl 1 rfl ?_
  refine z_aload_n C dJ1_charAt_3b067_1 rfl 0 rfl ?_
  obtain ⟨v1, hv1, hf⟩ := zbind hf
  refine z_alen C hv1 dJ1_charAt_3b067_2 ?_
  obtain ⟨c2, hc2, hf⟩ := zbind hf
  refine z_callSv (As := [.int x1, .int v1]) (F0 := 2) (L0 := 43) C (mJ0_checkIndex_df160 l D Ca B En C.2.2.2.2.2.2.2.1 ev hZ σ N x1 v1 _ hc2) hRm kw_811 kw_16 kw_809 kw_810 hyJ0_checkIndex_df160 (Nat.le_of_ble_eq_true rfl) (Nat.le_of_ble_eq_true rfl) rfl rfl (Nat.le_of_ble_eq_true rfl) dJ1_charAt_3b067_3 ?_
  refine z_aload_n C dJ1_charAt_3b067_6 rfl 0 rfl ?_
  refine z_iload_n C dJ1_charAt_3b067_7 rfl 1 rfl ?_
  obtain ⟨v3, hv3, hf⟩ := zbind hf
  refine z_aB C hv3 dJ1_charAt_3b067_8 ?_
  refine z_sipush C (zi 255) dJ1_charAt_3b067_9 (by decide) ?_
  refine z_iand C dJ1_charAt_3b067_12 ?_
  refine z_i2c C dJ1_charAt_3b067_13 ?_
  obtain ⟨e9, b9⟩ := zrC_ok hf
  cases e9
  exact hq _ _ b9 dJ1_charAt_3b067_14

theorem mK1_charAt_3b067 (l : Launch) (D : va_G) (Ca : Nat → ClassId) (B : Nat) (En : State → Prop) (hE : zEk B En) (ev : zEv) (hZ : ∀ U : State, En U → zEnv ev B U) (σ : zS) (N : Nat) (x0 : Nat) (x1 : Int32) (X : zS × Int32) (hf : fK1_charAt_3b067 σ x0 x1 = some X) : zMi l D Ca B En yJ1_charAt_3b067 cJ1_charAt_3b067 2 (Option.some Jvm.ClassFile.FieldType.char) 2 43 [.ref x0, .int x1] σ N X.1 X.2 :=
  zMet_i (own := RJ1) hE (by decide +kernel) rfl (Nat.le_of_ble_eq_true rfl) (fun p e s m args below meth c C hr hRm => wfK1_charAt_3b067 C hRm ev hZ σ x0 x1 X.1 X.2 hf (fun pc lv hb hd => zfin_c C hb hr hd))
set_option maxRecDepth 100000 in
set_option maxHeartbeats 4000000 in
theorem wfK0_charAt_5068e (C : zC p s m args meth c cJ0_charAt_5068e RJ0 2 D Ca B En) (hRm : zRm R 3 64 cells slots) (ev : zEv) (hZ : ∀ U : State, En U → zEnv ev B U) (σ : zS) (x0 : Nat) (x1 : Int32) (τ : zS) (r : Int32) (hf : fK0_charAt_5068e σ x0 x1 = some (τ, r)) (hq : ∀ (pc : Nat) (lv : List (Nat × Value)), ((r.toUInt32 % 65536).toInt32 = r) → decode cJ0_charAt_5068e pc = .ok (.ireturn, 1) → zW p l e R s m args below meth c cells slots Q D Ca B 2 τ N pc lv [.int r]) : zW p l e R s m args below meth c cells slots Q D Ca B 2 σ N 0 [(0, .ref x0), (1, .int x1)] [] := by
  unfold fK0_charAt_5068e at hf
  refine z_aload_n C dJ0_charAt_5068e_0 rfl 0 rfl ?_
  obtain ⟨c1, hc1, hf⟩ := zbind hf
  obtain ⟨kc1, hc1⟩ := zck_ok hc1
  refine z_callVi (As := []) (F0 := 3) (L0 := 64) C (mK0_isLatin1_aae02 l D Ca B En C.2.2.2.2.2.2.2.1 ev hZ σ N x0  _ hc1) hRm kc1 rfl kw_805 kw_16 kw_802 kw_803 kw_804 hyJ0_isLatin1_aae02 (Nat.le_of_ble_eq_true rfl) (Nat.le_of_ble_eq_true rfl) rfl rfl (Nat.le_of_ble_eq_true rfl) dJ0_charAt_5068e_1 ?_
  refine z_if_eq C 16 dJ0_charAt_5068e_4 (by decide) (fun q5 => ?_) (fun q5 => ?_)
  · rw [if_pos q5] at hf
    refine z_aload_n C dJ0_charAt_5068e_16 rfl 0 rfl ?_
    obtain ⟨v2, hv2, hf⟩ := zbind hf
    refine gf_RJ0_9 C hv2 dJ0_charAt_5068e_17 ?_
    refine z_iload_n C dJ0_charAt_5068e_20 rfl 1 rfl ?_
    cases hf
  · rw [if_neg q5] at hf
    refine z_aload_n C dJ0_charAt_5068e_7 rfl 0 rfl ?_
    obtain ⟨v3, hv3, hf⟩ := zbind hf
    refine gf_RJ0_9 C hv3 dJ0_charAt_5068e_8 ?_
    refine z_iload_n C dJ0_charAt_5068e_11 rfl 1 rfl ?_
    obtain ⟨c4, hc4, hf⟩ := zbind hf
    refine z_callSi (As := [.ref v3, .int x1]) (F0 := 3) (L0 := 64) C (mK1_charAt_3b067 l D Ca B En C.2.2.2.2.2.2.2.1 ev hZ c1.1 N v3 x1 _ hc4) hRm kw_808 kw_21 kw_806 kw_807 hyJ1_charAt_3b067 (Nat.le_of_ble_eq_true rfl) (Nat.le_of_ble_eq_true rfl) rfl rfl (Nat.le_of_ble_eq_true rfl) dJ0_charAt_5068e_12 ?_
    obtain ⟨e9, b9⟩ := zrC_ok hf
    cases e9
    exact hq _ _ b9 dJ0_charAt_5068e_15

theorem mK0_charAt_5068e (l : Launch) (D : va_G) (Ca : Nat → ClassId) (B : Nat) (En : State → Prop) (hE : zEk B En) (ev : zEv) (hZ : ∀ U : State, En U → zEnv ev B U) (σ : zS) (N : Nat) (x0 : Nat) (x1 : Int32) (X : zS × Int32) (hf : fK0_charAt_5068e σ x0 x1 = some X) : zMi l D Ca B En yJ0_charAt_5068e cJ0_charAt_5068e 2 (Option.some Jvm.ClassFile.FieldType.char) 3 64 [.ref x0, .int x1] σ N X.1 X.2 :=
  zMet_i (own := RJ0) hE (by decide +kernel) rfl (Nat.le_of_ble_eq_true rfl) (fun p e s m args below meth c C hr hRm => wfK0_charAt_5068e C hRm ev hZ σ x0 x1 X.1 X.2 hf (fun pc lv hb hd => zfin_c C hb hr hd))
theorem dL_feed_0 : decode cL_feed 0 = .ok (.iconst 0, 1) := by decide +kernel
theorem dL_feed_1 : decode cL_feed 1 = .ok (.istore_n 2, 1) := by decide +kernel
theorem dL_feed_2 : decode cL_feed 2 = .ok (.iload_n 2, 1) := by decide +kernel
theorem dL_feed_3 : decode cL_feed 3 = .ok (.aload_n 1, 1) := by decide +kernel
theorem dL_feed_4 : decode cL_feed 4 = .ok (.invokevirtual 15, 3) := by decide +kernel
theorem dL_feed_7 : decode cL_feed 7 = .ok (.if_icmp .ge 93, 3) := by decide +kernel
theorem dL_feed_10 : decode cL_feed 10 = .ok (.iconst 5, 1) := by decide +kernel
theorem dL_feed_11 : decode cL_feed 11 = .ok (.newarray .int, 2) := by decide +kernel
theorem dL_feed_13 : decode cL_feed 13 = .ok (.astore_n 3, 1) := by decide +kernel
theorem dL_feed_14 : decode cL_feed 14 = .ok (.iconst 0, 1) := by decide +kernel
theorem dL_feed_15 : decode cL_feed 15 = .ok (.istore 4, 2) := by decide +kernel
theorem dL_feed_17 : decode cL_feed 17 = .ok (.iload 4, 2) := by decide +kernel
theorem dL_feed_19 : decode cL_feed 19 = .ok (.bipush 20, 2) := by decide +kernel
theorem dL_feed_21 : decode cL_feed 21 = .ok (.if_icmp .ge 53, 3) := by decide +kernel
theorem dL_feed_24 : decode cL_feed 24 = .ok (.aload_n 3, 1) := by decide +kernel
theorem dL_feed_25 : decode cL_feed 25 = .ok (.iload 4, 2) := by decide +kernel
theorem dL_feed_27 : decode cL_feed 27 = .ok (.iconst 4, 1) := by decide +kernel
theorem dL_feed_28 : decode cL_feed 28 = .ok (.idiv, 1) := by decide +kernel
theorem dL_feed_29 : decode cL_feed 29 = .ok (.dup2, 1) := by decide +kernel
theorem dL_feed_30 : decode cL_feed 30 = .ok (.iaload, 1) := by decide +kernel
theorem dL_feed_31 : decode cL_feed 31 = .ok (.iload_n 2, 1) := by decide +kernel
theorem dL_feed_32 : decode cL_feed 32 = .ok (.iload 4, 2) := by decide +kernel
theorem dL_feed_34 : decode cL_feed 34 = .ok (.iadd, 1) := by decide +kernel
theorem dL_feed_35 : decode cL_feed 35 = .ok (.aload_n 1, 1) := by decide +kernel
theorem dL_feed_36 : decode cL_feed 36 = .ok (.invokevirtual 15, 3) := by decide +kernel
theorem dL_feed_39 : decode cL_feed 39 = .ok (.if_icmp .ge 14, 3) := by decide +kernel
theorem dL_feed_42 : decode cL_feed 42 = .ok (.aload_n 1, 1) := by decide +kernel
theorem dL_feed_43 : decode cL_feed 43 = .ok (.iload_n 2, 1) := by decide +kernel
theorem dL_feed_44 : decode cL_feed 44 = .ok (.iload 4, 2) := by decide +kernel
theorem dL_feed_46 : decode cL_feed 46 = .ok (.iadd, 1) := by decide +kernel
theorem dL_feed_47 : decode cL_feed 47 = .ok (.invokevirtual 21, 3) := by decide +kernel
theorem dL_feed_50 : decode cL_feed 50 = .ok (.goto 5, 3) := by decide +kernel
theorem dL_feed_53 : decode cL_feed 53 = .ok (.bipush 32, 2) := by decide +kernel
theorem dL_feed_55 : decode cL_feed 55 = .ok (.bipush 24, 2) := by decide +kernel
theorem dL_feed_57 : decode cL_feed 57 = .ok (.bipush 8, 2) := by decide +kernel
theorem dL_feed_59 : decode cL_feed 59 = .ok (.iload 4, 2) := by decide +kernel
theorem dL_feed_61 : decode cL_feed 61 = .ok (.iconst 4, 1) := by decide +kernel
theorem dL_feed_62 : decode cL_feed 62 = .ok (.irem, 1) := by decide +kernel
theorem dL_feed_63 : decode cL_feed 63 = .ok (.imul, 1) := by decide +kernel
theorem dL_feed_64 : decode cL_feed 64 = .ok (.isub, 1) := by decide +kernel
theorem dL_feed_65 : decode cL_feed 65 = .ok (.ishl, 1) := by decide +kernel
theorem dL_feed_66 : decode cL_feed 66 = .ok (.ior, 1) := by decide +kernel
theorem dL_feed_67 : decode cL_feed 67 = .ok (.iastore, 1) := by decide +kernel
theorem dL_feed_68 : decode cL_feed 68 = .ok (.iinc 4 1, 3) := by decide +kernel
theorem dL_feed_71 : decode cL_feed 71 = .ok (.goto (-54), 3) := by decide +kernel
theorem dL_feed_74 : decode cL_feed 74 = .ok (.aload_n 0, 1) := by decide +kernel
theorem dL_feed_75 : decode cL_feed 75 = .ok (.aload_n 3, 1) := by decide +kernel
theorem dL_feed_76 : decode cL_feed 76 = .ok (.iconst 0, 1) := by decide +kernel
theorem dL_feed_77 : decode cL_feed 77 = .ok (.iaload, 1) := by decide +kernel
theorem dL_feed_78 : decode cL_feed 78 = .ok (.aload_n 3, 1) := by decide +kernel
theorem dL_feed_79 : decode cL_feed 79 = .ok (.iconst 1, 1) := by decide +kernel
theorem dL_feed_80 : decode cL_feed 80 = .ok (.iaload, 1) := by decide +kernel
theorem dL_feed_81 : decode cL_feed 81 = .ok (.aload_n 3, 1) := by decide +kernel
theorem dL_feed_82 : decode cL_feed 82 = .ok (.iconst 2, 1) := by decide +kernel
theorem dL_feed_83 : decode cL_feed 83 = .ok (.iaload, 1) := by decide +kernel
theorem dL_feed_84 : decode cL_feed 84 = .ok (.aload_n 3, 1) := by decide +kernel
theorem dL_feed_85 : decode cL_feed 85 = .ok (.iconst 3, 1) := by decide +kernel
theorem dL_feed_86 : decode cL_feed 86 = .ok (.iaload, 1) := by decide +kernel
theorem dL_feed_87 : decode cL_feed 87 = .ok (.aload_n 3, 1) := by decide +kernel
theorem dL_feed_88 : decode cL_feed 88 = .ok (.iconst 4, 1) := by decide +kernel
theorem dL_feed_89 : decode cL_feed 89 = .ok (.iaload, 1) := by decide +kernel
theorem dL_feed_90 : decode cL_feed 90 = .ok (.invokevirtual 25, 3) := by decide +kernel
theorem dL_feed_93 : decode cL_feed 93 = .ok (.pop, 1) := by decide +kernel
theorem dL_feed_94 : decode cL_feed 94 = .ok (.iinc 2 20, 3) := by decide +kernel
theorem dL_feed_97 : decode cL_feed 97 = .ok (.goto (-95), 3) := by decide +kernel
theorem dL_feed_100 : decode cL_feed 100 = .ok (.aload_n 0, 1) := by decide +kernel
theorem dL_feed_101 : decode cL_feed 101 = .ok (.aload_n 1, 1) := by decide +kernel
theorem dL_feed_102 : decode cL_feed 102 = .ok (.invokevirtual 15, 3) := by decide +kernel
theorem dL_feed_105 : decode cL_feed 105 = .ok (.invokevirtual 31, 3) := by decide +kernel
theorem dL_feed_108 : decode cL_feed 108 = .ok (.pop, 1) := by decide +kernel
theorem dL_feed_109 : decode cL_feed 109 = .ok (.return_, 1) := by decide +kernel
set_option maxRecDepth 100000 in
set_option maxHeartbeats 4000000 in
theorem wjL_feed_55_L17 (C : zC p s m args meth c cL_feed RL 5 D Ca B En) (hRm : zRm R 4 85 cells slots) (ev : zEv) (hZ : ∀ U : State, En U → zEnv ev B U) (σ : zS) (x0 : Nat) (x1 : Nat) (x2 : Int32) (x3 : Nat) (x4 : Int32) (y0 : Int32) (y1 : Int32) (y2 : Int32) (y3 : Nat) (y : (zS × Int32) ⊕ zS) (hf : jL_feed_55_L17 σ x0 x1 x2 x3 x4 y0 y1 y2 y3 = some y) (hk : (∀ z : (zS × Int32), y = .inl z → zW p l e R s m args below meth c cells slots Q D Ca B 5 z.1 N 17 [(0, .ref x0), (1, .ref x1), (2, .int x2), (3, .ref x3), (4, .int z.2)] []) ∧ (∀ z : zS, y = .inr z → zW p l e R s m args below meth c cells slots Q D Ca B 5 z N 74 [(0, .ref x0), (1, .ref x1), (2, .int x2), (3, .ref x3)] [])) : zW p l e R s m args below meth c cells slots Q D Ca B 5 σ N 55 [(0, .ref x0), (1, .ref x1), (2, .int x2), (3, .ref x3), (4, .int x4)] [.int y0, .int y1, .int y2, .ref y3] := by
  unfold jL_feed_55_L17 at hf
  refine z_bipush C (zi 24) dL_feed_55 (by decide) ?_
  refine z_bipush C (zi 8) dL_feed_57 (by decide) ?_
  refine z_iload C dL_feed_59 4 rfl ?_
  refine z_iconst C (zi 4) dL_feed_61 (by decide) ?_
  refine z_irem C dL_feed_62 (by decide) ?_
  refine z_imul C dL_feed_63 ?_
  refine z_isub C dL_feed_64 ?_
  refine z_ishl C dL_feed_65 ?_
  refine z_ior C dL_feed_66 ?_
  obtain ⟨σ3, hσ3, hf⟩ := zbind hf
  refine z_sI C hσ3 dL_feed_67 ?_
  refine z_iinc (lv2 := [(4, .int (x4 + (zi 1))), (0, .ref x0), (1, .ref x1), (2, .int x2), (3, .ref x3)]) C (x4 + (zi 1)) dL_feed_68 4 rfl rfl (by decide) rfl ?_
  refine z_goto C 17 dL_feed_71 (by decide) ?_
  cases hf
  refine z_sub [1, 2, 3, 4, 0] rfl ?_
  exact hk.1 _ rfl

set_option maxRecDepth 100000 in
set_option maxHeartbeats 4000000 in
theorem wsL_feed_17b (C : zC p s m args meth c cL_feed RL 5 D Ca B En) (hRm : zRm R 4 85 cells slots) (ev : zEv) (hZ : ∀ U : State, En U → zEnv ev B U) (x0 : Nat) (x1 : Nat) (x2 : Int32) (x3 : Nat) (σ : zS) (u4 : Int32) (y : (zS × Int32) ⊕ zS) (hf : sL_feed_17b x0 x1 x2 x3 σ u4 = some y) (hk : (∀ z : (zS × Int32), y = .inl z → zW p l e R s m args below meth c cells slots Q D Ca B 5 z.1 N 17 [(0, .ref x0), (1, .ref x1), (2, .int x2), (3, .ref x3), (4, .int z.2)] []) ∧ (∀ z : zS, y = .inr z → zW p l e R s m args below meth c cells slots Q D Ca B 5 z N 74 [(0, .ref x0), (1, .ref x1), (2, .int x2), (3, .ref x3)] [])) : zW p l e R s m args below meth c cells slots Q D Ca B 5 σ N 17 [(0, .ref x0), (1, .ref x1), (2, .int x2), (3, .ref x3), (4, .int u4)] [] := by
  unfold sL_feed_17b at hf
  refine z_iload C dL_feed_17 4 rfl ?_
  refine z_bipush C (zi 20) dL_feed_19 (by decide) ?_
  refine z_icmp_ge C 74 dL_feed_21 (by decide) (fun q6 => ?_) (fun q6 => ?_)
  · rw [if_pos q6] at hf
    cases hf
    refine z_sub [0, 1, 2, 3] rfl ?_
    exact hk.2 _ rfl
  · rw [if_neg q6] at hf
    refine z_aload_n C dL_feed_24 rfl 3 rfl ?_
    refine z_iload C dL_feed_25 4 rfl ?_
    refine z_iconst C (zi 4) dL_feed_27 (by decide) ?_
    refine z_idiv C dL_feed_28 (by decide) ?_
    refine z_dup2 C dL_feed_29 rfl rfl ?_
    obtain ⟨v1, hv1, hf⟩ := zbind hf
    refine z_aI C hv1 dL_feed_30 ?_
    refine z_iload_n C dL_feed_31 rfl 2 rfl ?_
    refine z_iload C dL_feed_32 4 rfl ?_
    refine z_iadd C dL_feed_34 ?_
    refine z_aload_n C dL_feed_35 rfl 1 rfl ?_
    obtain ⟨c2, hc2, hf⟩ := zbind hf
    obtain ⟨kc2, hc2⟩ := zck_ok hc2
    refine z_callVi (As := []) (F0 := 4) (L0 := 85) C (mK0_length_8abf5 l D Ca B En C.2.2.2.2.2.2.2.1 ev hZ σ N x1  _ hc2) hRm kc2 rfl kw_791 kw_16 kw_788 kw_789 kw_790 hyJ0_length_8abf5 (Nat.le_of_ble_eq_true rfl) (Nat.le_of_ble_eq_true rfl) rfl rfl (Nat.le_of_ble_eq_true rfl) dL_feed_36 ?_
    refine z_icmp_ge C 53 dL_feed_39 (by decide) (fun q5 => ?_) (fun q5 => ?_)
    · rw [if_pos q5] at hf
      refine z_bipush C (zi 32) dL_feed_53 (by decide) ?_
      refine z_sub [0, 1, 2, 3, 4] rfl ?_
      exact wjL_feed_55_L17 C hRm ev hZ _ _ _ _ _ _ _ _ _ _ _ hf hk
    · rw [if_neg q5] at hf
      refine z_aload_n C dL_feed_42 rfl 1 rfl ?_
      refine z_iload_n C dL_feed_43 rfl 2 rfl ?_
      refine z_iload C dL_feed_44 4 rfl ?_
      refine z_iadd C dL_feed_46 ?_
      obtain ⟨c4, hc4, hf⟩ := zbind hf
      obtain ⟨kc4, hc4⟩ := zck_ok hc4
      refine z_callVi (As := [.int (x2 + u4)]) (F0 := 4) (L0 := 85) C (mK0_charAt_5068e l D Ca B En C.2.2.2.2.2.2.2.1 ev hZ c2.1 N x1 (x2 + u4) _ hc4) hRm kc4 rfl kw_801 kw_16 kw_798 kw_799 kw_800 hyJ0_charAt_5068e (Nat.le_of_ble_eq_true rfl) (Nat.le_of_ble_eq_true rfl) rfl rfl (Nat.le_of_ble_eq_true rfl) dL_feed_47 ?_
      refine z_goto C 55 dL_feed_50 (by decide) ?_
      refine z_sub [0, 1, 2, 3, 4] rfl ?_
      exact wjL_feed_55_L17 C hRm ev hZ _ _ _ _ _ _ _ _ _ _ _ hf hk

theorem wsL_feed_17 (C : zC p s m args meth c cL_feed RL 5 D Ca B En) (hRm : zRm R 4 85 cells slots) (ev : zEv) (hZ : ∀ U : State, En U → zEnv ev B U) (x0 : Nat) (x1 : Nat) (x2 : Int32) (x3 : Nat) (n : Nat) (z : (zS × Int32)) (x : zS) (hf : zloop (sL_feed_17 x0 x1 x2 x3) n z = some x) (hk : (∀ o : zS, x = o → zW p l e R s m args below meth c cells slots Q D Ca B 5 o N 74 [(0, .ref x0), (1, .ref x1), (2, .int x2), (3, .ref x3)] [])) : zW p l e R s m args below meth c cells slots Q D Ca B 5 z.1 N 17 [(0, .ref x0), (1, .ref x1), (2, .int x2), (3, .ref x3), (4, .int z.2)] [] := by
  refine zloop_W (P := fun z : (zS × Int32) => zW p l e R s m args below meth c cells slots Q D Ca B 5 z.1 N 17 [(0, .ref x0), (1, .ref x1), (2, .int x2), (3, .ref x3), (4, .int z.2)] []) (K := fun x : zS => (∀ o : zS, x = o → zW p l e R s m args below meth c cells slots Q D Ca B 5 o N 74 [(0, .ref x0), (1, .ref x1), (2, .int x2), (3, .ref x3)] [])) ?_ n z x hf hk
  intro z y hy h1 h2
  refine wsL_feed_17b C hRm ev hZ x0 x1 x2 x3 z.1 z.2 y hy ⟨fun z2 e => h1 z2 e, fun o e => (h2 _ e) o rfl⟩
end ZM
