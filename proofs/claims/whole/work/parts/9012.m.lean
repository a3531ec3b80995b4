/-! Methods: X10_readsSource, X10_once, X10_readsOnce, X10_statement, X10_startsReading, X10_parse, X10_errorCode, X10_errorOffset, X10_find, X10_says, X10_outputByte -/
section ZM
variable {p : Program} {l : Launch} {e : Env} {R : Room} {s : State} {m : MethodId} {args : Array Value} {below : List Frame} {meth : Method} {c : Code} {cells slots : Nat} {Q : State → Prop} {D : va_G} {Ca : Nat → ClassId} {B : Nat} {En : State → Prop} {N : Nat}
theorem dX10_readsSource_0 : decode cX10_readsSource 0 = .ok (.aload_n 0, 1) := by decide +kernel
theorem dX10_readsSource_1 : decode cX10_readsSource 1 = .ok (.getfield 63, 3) := by decide +kernel
theorem dX10_readsSource_4 : decode cX10_readsSource 4 = .ok (.istore_n 1, 1) := by decide +kernel
theorem dX10_readsSource_5 : decode cX10_readsSource 5 = .ok (.aload_n 0, 1) := by decide +kernel
theorem dX10_readsSource_6 : decode cX10_readsSource 6 = .ok (.iload_n 1, 1) := by decide +kernel
theorem dX10_readsSource_7 : decode cX10_readsSource 7 = .ok (.iconst 4, 1) := by decide +kernel
theorem dX10_readsSource_8 : decode cX10_readsSource 8 = .ok (.if_icmp .ge 7, 3) := by decide +kernel
theorem dX10_readsSource_11 : decode cX10_readsSource 11 = .ok (.iconst 1, 1) := by decide +kernel
theorem dX10_readsSource_12 : decode cX10_readsSource 12 = .ok (.goto 4, 3) := by decide +kernel
theorem dX10_readsSource_15 : decode cX10_readsSource 15 = .ok (.iconst 0, 1) := by decide +kernel
theorem dX10_readsSource_16 : decode cX10_readsSource 16 = .ok (.iconst 4, 1) := by decide +kernel
theorem dX10_readsSource_17 : decode cX10_readsSource 17 = .ok (.invokevirtual 411, 3) := by decide +kernel
theorem dX10_readsSource_20 : decode cX10_readsSource 20 = .ok (.aload_n 0, 1) := by decide +kernel
theorem dX10_readsSource_21 : decode cX10_readsSource 21 = .ok (.invokevirtual 415, 3) := by decide +kernel
theorem dX10_readsSource_24 : decode cX10_readsSource 24 = .ok (.aload_n 0, 1) := by decide +kernel
theorem dX10_readsSource_25 : decode cX10_readsSource 25 = .ok (.aload_n 0, 1) := by decide +kernel
theorem dX10_readsSource_26 : decode cX10_readsSource 26 = .ok (.getfield 372, 3) := by decide +kernel
theorem dX10_readsSource_29 : decode cX10_readsSource 29 = .ok (.iconst 1, 1) := by decide +kernel
theorem dX10_readsSource_30 : decode cX10_readsSource 30 = .ok (.if_icmp .ne 29, 3) := by decide +kernel
theorem dX10_readsSource_33 : decode cX10_readsSource 33 = .ok (.aload_n 0, 1) := by decide +kernel
theorem dX10_readsSource_34 : decode cX10_readsSource 34 = .ok (.getfield 382, 3) := by decide +kernel
theorem dX10_readsSource_37 : decode cX10_readsSource 37 = .ok (.iconst (-1), 1) := by decide +kernel
theorem dX10_readsSource_38 : decode cX10_readsSource 38 = .ok (.if_icmp .ne 21, 3) := by decide +kernel
theorem dX10_readsSource_41 : decode cX10_readsSource 41 = .ok (.aload_n 0, 1) := by decide +kernel
theorem dX10_readsSource_42 : decode cX10_readsSource 42 = .ok (.getfield 363, 3) := by decide +kernel
theorem dX10_readsSource_45 : decode cX10_readsSource 45 = .ok (.aload_n 0, 1) := by decide +kernel
theorem dX10_readsSource_46 : decode cX10_readsSource 46 = .ok (.getfield 369, 3) := by decide +kernel
theorem dX10_readsSource_49 : decode cX10_readsSource 49 = .ok (.isub, 1) := by decide +kernel
theorem dX10_readsSource_50 : decode cX10_readsSource 50 = .ok (.bipush 8, 2) := by decide +kernel
theorem dX10_readsSource_52 : decode cX10_readsSource 52 = .ok (.if_icmp .gt 7, 3) := by decide +kernel
theorem dX10_readsSource_55 : decode cX10_readsSource 55 = .ok (.iconst 1, 1) := by decide +kernel
theorem dX10_readsSource_56 : decode cX10_readsSource 56 = .ok (.goto 4, 3) := by decide +kernel
theorem dX10_readsSource_59 : decode cX10_readsSource 59 = .ok (.iconst 0, 1) := by decide +kernel
theorem dX10_readsSource_60 : decode cX10_readsSource 60 = .ok (.iconst 1, 1) := by decide +kernel
theorem dX10_readsSource_61 : decode cX10_readsSource 61 = .ok (.invokevirtual 411, 3) := by decide +kernel
theorem dX10_readsSource_64 : decode cX10_readsSource 64 = .ok (.aload_n 0, 1) := by decide +kernel
theorem dX10_readsSource_65 : decode cX10_readsSource 65 = .ok (.invokevirtual 405, 3) := by decide +kernel
theorem dX10_readsSource_68 : decode cX10_readsSource 68 = .ok (.ifCond .ne 4, 3) := by decide +kernel
theorem dX10_readsSource_71 : decode cX10_readsSource 71 = .ok (.return_, 1) := by decide +kernel
theorem dX10_readsSource_72 : decode cX10_readsSource 72 = .ok (.aload_n 0, 1) := by decide +kernel
theorem dX10_readsSource_73 : decode cX10_readsSource 73 = .ok (.aload_n 0, 1) := by decide +kernel
theorem dX10_readsSource_74 : decode cX10_readsSource 74 = .ok (.invokevirtual 428, 3) := by decide +kernel
theorem dX10_readsSource_77 : decode cX10_readsSource 77 = .ok (.aload_n 0, 1) := by decide +kernel
theorem dX10_readsSource_78 : decode cX10_readsSource 78 = .ok (.getfield 54, 3) := by decide +kernel
theorem dX10_readsSource_81 : decode cX10_readsSource 81 = .ok (.iload_n 1, 1) := by decide +kernel
theorem dX10_readsSource_82 : decode cX10_readsSource 82 = .ok (.invokestatic 432, 3) := by decide +kernel
theorem dX10_readsSource_85 : decode cX10_readsSource 85 = .ok (.iconst (-1), 1) := by decide +kernel
theorem dX10_readsSource_86 : decode cX10_readsSource 86 = .ok (.if_icmp .ne 7, 3) := by decide +kernel
theorem dX10_readsSource_89 : decode cX10_readsSource 89 = .ok (.iconst 1, 1) := by decide +kernel
theorem dX10_readsSource_90 : decode cX10_readsSource 90 = .ok (.goto 4, 3) := by decide +kernel
theorem dX10_readsSource_93 : decode cX10_readsSource 93 = .ok (.iconst 0, 1) := by decide +kernel
theorem dX10_readsSource_94 : decode cX10_readsSource 94 = .ok (.iconst 3, 1) := by decide +kernel
theorem dX10_readsSource_95 : decode cX10_readsSource 95 = .ok (.invokevirtual 411, 3) := by decide +kernel
theorem dX10_readsSource_98 : decode cX10_readsSource 98 = .ok (.aload_n 0, 1) := by decide +kernel
theorem dX10_readsSource_99 : decode cX10_readsSource 99 = .ok (.invokevirtual 405, 3) := by decide +kernel
theorem dX10_readsSource_102 : decode cX10_readsSource 102 = .ok (.ifCond .eq 13, 3) := by decide +kernel
theorem dX10_readsSource_105 : decode cX10_readsSource 105 = .ok (.aload_n 0, 1) := by decide +kernel
theorem dX10_readsSource_106 : decode cX10_readsSource 106 = .ok (.getfield 54, 3) := by decide +kernel
theorem dX10_readsSource_109 : decode cX10_readsSource 109 = .ok (.iload_n 1, 1) := by decide +kernel
theorem dX10_readsSource_110 : decode cX10_readsSource 110 = .ok (.aload_n 0, 1) := by decide +kernel
theorem dX10_readsSource_111 : decode cX10_readsSource 111 = .ok (.invokevirtual 428, 3) := by decide +kernel
theorem dX10_readsSource_114 : decode cX10_readsSource 114 = .ok (.lastore, 1) := by decide +kernel
theorem dX10_readsSource_115 : decode cX10_readsSource 115 = .ok (.aload_n 0, 1) := by decide +kernel
theorem dX10_readsSource_116 : decode cX10_readsSource 116 = .ok (.invokevirtual 415, 3) := by decide +kernel
theorem dX10_readsSource_119 : decode cX10_readsSource 119 = .ok (.aload_n 0, 1) := by decide +kernel
theorem dX10_readsSource_120 : decode cX10_readsSource 120 = .ok (.bipush 6, 2) := by decide +kernel
theorem dX10_readsSource_122 : decode cX10_readsSource 122 = .ok (.iconst 0, 1) := by decide +kernel
theorem dX10_readsSource_123 : decode cX10_readsSource 123 = .ok (.sipush 200, 3) := by decide +kernel
theorem dX10_readsSource_126 : decode cX10_readsSource 126 = .ok (.invokevirtual 436, 3) := by decide +kernel
theorem dX10_readsSource_129 : decode cX10_readsSource 129 = .ok (.istore_n 2, 1) := by decide +kernel
theorem dX10_readsSource_130 : decode cX10_readsSource 130 = .ok (.aload_n 0, 1) := by decide +kernel
theorem dX10_readsSource_131 : decode cX10_readsSource 131 = .ok (.bipush 7, 2) := by decide +kernel
theorem dX10_readsSource_133 : decode cX10_readsSource 133 = .ok (.iconst 0, 1) := by decide +kernel
theorem dX10_readsSource_134 : decode cX10_readsSource 134 = .ok (.sipush 999, 3) := by decide +kernel
theorem dX10_readsSource_137 : decode cX10_readsSource 137 = .ok (.invokevirtual 436, 3) := by decide +kernel
theorem dX10_readsSource_140 : decode cX10_readsSource 140 = .ok (.istore_n 3, 1) := by decide +kernel
theorem dX10_readsSource_141 : decode cX10_readsSource 141 = .ok (.aload_n 0, 1) := by decide +kernel
theorem dX10_readsSource_142 : decode cX10_readsSource 142 = .ok (.bipush 8, 2) := by decide +kernel
theorem dX10_readsSource_144 : decode cX10_readsSource 144 = .ok (.invokevirtual 418, 3) := by decide +kernel
theorem dX10_readsSource_147 : decode cX10_readsSource 147 = .ok (.ifCond .eq 15, 3) := by decide +kernel
theorem dX10_readsSource_150 : decode cX10_readsSource 150 = .ok (.aload_n 0, 1) := by decide +kernel
theorem dX10_readsSource_151 : decode cX10_readsSource 151 = .ok (.bipush 8, 2) := by decide +kernel
theorem dX10_readsSource_153 : decode cX10_readsSource 153 = .ok (.iconst 0, 1) := by decide +kernel
theorem dX10_readsSource_154 : decode cX10_readsSource 154 = .ok (.bipush 9, 2) := by decide +kernel
theorem dX10_readsSource_156 : decode cX10_readsSource 156 = .ok (.invokevirtual 436, 3) := by decide +kernel
theorem dX10_readsSource_159 : decode cX10_readsSource 159 = .ok (.goto 4, 3) := by decide +kernel
theorem dX10_readsSource_162 : decode cX10_readsSource 162 = .ok (.iconst 0, 1) := by decide +kernel
theorem dX10_readsSource_163 : decode cX10_readsSource 163 = .ok (.istore 4, 2) := by decide +kernel
theorem dX10_readsSource_165 : decode cX10_readsSource 165 = .ok (.aload_n 0, 1) := by decide +kernel
theorem dX10_readsSource_166 : decode cX10_readsSource 166 = .ok (.invokevirtual 405, 3) := by decide +kernel
theorem dX10_readsSource_169 : decode cX10_readsSource 169 = .ok (.ifCond .ne 4, 3) := by decide +kernel
theorem dX10_readsSource_172 : decode cX10_readsSource 172 = .ok (.return_, 1) := by decide +kernel
theorem dX10_readsSource_173 : decode cX10_readsSource 173 = .ok (.aload_n 0, 1) := by decide +kernel
theorem dX10_readsSource_174 : decode cX10_readsSource 174 = .ok (.getfield 48, 3) := by decide +kernel
theorem dX10_readsSource_177 : decode cX10_readsSource 177 = .ok (.iload_n 1, 1) := by decide +kernel
theorem dX10_readsSource_178 : decode cX10_readsSource 178 = .ok (.iload_n 2, 1) := by decide +kernel
theorem dX10_readsSource_179 : decode cX10_readsSource 179 = .ok (.iastore, 1) := by decide +kernel
theorem dX10_readsSource_180 : decode cX10_readsSource 180 = .ok (.aload_n 0, 1) := by decide +kernel
theorem dX10_readsSource_181 : decode cX10_readsSource 181 = .ok (.getfield 51, 3) := by decide +kernel
theorem dX10_readsSource_184 : decode cX10_readsSource 184 = .ok (.iload_n 1, 1) := by decide +kernel
theorem dX10_readsSource_185 : decode cX10_readsSource 185 = .ok (.iload_n 3, 1) := by decide +kernel
theorem dX10_readsSource_186 : decode cX10_readsSource 186 = .ok (.iastore, 1) := by decide +kernel
theorem dX10_readsSource_187 : decode cX10_readsSource 187 = .ok (.aload_n 0, 1) := by decide +kernel
theorem dX10_readsSource_188 : decode cX10_readsSource 188 = .ok (.getfield 24, 3) := by decide +kernel
theorem dX10_readsSource_191 : decode cX10_readsSource 191 = .ok (.bipush 9, 2) := by decide +kernel
theorem dX10_readsSource_193 : decode cX10_readsSource 193 = .ok (.iload_n 1, 1) := by decide +kernel
theorem dX10_readsSource_194 : decode cX10_readsSource 194 = .ok (.iadd, 1) := by decide +kernel
theorem dX10_readsSource_195 : decode cX10_readsSource 195 = .ok (.iload 4, 2) := by decide +kernel
theorem dX10_readsSource_197 : decode cX10_readsSource 197 = .ok (.iastore, 1) := by decide +kernel
theorem dX10_readsSource_198 : decode cX10_readsSource 198 = .ok (.aload_n 0, 1) := by decide +kernel
theorem dX10_readsSource_199 : decode cX10_readsSource 199 = .ok (.iload_n 1, 1) := by decide +kernel
theorem dX10_readsSource_200 : decode cX10_readsSource 200 = .ok (.iconst 1, 1) := by decide +kernel
theorem dX10_readsSource_201 : decode cX10_readsSource 201 = .ok (.iadd, 1) := by decide +kernel
theorem dX10_readsSource_202 : decode cX10_readsSource 202 = .ok (.putfield 63, 3) := by decide +kernel
theorem dX10_readsSource_205 : decode cX10_readsSource 205 = .ok (.return_, 1) := by decide +kernel
theorem hyX10_readsSource : yX10_readsSource.cls ≠ "java/lang/invoke/MethodHandle" ∧ yX10_readsSource.cls ≠ "java/lang/invoke/VarHandle" ∧ (parseMethodDescriptor yX10_readsSource.desc).map (fun d => d.parameters.length) = some 0 := ⟨by decide +kernel, by decide +kernel, by decide +kernel⟩
set_option maxRecDepth 100000 in
set_option maxHeartbeats 4000000 in
theorem wjX10_readsSource_163 (C : zC p s m args meth c cX10_readsSource RX10 5 D Ca B En) (hRm : zRm R 9 195 cells slots) (ev : zEv) (hZ : ∀ U : State, En U → zEnv ev B U) (σ : zS) (x0 : Nat) (x1 : Int32) (x2 : Int32) (x3 : Int32) (y0 : Int32) (τ : zS) (hf : jX10_readsSource_163 σ x0 x1 x2 x3 y0 = some τ) (hq : ∀ (pc : Nat) (lv : List (Nat × Value)), decode cX10_readsSource pc = .ok (.return_, 1) → zW p l e R s m args below meth c cells slots Q D Ca B 5 τ N pc lv []) : zW p l e R s m args below meth c cells slots Q D Ca B 5 σ N 163 [(0, .ref x0), (1, .int x1), (2, .int x2), (3, .int x3)] [.int y0] := by
  unfold jX10_readsSource_163 at hf
  refine z_istore (lv2 := [(4, .int y0), (0, .ref x0), (1, .int x1), (2, .int x2), (3, .int x3)]) C dX10_readsSource_163 (by decide) rfl ?_
  refine z_aload_n C dX10_readsSource_165 rfl 1 rfl ?_
  obtain ⟨c16, hc16, hf⟩ := zbind hf
  obtain ⟨kc16, hc16⟩ := zck_ok hc16
  refine z_callVi (As := []) (F0 := 9) (L0 := 195) C (mX10_fine l D Ca B En C.2.2.2.2.2.2.2.1 σ N x0  _ hc16) hRm kc16 rfl kw_1851 kw_14 kw_1848 kw_1850 kp_105 hyX10_fine (Nat.le_of_ble_eq_true rfl) (Nat.le_of_ble_eq_true rfl) rfl rfl (Nat.le_of_ble_eq_true rfl) dX10_readsSource_166 ?_
  refine z_if_ne C 173 dX10_readsSource_169 (by decide) (fun q24 => ?_) (fun q24 => ?_)
  · rw [if_neg q24] at hf
    refine z_aload_n C dX10_readsSource_173 rfl 1 rfl ?_
    obtain ⟨v17, hv17, hf⟩ := zbind hf
    refine gf_RX10_48 C hv17 dX10_readsSource_174 ?_
    refine z_iload_n C dX10_readsSource_177 rfl 2 rfl ?_
    refine z_iload_n C dX10_readsSource_178 rfl 3 rfl ?_
    obtain ⟨σ18, hσ18, hf⟩ := zbind hf
    refine z_sI C hσ18 dX10_readsSource_179 ?_
    refine z_aload_n C dX10_readsSource_180 rfl 1 rfl ?_
    obtain ⟨v19, hv19, hf⟩ := zbind hf
    refine gf_RX10_51 C hv19 dX10_readsSource_181 ?_
    refine z_iload_n C dX10_readsSource_184 rfl 2 rfl ?_
    refine z_iload_n C dX10_readsSource_185 rfl 4 rfl ?_
    obtain ⟨σ20, hσ20, hf⟩ := zbind hf
    refine z_sI C hσ20 dX10_readsSource_186 ?_
    refine z_aload_n C dX10_readsSource_187 rfl 1 rfl ?_
    obtain ⟨v21, hv21, hf⟩ := zbind hf
    refine gf_RX10_24 C hv21 dX10_readsSource_188 ?_
    refine z_bipush C (zi 9) dX10_readsSource_191 (by decide) ?_
    refine z_iload_n C dX10_readsSource_193 rfl 2 rfl ?_
    refine z_iadd C dX10_readsSource_194 ?_
    refine z_iload C dX10_readsSource_195 0 rfl ?_
    obtain ⟨σ22, hσ22, hf⟩ := zbind hf
    refine z_sI C hσ22 dX10_readsSource_197 ?_
    refine z_aload_n C dX10_readsSource_198 rfl 1 rfl ?_
    refine z_iload_n C dX10_readsSource_199 rfl 2 rfl ?_
    refine z_iconst C (zi 1) dX10_readsSource_200 (by decide) ?_
    refine z_iadd C dX10_readsSource_201 ?_
    obtain ⟨σ23, hσ23, hf⟩ := zbind hf
    refine gp_RX10_63 C hσ23 dX10_readsSource_202 ?_
    cases hf
    exact hq _ _ dX10_readsSource_205
  · rw [if_pos q24] at hf
    cases hf
    exact hq _ _ dX10_readsSource_172

set_option maxRecDepth 100000 in
set_option maxHeartbeats 4000000 in
theorem wjX10_readsSource_115 (C : zC p s m args meth c cX10_readsSource RX10 5 D Ca B En) (hRm : zRm R 9 195 cells slots) (ev : zEv) (hZ : ∀ U : State, En U → zEnv ev B U) (σ : zS) (x0 : Nat) (x1 : Int32)  (τ : zS) (hf : jX10_readsSource_115 σ x0 x1  = some τ) (hq : ∀ (pc : Nat) (lv : List (Nat × Value)), decode cX10_readsSource pc = .ok (.return_, 1) → zW p l e R s m args below meth c cells slots Q D Ca B 5 τ N pc lv []) : zW p l e R s m args below meth c cells slots Q D Ca B 5 σ N 115 [(0, .ref x0), (1, .int x1)] [] := by
  unfold jX10_readsSource_115 at hf
  refine z_aload_n C dX10_readsSource_115 rfl 0 rfl ?_
  obtain ⟨c12, hc12, hf⟩ := zbind hf
  obtain ⟨kc12, hc12⟩ := zck_ok hc12
  refine z_callVv (As := []) (F0 := 9) (L0 := 195) C (mX10_goOn l D Ca B En C.2.2.2.2.2.2.2.1 ev hZ σ N x0  _ hc12) hRm kc12 rfl kw_1871 kw_14 kw_1868 kw_1870 kp_110 hyX10_goOn (Nat.le_of_ble_eq_true rfl) (Nat.le_of_ble_eq_true rfl) rfl rfl (Nat.le_of_ble_eq_true rfl) dX10_readsSource_116 ?_
  refine z_aload_n C dX10_readsSource_119 rfl 0 rfl ?_
  refine z_bipush C (zi 6) dX10_readsSource_120 (by decide) ?_
  refine z_iconst C (zi 0) dX10_readsSource_122 (by decide) ?_
  refine z_sipush C (zi 200) dX10_readsSource_123 (by decide) ?_
  obtain ⟨c13, hc13, hf⟩ := zbind hf
  obtain ⟨kc13, hc13⟩ := zck_ok hc13
  refine z_callVi (As := [.int ((zi 6)), .int ((zi 0)), .int ((zi 200))]) (F0 := 9) (L0 := 195) C (mX10_numberBehind l D Ca B En C.2.2.2.2.2.2.2.1 ev hZ c12 N x0 ((zi 6)) ((zi 0)) ((zi 200)) _ hc13) hRm kc13 rfl kw_1884 kw_14 kw_1881 kw_1883 kp_112 hyX10_numberBehind (Nat.le_of_ble_eq_true rfl) (Nat.le_of_ble_eq_true rfl) rfl rfl (Nat.le_of_ble_eq_true rfl) dX10_readsSource_126 ?_
  refine z_istore_n (lv2 := [(2, .int c13.2), (0, .ref x0), (1, .int x1)]) C dX10_readsSource_129 rfl (by decide) rfl ?_
  refine z_aload_n C dX10_readsSource_130 rfl 1 rfl ?_
  refine z_bipush C (zi 7) dX10_readsSource_131 (by decide) ?_
  refine z_iconst C (zi 0) dX10_readsSource_133 (by decide) ?_
  refine z_sipush C (zi 999) dX10_readsSource_134 (by decide) ?_
  obtain ⟨c14, hc14, hf⟩ := zbind hf
  obtain ⟨kc14, hc14⟩ := zck_ok hc14
  refine z_callVi (As := [.int ((zi 7)), .int ((zi 0)), .int ((zi 999))]) (F0 := 9) (L0 := 195) C (mX10_numberBehind l D Ca B En C.2.2.2.2.2.2.2.1 ev hZ c13.1 N x0 ((zi 7)) ((zi 0)) ((zi 999)) _ hc14) hRm kc14 rfl kw_1884 kw_14 kw_1881 kw_1883 kp_112 hyX10_numberBehind (Nat.le_of_ble_eq_true rfl) (Nat.le_of_ble_eq_true rfl) rfl rfl (Nat.le_of_ble_eq_true rfl) dX10_readsSource_137 ?_
  refine z_istore_n (lv2 := [(3, .int c14.2), (2, .int c13.2), (0, .ref x0), (1, .int x1)]) C dX10_readsSource_140 rfl (by decide) rfl ?_
  refine z_aload_n C dX10_readsSource_141 rfl 2 rfl ?_
  refine z_bipush C (zi 8) dX10_readsSource_142 (by decide) ?_
  obtain ⟨c15, hc15, hf⟩ := zbind hf
  obtain ⟨kc15, hc15⟩ := zck_ok hc15
  refine z_callVi (As := [.int ((zi 8))]) (F0 := 9) (L0 := 195) C (mX10_isWord l D Ca B En C.2.2.2.2.2.2.2.1 c14.1 N x0 ((zi 8)) _ hc15) hRm kc15 rfl kw_1859 kw_14 kw_1856 kw_1858 kp_107 hyX10_isWord (Nat.le_of_ble_eq_true rfl) (Nat.le_of_ble_eq_true rfl) rfl rfl (Nat.le_of_ble_eq_true rfl) dX10_readsSource_144 ?_
  refine z_if_eq C 162 dX10_readsSource_147 (by decide) (fun q26 => ?_) (fun q26 => ?_)
  · rw [if_pos q26] at hf
    refine z_iconst C (zi 0) dX10_readsSource_162 (by decide) ?_
    refine z_sub [2, 3, 1, 0] rfl ?_
    exact wjX10_readsSource_163 C hRm ev hZ _ _ _ _ _ _ _ hf hq
  · rw [if_neg q26] at hf
    refine z_aload_n C dX10_readsSource_150 rfl 2 rfl ?_
    refine z_bipush C (zi 8) dX10_readsSource_151 (by decide) ?_
    refine z_iconst C (zi 0) dX10_readsSource_153 (by decide) ?_
    refine z_bipush C (zi 9) dX10_readsSource_154 (by decide) ?_
    obtain ⟨c25, hc25, hf⟩ := zbind hf
    obtain ⟨kc25, hc25⟩ := zck_ok hc25
    refine z_callVi (As := [.int ((zi 8)), .int ((zi 0)), .int ((zi 9))]) (F0 := 9) (L0 := 195) C (mX10_numberBehind l D Ca B En C.2.2.2.2.2.2.2.1 ev hZ c15.1 N x0 ((zi 8)) ((zi 0)) ((zi 9)) _ hc25) hRm kc25 rfl kw_1884 kw_14 kw_1881 kw_1883 kp_112 hyX10_numberBehind (Nat.le_of_ble_eq_true rfl) (Nat.le_of_ble_eq_true rfl) rfl rfl (Nat.le_of_ble_eq_true rfl) dX10_readsSource_156 ?_
    refine z_goto C 163 dX10_readsSource_159 (by decide) ?_
    refine z_sub [2, 3, 1, 0] rfl ?_
    exact wjX10_readsSource_163 C hRm ev hZ _ _ _ _ _ _ _ hf hq

set_option maxRecDepth 100000 in
set_option maxHeartbeats 4000000 in
theorem wjX10_readsSource_94 (C : zC p s m args meth c cX10_readsSource RX10 5 D Ca B En) (hRm : zRm R 9 195 cells slots) (ev : zEv) (hZ : ∀ U : State, En U → zEnv ev B U) (σ : zS) (x0 : Nat) (x1 : Int32) (y0 : Int32) (y1 : Nat) (τ : zS) (hf : jX10_readsSource_94 σ x0 x1 y0 y1 = some τ) (hq : ∀ (pc : Nat) (lv : List (Nat × Value)), decode cX10_readsSource pc = .ok (.return_, 1) → zW p l e R s m args below meth c cells slots Q D Ca B 5 τ N pc lv []) : zW p l e R s m args below meth c cells slots Q D Ca B 5 σ N 94 [(0, .ref x0), (1, .int x1)] [.int y0, .ref y1] := by
  unfold jX10_readsSource_94 at hf
  refine z_iconst C (zi 3) dX10_readsSource_94 (by decide) ?_
  obtain ⟨c10, hc10, hf⟩ := zbind hf
  obtain ⟨kc10, hc10⟩ := zck_ok hc10
  refine z_callVv (As := [.int y0, .int ((zi 3))]) (F0 := 9) (L0 := 195) C (mX10_needs l D Ca B En C.2.2.2.2.2.2.2.1 σ N y1 y0 ((zi 3)) _ hc10) hRm kc10 rfl kw_1867 kw_14 kw_1864 kw_1866 kp_109 hyX10_needs (Nat.le_of_ble_eq_true rfl) (Nat.le_of_ble_eq_true rfl) rfl rfl (Nat.le_of_ble_eq_true rfl) dX10_readsSource_95 ?_
  refine z_aload_n C dX10_readsSource_98 rfl 0 rfl ?_
  obtain ⟨c11, hc11, hf⟩ := zbind hf
  obtain ⟨kc11, hc11⟩ := zck_ok hc11
  refine z_callVi (As := []) (F0 := 9) (L0 := 195) C (mX10_fine l D Ca B En C.2.2.2.2.2.2.2.1 c10 N x0  _ hc11) hRm kc11 rfl kw_1851 kw_14 kw_1848 kw_1850 kp_105 hyX10_fine (Nat.le_of_ble_eq_true rfl) (Nat.le_of_ble_eq_true rfl) rfl rfl (Nat.le_of_ble_eq_true rfl) dX10_readsSource_99 ?_
  refine z_if_eq C 115 dX10_readsSource_102 (by decide) (fun q30 => ?_) (fun q30 => ?_)
  · rw [if_pos q30] at hf
    refine z_sub [0, 1] rfl ?_
    exact wjX10_readsSource_115 C hRm ev hZ _ _ _  _ hf hq
  · rw [if_neg q30] at hf
    refine z_aload_n C dX10_readsSource_105 rfl 0 rfl ?_
    obtain ⟨v27, hv27, hf⟩ := zbind hf
    refine gf_RX10_54 C hv27 dX10_readsSource_106 ?_
    refine z_iload_n C dX10_readsSource_109 rfl 1 rfl ?_
    refine z_aload_n C dX10_readsSource_110 rfl 0 rfl ?_
    obtain ⟨c28, hc28, hf⟩ := zbind hf
    obtain ⟨kc28, hc28⟩ := zck_ok hc28
    refine z_callVl (As := []) (F0 := 9) (L0 := 195) C (mX10_nameHere l D Ca B En C.2.2.2.2.2.2.2.1 c11.1 N x0  _ hc28) hRm kc28 rfl kw_1875 kw_14 kw_1872 kw_1874 kp_111 hyX10_nameHere (Nat.le_of_ble_eq_true rfl) (Nat.le_of_ble_eq_true rfl) rfl rfl (Nat.le_of_ble_eq_true rfl) dX10_readsSource_111 ?_
    obtain ⟨σ29, hσ29, hf⟩ := zbind hf
    refine z_sJ C hσ29 dX10_readsSource_114 ?_
    refine z_sub [0, 1] rfl ?_
    exact wjX10_readsSource_115 C hRm ev hZ _ _ _  _ hf hq

set_option maxRecDepth 100000 in
set_option maxHeartbeats 4000000 in
theorem wjX10_readsSource_60 (C : zC p s m args meth c cX10_readsSource RX10 5 D Ca B En) (hRm : zRm R 9 195 cells slots) (ev : zEv) (hZ : ∀ U : State, En U → zEnv ev B U) (σ : zS) (x0 : Nat) (x1 : Int32) (y0 : Int32) (y1 : Nat) (τ : zS) (hf : jX10_readsSource_60 σ x0 x1 y0 y1 = some τ) (hq : ∀ (pc : Nat) (lv : List (Nat × Value)), decode cX10_readsSource pc = .ok (.return_, 1) → zW p l e R s m args below meth c cells slots Q D Ca B 5 τ N pc lv []) : zW p l e R s m args below meth c cells slots Q D Ca B 5 σ N 60 [(0, .ref x0), (1, .int x1)] [.int y0, .ref y1] := by
  unfold jX10_readsSource_60 at hf
  refine z_iconst C (zi 1) dX10_readsSource_60 (by decide) ?_
  obtain ⟨c5, hc5, hf⟩ := zbind hf
  obtain ⟨kc5, hc5⟩ := zck_ok hc5
  refine z_callVv (As := [.int y0, .int ((zi 1))]) (F0 := 9) (L0 := 195) C (mX10_needs l D Ca B En C.2.2.2.2.2.2.2.1 σ N y1 y0 ((zi 1)) _ hc5) hRm kc5 rfl kw_1867 kw_14 kw_1864 kw_1866 kp_109 hyX10_needs (Nat.le_of_ble_eq_true rfl) (Nat.le_of_ble_eq_true rfl) rfl rfl (Nat.le_of_ble_eq_true rfl) dX10_readsSource_61 ?_
  refine z_aload_n C dX10_readsSource_64 rfl 0 rfl ?_
  obtain ⟨c6, hc6, hf⟩ := zbind hf
  obtain ⟨kc6, hc6⟩ := zck_ok hc6
  refine z_callVi (As := []) (F0 := 9) (L0 := 195) C (mX10_fine l D Ca B En C.2.2.2.2.2.2.2.1 c5 N x0  _ hc6) hRm kc6 rfl kw_1851 kw_14 kw_1848 kw_1850 kp_105 hyX10_fine (Nat.le_of_ble_eq_true rfl) (Nat.le_of_ble_eq_true rfl) rfl rfl (Nat.le_of_ble_eq_true rfl) dX10_readsSource_65 ?_
  refine z_if_ne C 72 dX10_readsSource_68 (by decide) (fun q32 => ?_) (fun q32 => ?_)
  · rw [if_neg q32] at hf
    refine z_aload_n C dX10_readsSource_72 rfl 0 rfl ?_
    refine z_aload_n C dX10_readsSource_73 rfl 0 rfl ?_
    obtain ⟨c7, hc7, hf⟩ := zbind hf
    obtain ⟨kc7, hc7⟩ := zck_ok hc7
    refine z_callVl (As := []) (F0 := 9) (L0 := 195) C (mX10_nameHere l D Ca B En C.2.2.2.2.2.2.2.1 c6.1 N x0  _ hc7) hRm kc7 rfl kw_1875 kw_14 kw_1872 kw_1874 kp_111 hyX10_nameHere (Nat.le_of_ble_eq_true rfl) (Nat.le_of_ble_eq_true rfl) rfl rfl (Nat.le_of_ble_eq_true rfl) dX10_readsSource_74 ?_
    refine z_aload_n C dX10_readsSource_77 rfl 0 rfl ?_
    obtain ⟨v8, hv8, hf⟩ := zbind hf
    refine gf_RX10_54 C hv8 dX10_readsSource_78 ?_
    refine z_iload_n C dX10_readsSource_81 rfl 1 rfl ?_
    obtain ⟨c9, hc9, hf⟩ := zbind hf
    refine z_callSi (As := [.long c7.2, .ref v8, .int x1]) (F0 := 9) (L0 := 195) C (mX10_placeOf l D Ca B En C.2.2.2.2.2.2.2.1 c7.1 N c7.2 v8 x1 _ hc9) hRm kw_1880 kw_14 kw_1878 kw_1879 hyX10_placeOf (Nat.le_of_ble_eq_true rfl) (Nat.le_of_ble_eq_true rfl) rfl rfl (Nat.le_of_ble_eq_true rfl) dX10_readsSource_82 ?_
    refine z_iconst C (zi (-1)) dX10_readsSource_85 (by decide) ?_
    refine z_icmp_ne C 93 dX10_readsSource_86 (by decide) (fun q31 => ?_) (fun q31 => ?_)
    · rw [if_neg q31] at hf
      refine z_iconst C (zi 0) dX10_readsSource_93 (by decide) ?_
      refine z_sub [0, 1] rfl ?_
      exact wjX10_readsSource_94 C hRm ev hZ _ _ _ _ _ _ hf hq
    · rw [if_pos q31] at hf
      refine z_iconst C (zi 1) dX10_readsSource_89 (by decide) ?_
      refine z_goto C 94 dX10_readsSource_90 (by decide) ?_
      refine z_sub [0, 1] rfl ?_
      exact wjX10_readsSource_94 C hRm ev hZ _ _ _ _ _ _ hf hq
  · rw [if_pos q32] at hf
    cases hf
    exact hq _ _ dX10_readsSource_71

set_option maxRecDepth 100000 in
set_option maxHeartbeats 4000000 in
theorem wjX10_readsSource_59 (C : zC p s m args meth c cX10_readsSource RX10 5 D Ca B En) (hRm : zRm R 9 195 cells slots) (ev : zEv) (hZ : ∀ U : State, En U → zEnv ev B U) (σ : zS) (x0 : Nat) (x1 : Int32) (y0 : Nat) (τ : zS) (hf : jX10_readsSource_59 σ x0 x1 y0 = some τ) (hq : ∀ (pc : Nat) (lv : List (Nat × Value)), decode cX10_readsSource pc = .ok (.return_, 1) → zW p l e R s m args below meth c cells slots Q D Ca B 5 τ N pc lv []) : zW p l e R s m args below meth c cells slots Q D Ca B 5 σ N 59 [(0, .ref x0), (1, .int x1)] [.ref y0] := by
  unfold jX10_readsSource_59 at hf
  refine z_iconst C (zi 0) dX10_readsSource_59 (by decide) ?_
  refine z_sub [0, 1] rfl ?_
  exact wjX10_readsSource_60 C hRm ev hZ _ _ _ _ _ _ hf hq

set_option maxRecDepth 100000 in
set_option maxHeartbeats 4000000 in
theorem wjX10_readsSource_16 (C : zC p s m args meth c cX10_readsSource RX10 5 D Ca B En) (hRm : zRm R 9 195 cells slots) (ev : zEv) (hZ : ∀ U : State, En U → zEnv ev B U) (σ : zS) (x0 : Nat) (x1 : Int32) (y0 : Int32) (y1 : Nat) (τ : zS) (hf : jX10_readsSource_16 σ x0 x1 y0 y1 = some τ) (hq : ∀ (pc : Nat) (lv : List (Nat × Value)), decode cX10_readsSource pc = .ok (.return_, 1) → zW p l e R s m args below meth c cells slots Q D Ca B 5 τ N pc lv []) : zW p l e R s m args below meth c cells slots Q D Ca B 5 σ N 16 [(0, .ref x0), (1, .int x1)] [.int y0, .ref y1] := by
  unfold jX10_readsSource_16 at hf
  refine z_iconst C (zi 4) dX10_readsSource_16 (by decide) ?_
  obtain ⟨c2, hc2, hf⟩ := zbind hf
  obtain ⟨kc2, hc2⟩ := zck_ok hc2
  refine z_callVv (As := [.int y0, .int ((zi 4))]) (F0 := 9) (L0 := 195) C (mX10_needs l D Ca B En C.2.2.2.2.2.2.2.1 σ N y1 y0 ((zi 4)) _ hc2) hRm kc2 rfl kw_1867 kw_14 kw_1864 kw_1866 kp_109 hyX10_needs (Nat.le_of_ble_eq_true rfl) (Nat.le_of_ble_eq_true rfl) rfl rfl (Nat.le_of_ble_eq_true rfl) dX10_readsSource_17 ?_
  refine z_aload_n C dX10_readsSource_20 rfl 0 rfl ?_
  obtain ⟨c3, hc3, hf⟩ := zbind hf
  obtain ⟨kc3, hc3⟩ := zck_ok hc3
  refine z_callVv (As := []) (F0 := 9) (L0 := 195) C (mX10_goOn l D Ca B En C.2.2.2.2.2.2.2.1 ev hZ c2 N x0  _ hc3) hRm kc3 rfl kw_1871 kw_14 kw_1868 kw_1870 kp_110 hyX10_goOn (Nat.le_of_ble_eq_true rfl) (Nat.le_of_ble_eq_true rfl) rfl rfl (Nat.le_of_ble_eq_true rfl) dX10_readsSource_21 ?_
  refine z_aload_n C dX10_readsSource_24 rfl 0 rfl ?_
  refine z_aload_n C dX10_readsSource_25 rfl 0 rfl ?_
  obtain ⟨v4, hv4, hf⟩ := zbind hf
  refine gf_RX10_372 C hv4 dX10_readsSource_26 ?_
  refine z_iconst C (zi 1) dX10_readsSource_29 (by decide) ?_
  refine z_icmp_ne C 59 dX10_readsSource_30 (by decide) (fun q38 => ?_) (fun q38 => ?_)
  · rw [if_neg q38] at hf
    refine z_sub [0, 1] rfl ?_
    exact wjX10_readsSource_59 C hRm ev hZ _ _ _ _ _ hf hq
  · rw [if_pos q38] at hf
    refine z_aload_n C dX10_readsSource_33 rfl 0 rfl ?_
    obtain ⟨v33, hv33, hf⟩ := zbind hf
    refine gf_RX10_382 C hv33 dX10_readsSource_34 ?_
    refine z_iconst C (zi (-1)) dX10_readsSource_37 (by decide) ?_
    refine z_icmp_ne C 59 dX10_readsSource_38 (by decide) (fun q37 => ?_) (fun q37 => ?_)
    · rw [if_neg q37] at hf
      refine z_sub [0, 1] rfl ?_
      exact wjX10_readsSource_59 C hRm ev hZ _ _ _ _ _ hf hq
    · rw [if_pos q37] at hf
      refine z_aload_n C dX10_readsSource_41 rfl 0 rfl ?_
      obtain ⟨v34, hv34, hf⟩ := zbind hf
      refine gf_RX10_363 C hv34 dX10_readsSource_42 ?_
      refine z_aload_n C dX10_readsSource_45 rfl 0 rfl ?_
      obtain ⟨v35, hv35, hf⟩ := zbind hf
      refine gf_RX10_369 C hv35 dX10_readsSource_46 ?_
      refine z_isub C dX10_readsSource_49 ?_
      refine z_bipush C (zi 8) dX10_readsSource_50 (by decide) ?_
      refine z_icmp_gt C 59 dX10_readsSource_52 (by decide) (fun q36 => ?_) (fun q36 => ?_)
      · rw [if_pos q36] at hf
        refine z_sub [0, 1] rfl ?_
        exact wjX10_readsSource_59 C hRm ev hZ _ _ _ _ _ hf hq
      · rw [if_neg q36] at hf
        refine z_iconst C (zi 1) dX10_readsSource_55 (by decide) ?_
        refine z_goto C 60 dX10_readsSource_56 (by decide) ?_
        refine z_sub [0, 1] rfl ?_
        exact wjX10_readsSource_60 C hRm ev hZ _ _ _ _ _ _ hf hq

set_option maxRecDepth 100000 in
set_option maxHeartbeats 4000000 in
theorem wfX10_readsSource (C : zC p s m args meth c cX10_readsSource RX10 5 D Ca B En) (hRm : zRm R 9 195 cells slots) (ev : zEv) (hZ : ∀ U : State, En U → zEnv ev B U) (σ : zS) (x0 : Nat) (τ : zS) (hf : fX10_readsSource σ x0 = some τ) (hq : ∀ (pc : Nat) (lv : List (Nat × Value)), decode cX10_readsSource pc = .ok (.return_, 1) → zW p l e R s m args below meth c cells slots Q D Ca B 5 τ N pc lv []) : zW p l e R s m args below meth c cells slots Q D Ca B 5 σ N 0 [(0, .ref x0)] [] := by
  unfold fX10_readsSource at hf
  refine z_aload_n C dX10_readsSource_0 rfl 0 rfl ?_
  obtain ⟨v1, hv1, hf⟩ := zbind hf
  refine gf_RX10_63 C hv1 dX10_readsSource_1 ?_
  refine z_istore_n (lv2 := [(1, .int v1), (0, .ref x0)]) C dX10_readsSource_4 rfl (by decide) rfl ?_
  refine z_aload_n C dX10_readsSource_5 rfl 1 rfl ?_
  refine z_iload_n C dX10_readsSource_6 rfl 0 rfl ?_
  refine z_iconst C (zi 4) dX10_readsSource_7 (by decide) ?_
  refine z_icmp_ge C 15 dX10_readsSource_8 (by decide) (fun q39 => ?_) (fun q39 => ?_)
  · rw [if_pos q39] at hf
    refine z_iconst C (zi 0) dX10_readsSource_15 (by decide) ?_
    refine z_sub [1, 0] rfl ?_
    exact wjX10_readsSource_16 C hRm ev hZ _ _ _ _ _ _ hf hq
  · rw [if_neg q39] at hf
    refine z_iconst C (zi 1) dX10_readsSource_11 (by decide) ?_
    refine z_goto C 16 dX10_readsSource_12 (by decide) ?_
    refine z_sub [1, 0] rfl ?_
    exact wjX10_readsSource_16 C hRm ev hZ _ _ _ _ _ _ hf hq

theorem mX10_readsSource (l : Launch) (D : va_G) (Ca : Nat → ClassId) (B : Nat) (En : State → Prop) (hE : zEk B En) (ev : zEv) (hZ : ∀ U : State, En U → zEnv ev B U) (σ : zS) (N : Nat) (x0 : Nat) (X : zS) (hf : fX10_readsSource σ x0 = some X) : zMv l D Ca B En yX10_readsSource cX10_readsSource 5 (Option.none : Option Jvm.ClassFile.FieldType) 9 195 [.ref x0] σ N X () :=
  zMet_v (own := RX10) hE (by decide +kernel) rfl (Nat.le_of_ble_eq_true rfl) (fun p e s m args below meth c C hr hRm => wfX10_readsSource C hRm ev hZ σ x0 X hf (fun pc lv hd => zfin_v (r := ()) C hr hd))
theorem dX10_once_0 : decode cX10_once 0 = .ok (.aload_n 0, 1) := by decide +kernel
theorem dX10_once_1 : decode cX10_once 1 = .ok (.aload_n 0, 1) := by decide +kernel
theorem dX10_once_2 : decode cX10_once 2 = .ok (.getfield 72, 3) := by decide +kernel
theorem dX10_once_5 : decode cX10_once 5 = .ok (.iload_n 1, 1) := by decide +kernel
theorem dX10_once_6 : decode cX10_once 6 = .ok (.ishr, 1) := by decide +kernel
theorem dX10_once_7 : decode cX10_once 7 = .ok (.iconst 1, 1) := by decide +kernel
theorem dX10_once_8 : decode cX10_once 8 = .ok (.iand, 1) := by decide +kernel
theorem dX10_once_9 : decode cX10_once 9 = .ok (.ifCond .ne 7, 3) := by decide +kernel
theorem dX10_once_12 : decode cX10_once 12 = .ok (.iconst 1, 1) := by decide +kernel
theorem dX10_once_13 : decode cX10_once 13 = .ok (.goto 4, 3) := by decide +kernel
theorem dX10_once_16 : decode cX10_once 16 = .ok (.iconst 0, 1) := by decide +kernel
theorem dX10_once_17 : decode cX10_once 17 = .ok (.iconst 3, 1) := by decide +kernel
theorem dX10_once_18 : decode cX10_once 18 = .ok (.invokevirtual 411, 3) := by decide +kernel
theorem dX10_once_21 : decode cX10_once 21 = .ok (.aload_n 0, 1) := by decide +kernel
theorem dX10_once_22 : decode cX10_once 22 = .ok (.aload_n 0, 1) := by decide +kernel
theorem dX10_once_23 : decode cX10_once 23 = .ok (.getfield 72, 3) := by decide +kernel
theorem dX10_once_26 : decode cX10_once 26 = .ok (.iconst 1, 1) := by decide +kernel
theorem dX10_once_27 : decode cX10_once 27 = .ok (.iload_n 1, 1) := by decide +kernel
theorem dX10_once_28 : decode cX10_once 28 = .ok (.ishl, 1) := by decide +kernel
theorem dX10_once_29 : decode cX10_once 29 = .ok (.ior, 1) := by decide +kernel
theorem dX10_once_30 : decode cX10_once 30 = .ok (.putfield 72, 3) := by decide +kernel
theorem dX10_once_33 : decode cX10_once 33 = .ok (.aload_n 0, 1) := by decide +kernel
theorem dX10_once_34 : decode cX10_once 34 = .ok (.invokevirtual 415, 3) := by decide +kernel
theorem dX10_once_37 : decode cX10_once 37 = .ok (.return_, 1) := by decide +kernel
theorem hyX10_once : yX10_once.cls ≠ "java/lang/invoke/MethodHandle" ∧ yX10_once.cls ≠ "java/lang/invoke/VarHandle" ∧ (parseMethodDescriptor yX10_once.desc).map (fun d => d.parameters.length) = some 1 := ⟨by decide +kernel, by decide +kernel, by decide +kernel⟩
set_option maxRecDepth 100000 in
set_option maxHeartbeats 4000000 in
theorem wjX10_once_17 (C : zC p s m args meth c cX10_once RX10 2 D Ca B En) (hRm : zRm R 7 149 cells slots) (ev : zEv) (hZ : ∀ U : State, En U → zEnv ev B U) (σ : zS) (x0 : Nat) (x1 : Int32) (y0 : Int32) (y1 : Nat) (τ : zS) (hf : jX10_once_17 σ x0 x1 y0 y1 = some τ) (hq : ∀ (pc : Nat) (lv : List (Nat × Value)), decode cX10_once pc = .ok (.return_, 1) → zW p l e R s m args below meth c cells slots Q D Ca B 2 τ N pc lv []) : zW p l e R s m args below meth c cells slots Q D Ca B 2 σ N 17 [(0, .ref x0), (1, .int x1)] [.int y0, .ref y1] := by
  unfold jX10_once_17 at hf
  refine z_iconst C (zi 3) dX10_once_17 (by decide) ?_
  obtain ⟨c2, hc2, hf⟩ := zbind hf
  obtain ⟨kc2, hc2⟩ := zck_ok hc2
  refine z_callVv (As := [.int y0, .int ((zi 3))]) (F0 := 7) (L0 := 149) C (mX10_needs l D Ca B En C.2.2.2.2.2.2.2.1 σ N y1 y0 ((zi 3)) _ hc2) hRm kc2 rfl kw_1867 kw_14 kw_1864 kw_1866 kp_109 hyX10_needs (Nat.le_of_ble_eq_true rfl) (Nat.le_of_ble_eq_true rfl) rfl rfl (Nat.le_of_ble_eq_true rfl) dX10_once_18 ?_
  refine z_aload_n C dX10_once_21 rfl 0 rfl ?_
  refine z_aload_n C dX10_once_22 rfl 0 rfl ?_
  obtain ⟨v3, hv3, hf⟩ := zbind hf
  refine gf_RX10_72 C hv3 dX10_once_23 ?_
  refine z_iconst C (zi 1) dX10_once_26 (by decide) ?_
  refine z_iload_n C dX10_once_27 rfl 1 rfl ?_
  refine z_ishl C dX10_once_28 ?_
  refine z_ior C dX10_once_29 ?_
  obtain ⟨σ4, hσ4, hf⟩ := zbind hf
  refine gp_RX10_72 C hσ4 dX10_once_30 ?_
  refine z_aload_n C dX10_once_33 rfl 0 rfl ?_
  obtain ⟨c5, hc5, hf⟩ := zbind hf
  obtain ⟨kc5, hc5⟩ := zck_ok hc5
  refine z_callVv (As := []) (F0 := 7) (L0 := 149) C (mX10_goOn l D Ca B En C.2.2.2.2.2.2.2.1 ev hZ σ4 N x0  _ hc5) hRm kc5 rfl kw_1871 kw_14 kw_1868 kw_1870 kp_110 hyX10_goOn (Nat.le_of_ble_eq_true rfl) (Nat.le_of_ble_eq_true rfl) rfl rfl (Nat.le_of_ble_eq_true rfl) dX10_once_34 ?_
  cases hf
  exact hq _ _ dX10_once_37

set_option maxRecDepth 100000 in
set_option maxHeartbeats 4000000 in
theorem wfX10_once (C : zC p s m args meth c cX10_once RX10 2 D Ca B En) (hRm : zRm R 7 149 cells slots) (ev : zEv) (hZ : ∀ U : State, En U → zEnv ev B U) (σ : zS) (x0 : Nat) (x1 : Int32) (τ : zS) (hf : fX10_once σ x0 x1 = some τ) (hq : ∀ (pc : Nat) (lv : List (Nat × Value)), decode cX10_once pc = .ok (.return_, 1) → zW p l e R s m args below meth c cells slots Q D Ca B 2 τ N pc lv []) : zW p l e R s m args below meth c cells slots Q D Ca B 2 σ N 0 [(0, .ref x0), (1, .int x1)] [] := by
  unfold fX10_once at hf
  refine z_aload_n C dX10_once_0 rfl 0 rfl ?_
  refine z_aload_n C dX10_once_1 rfl 0 rfl ?_
  obtain ⟨v1, hv1, hf⟩ := zbind hf
  refine gf_RX10_72 C hv1 dX10_once_2 ?_
  refine z_iload_n C dX10_once_5 rfl 1 rfl ?_
  refine z_ishr C dX10_once_6 ?_
  refine z_iconst C (zi 1) dX10_once_7 (by decide) ?_
  refine z_iand C dX10_once_8 ?_
  refine z_if_ne C 16 dX10_once_9 (by decide) (fun q6 => ?_) (fun q6 => ?_)
  · rw [if_neg q6] at hf
    refine z_iconst C (zi 0) dX10_once_16 (by decide) ?_
    refine z_sub [0, 1] rfl ?_
    exact wjX10_once_17 C hRm ev hZ _ _ _ _ _ _ hf hq
  · rw [if_pos q6] at hf
    refine z_iconst C (zi 1) dX10_once_12 (by decide) ?_
    refine z_goto C 17 dX10_once_13 (by decide) ?_
    refine z_sub [0, 1] rfl ?_
    exact wjX10_once_17 C hRm ev hZ _ _ _ _ _ _ hf hq

theorem mX10_once (l : Launch) (D : va_G) (Ca : Nat → ClassId) (B : Nat) (En : State → Prop) (hE : zEk B En) (ev : zEv) (hZ : ∀ U : State, En U → zEnv ev B U) (σ : zS) (N : Nat) (x0 : Nat) (x1 : Int32) (X : zS) (hf : fX10_once σ x0 x1 = some X) : zMv l D Ca B En yX10_once cX10_once 2 (Option.none : Option Jvm.ClassFile.FieldType) 7 149 [.ref x0, .int x1] σ N X () :=
  zMet_v (own := RX10) hE (by decide +kernel) rfl (Nat.le_of_ble_eq_true rfl) (fun p e s m args below meth c C hr hRm => wfX10_once C hRm ev hZ σ x0 x1 X hf (fun pc lv hd => zfin_v (r := ()) C hr hd))
theorem dX10_readsOnce_0 : decode cX10_readsOnce 0 = .ok (.aload_n 0, 1) := by decide +kernel
theorem dX10_readsOnce_1 : decode cX10_readsOnce 1 = .ok (.iload_n 1, 1) := by decide +kernel
theorem dX10_readsOnce_2 : decode cX10_readsOnce 2 = .ok (.invokevirtual 440, 3) := by decide +kernel
theorem dX10_readsOnce_5 : decode cX10_readsOnce 5 = .ok (.iload_n 1, 1) := by decide +kernel
theorem dX10_readsOnce_6 : decode cX10_readsOnce 6 = .ok (.iconst 4, 1) := by decide +kernel
theorem dX10_readsOnce_7 : decode cX10_readsOnce 7 = .ok (.if_icmp .ne 7, 3) := by decide +kernel
theorem dX10_readsOnce_10 : decode cX10_readsOnce 10 = .ok (.iconst 1, 1) := by decide +kernel
theorem dX10_readsOnce_11 : decode cX10_readsOnce 11 = .ok (.goto 46, 3) := by decide +kernel
theorem dX10_readsOnce_14 : decode cX10_readsOnce 14 = .ok (.aload_n 0, 1) := by decide +kernel
theorem dX10_readsOnce_15 : decode cX10_readsOnce 15 = .ok (.iload_n 1, 1) := by decide +kernel
theorem dX10_readsOnce_16 : decode cX10_readsOnce 16 = .ok (.iconst 3, 1) := by decide +kernel
theorem dX10_readsOnce_17 : decode cX10_readsOnce 17 = .ok (.if_icmp .ne 7, 3) := by decide +kernel
theorem dX10_readsOnce_20 : decode cX10_readsOnce 20 = .ok (.iconst 0, 1) := by decide +kernel
theorem dX10_readsOnce_21 : decode cX10_readsOnce 21 = .ok (.goto 4, 3) := by decide +kernel
theorem dX10_readsOnce_24 : decode cX10_readsOnce 24 = .ok (.iconst 1, 1) := by decide +kernel
theorem dX10_readsOnce_25 : decode cX10_readsOnce 25 = .ok (.iload_n 1, 1) := by decide +kernel
theorem dX10_readsOnce_26 : decode cX10_readsOnce 26 = .ok (.ifCond .ne 7, 3) := by decide +kernel
theorem dX10_readsOnce_29 : decode cX10_readsOnce 29 = .ok (.iconst 4, 1) := by decide +kernel
theorem dX10_readsOnce_30 : decode cX10_readsOnce 30 = .ok (.goto 24, 3) := by decide +kernel
theorem dX10_readsOnce_33 : decode cX10_readsOnce 33 = .ok (.iload_n 1, 1) := by decide +kernel
theorem dX10_readsOnce_34 : decode cX10_readsOnce 34 = .ok (.iconst 1, 1) := by decide +kernel
theorem dX10_readsOnce_35 : decode cX10_readsOnce 35 = .ok (.if_icmp .ne 7, 3) := by decide +kernel
theorem dX10_readsOnce_38 : decode cX10_readsOnce 38 = .ok (.iconst 2, 1) := by decide +kernel
theorem dX10_readsOnce_39 : decode cX10_readsOnce 39 = .ok (.goto 15, 3) := by decide +kernel
theorem dX10_readsOnce_42 : decode cX10_readsOnce 42 = .ok (.iload_n 1, 1) := by decide +kernel
theorem dX10_readsOnce_43 : decode cX10_readsOnce 43 = .ok (.iconst 2, 1) := by decide +kernel
theorem dX10_readsOnce_44 : decode cX10_readsOnce 44 = .ok (.if_icmp .ne 8, 3) := by decide +kernel
theorem dX10_readsOnce_47 : decode cX10_readsOnce 47 = .ok (.bipush 9, 2) := by decide +kernel
theorem dX10_readsOnce_49 : decode cX10_readsOnce 49 = .ok (.goto 5, 3) := by decide +kernel
theorem dX10_readsOnce_52 : decode cX10_readsOnce 52 = .ok (.bipush 99, 2) := by decide +kernel
theorem dX10_readsOnce_54 : decode cX10_readsOnce 54 = .ok (.invokevirtual 421, 3) := by decide +kernel
theorem dX10_readsOnce_57 : decode cX10_readsOnce 57 = .ok (.istore_n 2, 1) := by decide +kernel
theorem dX10_readsOnce_58 : decode cX10_readsOnce 58 = .ok (.aload_n 0, 1) := by decide +kernel
theorem dX10_readsOnce_59 : decode cX10_readsOnce 59 = .ok (.invokevirtual 405, 3) := by decide +kernel
theorem dX10_readsOnce_62 : decode cX10_readsOnce 62 = .ok (.ifCond .ne 4, 3) := by decide +kernel
theorem dX10_readsOnce_65 : decode cX10_readsOnce 65 = .ok (.return_, 1) := by decide +kernel
theorem dX10_readsOnce_66 : decode cX10_readsOnce 66 = .ok (.iload_n 1, 1) := by decide +kernel
theorem dX10_readsOnce_67 : decode cX10_readsOnce 67 = .ok (.tableswitch 67 0 3 #[29, 39, 47, 57], 29) := by decide +kernel
theorem dX10_readsOnce_96 : decode cX10_readsOnce 96 = .ok (.aload_n 0, 1) := by decide +kernel
theorem dX10_readsOnce_97 : decode cX10_readsOnce 97 = .ok (.getfield 24, 3) := by decide +kernel
theorem dX10_readsOnce_100 : decode cX10_readsOnce 100 = .ok (.iconst 1, 1) := by decide +kernel
theorem dX10_readsOnce_101 : decode cX10_readsOnce 101 = .ok (.iload_n 2, 1) := by decide +kernel
theorem dX10_readsOnce_102 : decode cX10_readsOnce 102 = .ok (.iastore, 1) := by decide +kernel
theorem dX10_readsOnce_103 : decode cX10_readsOnce 103 = .ok (.goto 38, 3) := by decide +kernel
theorem dX10_readsOnce_106 : decode cX10_readsOnce 106 = .ok (.aload_n 0, 1) := by decide +kernel
theorem dX10_readsOnce_107 : decode cX10_readsOnce 107 = .ok (.iload_n 2, 1) := by decide +kernel
theorem dX10_readsOnce_108 : decode cX10_readsOnce 108 = .ok (.putfield 69, 3) := by decide +kernel
theorem dX10_readsOnce_111 : decode cX10_readsOnce 111 = .ok (.goto 30, 3) := by decide +kernel
theorem dX10_readsOnce_114 : decode cX10_readsOnce 114 = .ok (.aload_n 0, 1) := by decide +kernel
theorem dX10_readsOnce_115 : decode cX10_readsOnce 115 = .ok (.getfield 24, 3) := by decide +kernel
theorem dX10_readsOnce_118 : decode cX10_readsOnce 118 = .ok (.iconst 2, 1) := by decide +kernel
theorem dX10_readsOnce_119 : decode cX10_readsOnce 119 = .ok (.iload_n 2, 1) := by decide +kernel
theorem dX10_readsOnce_120 : decode cX10_readsOnce 120 = .ok (.iastore, 1) := by decide +kernel
theorem dX10_readsOnce_121 : decode cX10_readsOnce 121 = .ok (.goto 20, 3) := by decide +kernel
theorem dX10_readsOnce_124 : decode cX10_readsOnce 124 = .ok (.aload_n 0, 1) := by decide +kernel
theorem dX10_readsOnce_125 : decode cX10_readsOnce 125 = .ok (.getfield 24, 3) := by decide +kernel
theorem dX10_readsOnce_128 : decode cX10_readsOnce 128 = .ok (.iconst 3, 1) := by decide +kernel
theorem dX10_readsOnce_129 : decode cX10_readsOnce 129 = .ok (.iload_n 2, 1) := by decide +kernel
theorem dX10_readsOnce_130 : decode cX10_readsOnce 130 = .ok (.iastore, 1) := by decide +kernel
theorem dX10_readsOnce_131 : decode cX10_readsOnce 131 = .ok (.goto 10, 3) := by decide +kernel
theorem dX10_readsOnce_134 : decode cX10_readsOnce 134 = .ok (.aload_n 0, 1) := by decide +kernel
theorem dX10_readsOnce_135 : decode cX10_readsOnce 135 = .ok (.getfield 24, 3) := by decide +kernel
theorem dX10_readsOnce_138 : decode cX10_readsOnce 138 = .ok (.iconst 4, 1) := by decide +kernel
theorem dX10_readsOnce_139 : decode cX10_readsOnce 139 = .ok (.iload_n 2, 1) := by decide +kernel
theorem dX10_readsOnce_140 : decode cX10_readsOnce 140 = .ok (.iastore, 1) := by decide +kernel
theorem dX10_readsOnce_141 : decode cX10_readsOnce 141 = .ok (.return_, 1) := by decide +kernel
theorem hyX10_readsOnce : yX10_readsOnce.cls ≠ "java/lang/invoke/MethodHandle" ∧ yX10_readsOnce.cls ≠ "java/lang/invoke/VarHandle" ∧ (parseMethodDescriptor yX10_readsOnce.desc).map (fun d => d.parameters.length) = some 1 := ⟨by decide +kernel, by decide +kernel, by decide +kernel⟩
set_option maxRecDepth 100000 in
set_option maxHeartbeats 4000000 in
theorem wjX10_readsOnce_57 (C : zC p s m args meth c cX10_readsOnce RX10 3 D Ca B En) (hRm : zRm R 8 172 cells slots) (ev : zEv) (hZ : ∀ U : State, En U → zEnv ev B U) (σ : zS) (x0 : Nat) (x1 : Int32) (y0 : Int32) (τ : zS) (hf : jX10_readsOnce_57 σ x0 x1 y0 = some τ) (hq : ∀ (pc : Nat) (lv : List (Nat × Value)), decode cX10_readsOnce pc = .ok (.return_, 1) → zW p l e R s m args below meth c cells slots Q D Ca B 3 τ N pc lv []) : zW p l e R s m args below meth c cells slots Q D Ca B 3 σ N 57 [(0, .ref x0), (1, .int x1)] [.int y0] := by
  unfold jX10_readsOnce_57 at hf
  refine z_istore_n (lv2 := [(2, .int y0), (0, .ref x0), (1, .int x1)]) C dX10_readsOnce_57 rfl (by decide) rfl ?_
  refine z_aload_n C dX10_readsOnce_58 rfl 1 rfl ?_
  obtain ⟨c3, hc3, hf⟩ := zbind hf
  obtain ⟨kc3, hc3⟩ := zck_ok hc3
  refine z_callVi (As := []) (F0 := 8) (L0 := 172) C (mX10_fine l D Ca B En C.2.2.2.2.2.2.2.1 σ N x0  _ hc3) hRm kc3 rfl kw_1851 kw_14 kw_1848 kw_1850 kp_105 hyX10_fine (Nat.le_of_ble_eq_true rfl) (Nat.le_of_ble_eq_true rfl) rfl rfl (Nat.le_of_ble_eq_true rfl) dX10_readsOnce_59 ?_
  refine z_if_ne C 66 dX10_readsOnce_62 (by decide) (fun q17 => ?_) (fun q17 => ?_)
  · rw [if_neg q17] at hf
    refine z_iload_n C dX10_readsOnce_66 rfl 2 rfl ?_
    by_cases q4 : x1 = (zi 0)
    · rw [if_pos q4] at hf
      refine z_tableIn C 96 dX10_readsOnce_67 (by rw [q4]; decide) (by rw [q4]; decide) (by rw [q4]; rfl) (by decide) ?_
      refine z_aload_n C dX10_readsOnce_96 rfl 1 rfl ?_
      obtain ⟨v5, hv5, hf⟩ := zbind hf
      refine gf_RX10_24 C hv5 dX10_readsOnce_97 ?_
      refine z_iconst C (zi 1) dX10_readsOnce_100 (by decide) ?_
      refine z_iload_n C dX10_readsOnce_101 rfl 0 rfl ?_
      obtain ⟨σ6, hσ6, hf⟩ := zbind hf
      refine z_sI C hσ6 dX10_readsOnce_102 ?_
      refine z_goto C 141 dX10_readsOnce_103 (by decide) ?_
      cases hf
      exact hq _ _ dX10_readsOnce_141
    · rw [if_neg q4] at hf
      by_cases q7 : x1 = (zi 1)
      · rw [if_pos q7] at hf
        refine z_tableIn C 106 dX10_readsOnce_67 (by rw [q7]; decide) (by rw [q7]; decide) (by rw [q7]; rfl) (by decide) ?_
        refine z_aload_n C dX10_readsOnce_106 rfl 1 rfl ?_
        refine z_iload_n C dX10_readsOnce_107 rfl 0 rfl ?_
        obtain ⟨σ8, hσ8, hf⟩ := zbind hf
        refine gp_RX10_69 C hσ8 dX10_readsOnce_108 ?_
        refine z_goto C 141 dX10_readsOnce_111 (by decide) ?_
        cases hf
        exact hq _ _ dX10_readsOnce_141
      · rw [if_neg q7] at hf
        by_cases q9 : x1 = (zi 2)
        · rw [if_pos q9] at hf
          refine z_tableIn C 114 dX10_readsOnce_67 (by rw [q9]; decide) (by rw [q9]; decide) (by rw [q9]; rfl) (by decide) ?_
          refine z_aload_n C dX10_readsOnce_114 rfl 1 rfl ?_
          obtain ⟨v10, hv10, hf⟩ := zbind hf
          refine gf_RX10_24 C hv10 dX10_readsOnce_115 ?_
          refine z_iconst C (zi 2) dX10_readsOnce_118 (by decide) ?_
          refine z_iload_n C dX10_readsOnce_119 rfl 0 rfl ?_
          obtain ⟨σ11, hσ11, hf⟩ := zbind hf
          refine z_sI C hσ11 dX10_readsOnce_120 ?_
          refine z_goto C 141 dX10_readsOnce_121 (by decide) ?_
          cases hf
          exact hq _ _ dX10_readsOnce_141
        · rw [if_neg q9] at hf
          by_cases q12 : x1 = (zi 3)
          · rw [if_pos q12] at hf
            refine z_tableIn C 124 dX10_readsOnce_67 (by rw [q12]; decide) (by rw [q12]; decide) (by rw [q12]; rfl) (by decide) ?_
            refine z_aload_n C dX10_readsOnce_124 rfl 1 rfl ?_
            obtain ⟨v13, hv13, hf⟩ := zbind hf
            refine gf_RX10_24 C hv13 dX10_readsOnce_125 ?_
            refine z_iconst C (zi 3) dX10_readsOnce_128 (by decide) ?_
            refine z_iload_n C dX10_readsOnce_129 rfl 0 rfl ?_
            obtain ⟨σ14, hσ14, hf⟩ := zbind hf
            refine z_sI C hσ14 dX10_readsOnce_130 ?_
            refine z_goto C 141 dX10_readsOnce_131 (by decide) ?_
            cases hf
            exact hq _ _ dX10_readsOnce_141
          · rw [if_neg q12] at hf
            have w9 : ∀ k : Nat, k < 4 → ¬ x1 = Int32.ofInt ((0 : Int) + k) := by
              intro k hk
              match k, hk with
              | 0, _ => exact q4
              | 1, _ => exact q7
              | 2, _ => exact q9
              | 3, _ => exact q12
              | k + 4, hk => exact absurd hk (by omega)
            refine z_tableOut C 134 dX10_readsOnce_67 (zsw 0 4 w9 (by decide)) (by decide) ?_
            refine z_aload_n C dX10_readsOnce_134 rfl 1 rfl ?_
            obtain ⟨v15, hv15, hf⟩ := zbind hf
            refine gf_RX10_24 C hv15 dX10_readsOnce_135 ?_
            refine z_iconst C (zi 4) dX10_readsOnce_138 (by decide) ?_
            refine z_iload_n C dX10_readsOnce_139 rfl 0 rfl ?_
            obtain ⟨σ16, hσ16, hf⟩ := zbind hf
            refine z_sI C hσ16 dX10_readsOnce_140 ?_
            cases hf
            exact hq _ _ dX10_readsOnce_141
  · rw [if_pos q17] at hf
    cases hf
    exact hq _ _ dX10_readsOnce_65

set_option maxRecDepth 100000 in
set_option maxHeartbeats 4000000 in
theorem wjX10_readsOnce_54 (C : zC p s m args meth c cX10_readsOnce RX10 3 D Ca B En) (hRm : zRm R 8 172 cells slots) (ev : zEv) (hZ : ∀ U : State, En U → zEnv ev B U) (σ : zS) (x0 : Nat) (x1 : Int32) (y0 : Int32) (y1 : Int32) (y2 : Nat) (τ : zS) (hf : jX10_readsOnce_54 σ x0 x1 y0 y1 y2 = some τ) (hq : ∀ (pc : Nat) (lv : List (Nat × Value)), decode cX10_readsOnce pc = .ok (.return_, 1) → zW p l e R s m args below meth c cells slots Q D Ca B 3 τ N pc lv []) : zW p l e R s m args below meth c cells slots Q D Ca B 3 σ N 54 [(0, .ref x0), (1, .int x1)] [.int y0, .int y1, .ref y2] := by
  unfold jX10_readsOnce_54 at hf
  obtain ⟨c2, hc2, hf⟩ := zbind hf
  obtain ⟨kc2, hc2⟩ := zck_ok hc2
  refine z_callVi (As := [.int y1, .int y0]) (F0 := 8) (L0 := 172) C (mX10_number l D Ca B En C.2.2.2.2.2.2.2.1 ev hZ σ N y2 y1 y0 _ hc2) hRm kc2 rfl kw_1888 kw_14 kw_1885 kw_1887 kp_113 hyX10_number (Nat.le_of_ble_eq_true rfl) (Nat.le_of_ble_eq_true rfl) rfl rfl (Nat.le_of_ble_eq_true rfl) dX10_readsOnce_54 ?_
  refine z_sub [0, 1] rfl ?_
  exact wjX10_readsOnce_57 C hRm ev hZ _ _ _ _ _ hf hq

set_option maxRecDepth 100000 in
set_option maxHeartbeats 4000000 in
theorem wjX10_readsOnce_25 (C : zC p s m args meth c cX10_readsOnce RX10 3 D Ca B En) (hRm : zRm R 8 172 cells slots) (ev : zEv) (hZ : ∀ U : State, En U → zEnv ev B U) (σ : zS) (x0 : Nat) (x1 : Int32) (y0 : Int32) (y1 : Nat) (τ : zS) (hf : jX10_readsOnce_25 σ x0 x1 y0 y1 = some τ) (hq : ∀ (pc : Nat) (lv : List (Nat × Value)), decode cX10_readsOnce pc = .ok (.return_, 1) → zW p l e R s m args below meth c cells slots Q D Ca B 3 τ N pc lv []) : zW p l e R s m args below meth c cells slots Q D Ca B 3 σ N 25 [(0, .ref x0), (1, .int x1)] [.int y0, .ref y1] := by
  unfold jX10_readsOnce_25 at hf
  refine z_iload_n C dX10_readsOnce_25 rfl 1 rfl ?_
  refine z_if_ne C 33 dX10_readsOnce_26 (by decide) (fun q20 => ?_) (fun q20 => ?_)
  · rw [if_neg q20] at hf
    refine z_iload_n C dX10_readsOnce_33 rfl 1 rfl ?_
    refine z_iconst C (zi 1) dX10_readsOnce_34 (by decide) ?_
    refine z_icmp_ne C 42 dX10_readsOnce_35 (by decide) (fun q19 => ?_) (fun q19 => ?_)
    · rw [if_neg q19] at hf
      refine z_iload_n C dX10_readsOnce_42 rfl 1 rfl ?_
      refine z_iconst C (zi 2) dX10_readsOnce_43 (by decide) ?_
      refine z_icmp_ne C 52 dX10_readsOnce_44 (by decide) (fun q18 => ?_) (fun q18 => ?_)
      · rw [if_neg q18] at hf
        refine z_bipush C (zi 99) dX10_readsOnce_52 (by decide) ?_
        refine z_sub [0, 1] rfl ?_
        exact wjX10_readsOnce_54 C hRm ev hZ _ _ _ _ _ _ _ hf hq
      · rw [if_pos q18] at hf
        refine z_bipush C (zi 9) dX10_readsOnce_47 (by decide) ?_
        refine z_goto C 54 dX10_readsOnce_49 (by decide) ?_
        refine z_sub [0, 1] rfl ?_
        exact wjX10_readsOnce_54 C hRm ev hZ _ _ _ _ _ _ _ hf hq
    · rw [if_pos q19] at hf
      refine z_iconst C (zi 2) dX10_readsOnce_38 (by decide) ?_
      refine z_goto C 54 dX10_readsOnce_39 (by decide) ?_
      refine z_sub [0, 1] rfl ?_
      exact wjX10_readsOnce_54 C hRm ev hZ _ _ _ _ _ _ _ hf hq
  · rw [if_pos q20] at hf
    refine z_iconst C (zi 4) dX10_readsOnce_29 (by decide) ?_
    refine z_goto C 54 dX10_readsOnce_30 (by decide) ?_
    refine z_sub [0, 1] rfl ?_
    exact wjX10_readsOnce_54 C hRm ev hZ _ _ _ _ _ _ _ hf hq

set_option maxRecDepth 100000 in
set_option maxHeartbeats 4000000 in
theorem wfX10_readsOnce (C : zC p s m args meth c cX10_readsOnce RX10 3 D Ca B En) (hRm : zRm R 8 172 cells slots) (ev : zEv) (hZ : ∀ U : State, En U → zEnv ev B U) (σ : zS) (x0 : Nat) (x1 : Int32) (τ : zS) (hf : fX10_readsOnce σ x0 x1 = some τ) (hq : ∀ (pc : Nat) (lv : List (Nat × Value)), decode cX10_readsOnce pc = .ok (.return_, 1) → zW p l e R s m args below meth c cells slots Q D Ca B 3 τ N pc lv []) : zW p l e R s m args below meth c cells slots Q D Ca B 3 σ N 0 [(0, .ref x0), (1, .int x1)] [] := by
  unfold fX10_readsOnce at hf
  refine z_aload_n C dX10_readsOnce_0 rfl 0 rfl ?_
  refine z_iload_n C dX10_readsOnce_1 rfl 1 rfl ?_
  obtain ⟨c1, hc1, hf⟩ := zbind hf
  obtain ⟨kc1, hc1⟩ := zck_ok hc1
  refine z_callVv (As := [.int x1]) (F0 := 8) (L0 := 172) C (mX10_once l D Ca B En C.2.2.2.2.2.2.2.1 ev hZ σ N x0 x1 _ hc1) hRm kc1 rfl kw_1896 kw_14 kw_1893 kw_1895 kp_115 hyX10_once (Nat.le_of_ble_eq_true rfl) (Nat.le_of_ble_eq_true rfl) rfl rfl (Nat.le_of_ble_eq_true rfl) dX10_readsOnce_2 ?_
  refine z_iload_n C dX10_readsOnce_5 rfl 1 rfl ?_
  refine z_iconst C (zi 4) dX10_readsOnce_6 (by decide) ?_
  refine z_icmp_ne C 14 dX10_readsOnce_7 (by decide) (fun q22 => ?_) (fun q22 => ?_)
  · rw [if_neg q22] at hf
    refine z_aload_n C dX10_readsOnce_14 rfl 0 rfl ?_
    refine z_iload_n C dX10_readsOnce_15 rfl 1 rfl ?_
    refine z_iconst C (zi 3) dX10_readsOnce_16 (by decide) ?_
    refine z_icmp_ne C 24 dX10_readsOnce_17 (by decide) (fun q21 => ?_) (fun q21 => ?_)
    · rw [if_neg q21] at hf
      refine z_iconst C (zi 1) dX10_readsOnce_24 (by decide) ?_
      refine z_sub [0, 1] rfl ?_
      exact wjX10_readsOnce_25 C hRm ev hZ _ _ _ _ _ _ hf hq
    · rw [if_pos q21] at hf
      refine z_iconst C (zi 0) dX10_readsOnce_20 (by decide) ?_
      refine z_goto C 25 dX10_readsOnce_21 (by decide) ?_
      refine z_sub [0, 1] rfl ?_
      exact wjX10_readsOnce_25 C hRm ev hZ _ _ _ _ _ _ hf hq
  · rw [if_pos q22] at hf
    refine z_iconst C (zi 1) dX10_readsOnce_10 (by decide) ?_
    refine z_goto C 57 dX10_readsOnce_11 (by decide) ?_
    refine z_sub [0, 1] rfl ?_
    exact wjX10_readsOnce_57 C hRm ev hZ _ _ _ _ _ hf hq

theorem mX10_readsOnce (l : Launch) (D : va_G) (Ca : Nat → ClassId) (B : Nat) (En : State → Prop) (hE : zEk B En) (ev : zEv) (hZ : ∀ U : State, En U → zEnv ev B U) (σ : zS) (N : Nat) (x0 : Nat) (x1 : Int32) (X : zS) (hf : fX10_readsOnce σ x0 x1 = some X) : zMv l D Ca B En yX10_readsOnce cX10_readsOnce 3 (Option.none : Option Jvm.ClassFile.FieldType) 8 172 [.ref x0, .int x1] σ N X () :=
  zMet_v (own := RX10) hE (by decide +kernel) rfl (Nat.le_of_ble_eq_true rfl) (fun p e s m args below meth c C hr hRm => wfX10_readsOnce C hRm ev hZ σ x0 x1 X hf (fun pc lv hd => zfin_v (r := ()) C hr hd))
theorem dX10_statement_0 : decode cX10_statement 0 = .ok (.aload_n 0, 1) := by decide +kernel
theorem dX10_statement_1 : decode cX10_statement 1 = .ok (.iconst 5, 1) := by decide +kernel
theorem dX10_statement_2 : decode cX10_statement 2 = .ok (.invokevirtual 418, 3) := by decide +kernel
theorem dX10_statement_5 : decode cX10_statement 5 = .ok (.ifCond .eq 10, 3) := by decide +kernel
theorem dX10_statement_8 : decode cX10_statement 8 = .ok (.aload_n 0, 1) := by decide +kernel
theorem dX10_statement_9 : decode cX10_statement 9 = .ok (.invokevirtual 443, 3) := by decide +kernel
theorem dX10_statement_12 : decode cX10_statement 12 = .ok (.goto 43, 3) := by decide +kernel
theorem dX10_statement_15 : decode cX10_statement 15 = .ok (.aload_n 0, 1) := by decide +kernel
theorem dX10_statement_16 : decode cX10_statement 16 = .ok (.getfield 372, 3) := by decide +kernel
theorem dX10_statement_19 : decode cX10_statement 19 = .ok (.iconst 1, 1) := by decide +kernel
theorem dX10_statement_20 : decode cX10_statement 20 = .ok (.if_icmp .ne 29, 3) := by decide +kernel
theorem dX10_statement_23 : decode cX10_statement 23 = .ok (.aload_n 0, 1) := by decide +kernel
theorem dX10_statement_24 : decode cX10_statement 24 = .ok (.getfield 382, 3) := by decide +kernel
theorem dX10_statement_27 : decode cX10_statement 27 = .ok (.i2l, 1) := by decide +kernel
theorem dX10_statement_28 : decode cX10_statement 28 = .ok (.lconst 0, 1) := by decide +kernel
theorem dX10_statement_29 : decode cX10_statement 29 = .ok (.ldc2_w 276, 3) := by decide +kernel
theorem dX10_statement_32 : decode cX10_statement 32 = .ok (.invokestatic 247, 3) := by decide +kernel
theorem dX10_statement_35 : decode cX10_statement 35 = .ok (.ifCond .eq 14, 3) := by decide +kernel
theorem dX10_statement_38 : decode cX10_statement 38 = .ok (.aload_n 0, 1) := by decide +kernel
theorem dX10_statement_39 : decode cX10_statement 39 = .ok (.aload_n 0, 1) := by decide +kernel
theorem dX10_statement_40 : decode cX10_statement 40 = .ok (.getfield 382, 3) := by decide +kernel
theorem dX10_statement_43 : decode cX10_statement 43 = .ok (.invokevirtual 446, 3) := by decide +kernel
theorem dX10_statement_46 : decode cX10_statement 46 = .ok (.goto 9, 3) := by decide +kernel
theorem dX10_statement_49 : decode cX10_statement 49 = .ok (.aload_n 0, 1) := by decide +kernel
theorem dX10_statement_50 : decode cX10_statement 50 = .ok (.iconst 0, 1) := by decide +kernel
theorem dX10_statement_51 : decode cX10_statement 51 = .ok (.iconst 1, 1) := by decide +kernel
theorem dX10_statement_52 : decode cX10_statement 52 = .ok (.invokevirtual 411, 3) := by decide +kernel
theorem dX10_statement_55 : decode cX10_statement 55 = .ok (.aload_n 0, 1) := by decide +kernel
theorem dX10_statement_56 : decode cX10_statement 56 = .ok (.aload_n 0, 1) := by decide +kernel
theorem dX10_statement_57 : decode cX10_statement 57 = .ok (.getfield 372, 3) := by decide +kernel
theorem dX10_statement_60 : decode cX10_statement 60 = .ok (.iconst 3, 1) := by decide +kernel
theorem dX10_statement_61 : decode cX10_statement 61 = .ok (.if_icmp .ne 7, 3) := by decide +kernel
theorem dX10_statement_64 : decode cX10_statement 64 = .ok (.iconst 1, 1) := by decide +kernel
theorem dX10_statement_65 : decode cX10_statement 65 = .ok (.goto 4, 3) := by decide +kernel
theorem dX10_statement_68 : decode cX10_statement 68 = .ok (.iconst 0, 1) := by decide +kernel
theorem dX10_statement_69 : decode cX10_statement 69 = .ok (.iconst 1, 1) := by decide +kernel
theorem dX10_statement_70 : decode cX10_statement 70 = .ok (.invokevirtual 411, 3) := by decide +kernel
theorem dX10_statement_73 : decode cX10_statement 73 = .ok (.aload_n 0, 1) := by decide +kernel
theorem dX10_statement_74 : decode cX10_statement 74 = .ok (.invokevirtual 415, 3) := by decide +kernel
theorem dX10_statement_77 : decode cX10_statement 77 = .ok (.return_, 1) := by decide +kernel
theorem hyX10_statement : yX10_statement.cls ≠ "java/lang/invoke/MethodHandle" ∧ yX10_statement.cls ≠ "java/lang/invoke/VarHandle" ∧ (parseMethodDescriptor yX10_statement.desc).map (fun d => d.parameters.length) = some 0 := ⟨by decide +kernel, by decide +kernel, by decide +kernel⟩
set_option maxRecDepth 100000 in
set_option maxHeartbeats 4000000 in
theorem wjX10_statement_69 (C : zC p s m args meth c cX10_statement RX10 1 D Ca B En) (hRm : zRm R 10 219 cells slots) (ev : zEv) (hZ : ∀ U : State, En U → zEnv ev B U) (σ : zS) (x0 : Nat) (y0 : Int32) (y1 : Nat) (τ : zS) (hf : jX10_statement_69 σ x0 y0 y1 = some τ) (hq : ∀ (pc : Nat) (lv : List (Nat × Value)), decode cX10_statement pc = .ok (.return_, 1) → zW p l e R s m args below meth c cells slots Q D Ca B 1 τ N pc lv []) : zW p l e R s m args below meth c cells slots Q D Ca B 1 σ N 69 [(0, .ref x0)] [.int y0, .ref y1] := by
  unfold jX10_statement_69 at hf
  refine z_iconst C (zi 1) dX10_statement_69 (by decide) ?_
  obtain ⟨c5, hc5, hf⟩ := zbind hf
  obtain ⟨kc5, hc5⟩ := zck_ok hc5
  refine z_callVv (As := [.int y0, .int ((zi 1))]) (F0 := 10) (L0 := 219) C (mX10_needs l D Ca B En C.2.2.2.2.2.2.2.1 σ N y1 y0 ((zi 1)) _ hc5) hRm kc5 rfl kw_1867 kw_14 kw_1864 kw_1866 kp_109 hyX10_needs (Nat.le_of_ble_eq_true rfl) (Nat.le_of_ble_eq_true rfl) rfl rfl (Nat.le_of_ble_eq_true rfl) dX10_statement_70 ?_
  refine z_aload_n C dX10_statement_73 rfl 0 rfl ?_
  obtain ⟨c6, hc6, hf⟩ := zbind hf
  obtain ⟨kc6, hc6⟩ := zck_ok hc6
  refine z_callVv (As := []) (F0 := 10) (L0 := 219) C (mX10_goOn l D Ca B En C.2.2.2.2.2.2.2.1 ev hZ c5 N x0  _ hc6) hRm kc6 rfl kw_1871 kw_14 kw_1868 kw_1870 kp_110 hyX10_goOn (Nat.le_of_ble_eq_true rfl) (Nat.le_of_ble_eq_true rfl) rfl rfl (Nat.le_of_ble_eq_true rfl) dX10_statement_74 ?_
  cases hf
  exact hq _ _ dX10_statement_77

set_option maxRecDepth 100000 in
set_option maxHeartbeats 4000000 in
theorem wjX10_statement_55 (C : zC p s m args meth c cX10_statement RX10 1 D Ca B En) (hRm : zRm R 10 219 cells slots) (ev : zEv) (hZ : ∀ U : State, En U → zEnv ev B U) (σ : zS) (x0 : Nat)  (τ : zS) (hf : jX10_statement_55 σ x0  = some τ) (hq : ∀ (pc : Nat) (lv : List (Nat × Value)), decode cX10_statement pc = .ok (.return_, 1) → zW p l e R s m args below meth c cells slots Q D Ca B 1 τ N pc lv []) : zW p l e R s m args below meth c cells slots Q D Ca B 1 σ N 55 [(0, .ref x0)] [] := by
  unfold jX10_statement_55 at hf
  refine z_aload_n C dX10_statement_55 rfl 0 rfl ?_
  refine z_aload_n C dX10_statement_56 rfl 0 rfl ?_
  obtain ⟨v4, hv4, hf⟩ := zbind hf
  refine gf_RX10_372 C hv4 dX10_statement_57 ?_
  refine z_iconst C (zi 3) dX10_statement_60 (by decide) ?_
  refine z_icmp_ne C 68 dX10_statement_61 (by decide) (fun q7 => ?_) (fun q7 => ?_)
  · rw [if_neg q7] at hf
    refine z_iconst C (zi 0) dX10_statement_68 (by decide) ?_
    refine z_sub [0] rfl ?_
    exact wjX10_statement_69 C hRm ev hZ _ _ _ _ _ hf hq
  · rw [if_pos q7] at hf
    refine z_iconst C (zi 1) dX10_statement_64 (by decide) ?_
    refine z_goto C 69 dX10_statement_65 (by decide) ?_
    refine z_sub [0] rfl ?_
    exact wjX10_statement_69 C hRm ev hZ _ _ _ _ _ hf hq

set_option maxRecDepth 100000 in
set_option maxHeartbeats 4000000 in
theorem wjX10_statement_49 (C : zC p s m args meth c cX10_statement RX10 1 D Ca B En) (hRm : zRm R 10 219 cells slots) (ev : zEv) (hZ : ∀ U : State, En U → zEnv ev B U) (σ : zS) (x0 : Nat)  (τ : zS) (hf : jX10_statement_49 σ x0  = some τ) (hq : ∀ (pc : Nat) (lv : List (Nat × Value)), decode cX10_statement pc = .ok (.return_, 1) → zW p l e R s m args below meth c cells slots Q D Ca B 1 τ N pc lv []) : zW p l e R s m args below meth c cells slots Q D Ca B 1 σ N 49 [(0, .ref x0)] [] := by
  unfold jX10_statement_49 at hf
  refine z_aload_n C dX10_statement_49 rfl 0 rfl ?_
  refine z_iconst C (zi 0) dX10_statement_50 (by decide) ?_
  refine z_iconst C (zi 1) dX10_statement_51 (by decide) ?_
  obtain ⟨c3, hc3, hf⟩ := zbind hf
  obtain ⟨kc3, hc3⟩ := zck_ok hc3
  refine z_callVv (As := [.int ((zi 0)), .int ((zi 1))]) (F0 := 10) (L0 := 219) C (mX10_needs l D Ca B En C.2.2.2.2.2.2.2.1 σ N x0 ((zi 0)) ((zi 1)) _ hc3) hRm kc3 rfl kw_1867 kw_14 kw_1864 kw_1866 kp_109 hyX10_needs (Nat.le_of_ble_eq_true rfl) (Nat.le_of_ble_eq_true rfl) rfl rfl (Nat.le_of_ble_eq_true rfl) dX10_statement_52 ?_
  refine z_sub [0] rfl ?_
  exact wjX10_statement_55 C hRm ev hZ _ _  _ hf hq

set_option maxRecDepth 100000 in
set_option maxHeartbeats 4000000 in
theorem wfX10_statement (C : zC p s m args meth c cX10_statement RX10 1 D Ca B En) (hRm : zRm R 10 219 cells slots) (ev : zEv) (hZ : ∀ U : State, En U → zEnv ev B U) (σ : zS) (x0 : Nat) (τ : zS) (hf : fX10_statement σ x0 = some τ) (hq : ∀ (pc : Nat) (lv : List (Nat × Value)), decode cX10_statement pc = .ok (.return_, 1) → zW p l e R s m args below meth c cells slots Q D Ca B 1 τ N pc lv []) : zW p l e R s m args below meth c cells slots Q D Ca B 1 σ N 0 [(0, .ref x0)] [] := by
  unfold fX10_statement at hf
  refine z_aload_n C dX10_statement_0 rfl 0 rfl ?_
  refine z_iconst C (zi 5) dX10_statement_1 (by decide) ?_
  obtain ⟨c1, hc1, hf⟩ := zbind hf
  obtain ⟨kc1, hc1⟩ := zck_ok hc1
  refine z_callVi (As := [.int ((zi 5))]) (F0 := 10) (L0 := 219) C (mX10_isWord l D Ca B En C.2.2.2.2.2.2.2.1 σ N x0 ((zi 5)) _ hc1) hRm kc1 rfl kw_1859 kw_14 kw_1856 kw_1858 kp_107 hyX10_isWord (Nat.le_of_ble_eq_true rfl) (Nat.le_of_ble_eq_true rfl) rfl rfl (Nat.le_of_ble_eq_true rfl) dX10_statement_2 ?_
  refine z_if_eq C 15 dX10_statement_5 (by decide) (fun q15 => ?_) (fun q15 => ?_)
  · rw [if_pos q15] at hf
    refine z_aload_n C dX10_statement_15 rfl 0 rfl ?_
    obtain ⟨v2, hv2, hf⟩ := zbind hf
    refine gf_RX10_372 C hv2 dX10_statement_16 ?_
    refine z_iconst C (zi 1) dX10_statement_19 (by decide) ?_
    refine z_icmp_ne C 49 dX10_statement_20 (by decide) (fun q13 => ?_) (fun q13 => ?_)
    · rw [if_neg q13] at hf
      refine z_sub [0] rfl ?_
      exact wjX10_statement_49 C hRm ev hZ _ _  _ hf hq
    · rw [if_pos q13] at hf
      refine z_aload_n C dX10_statement_23 rfl 0 rfl ?_
      obtain ⟨v8, hv8, hf⟩ := zbind hf
      refine gf_RX10_382 C hv8 dX10_statement_24 ?_
      refine z_i2l C dX10_statement_27 ?_
      refine z_lconst C 0 dX10_statement_28 (by decide) ?_
      refine z_ldc2 C kw_1607 dX10_statement_29 ?_
      obtain ⟨c9, hc9, hf⟩ := zbind hf
      refine z_callSi (As := [.long v8.toInt64, .long 0, .long 4]) (F0 := 10) (L0 := 219) C (mX10_isIn l D Ca B En C.2.2.2.2.2.2.2.1 c1.1 N v8.toInt64 0 4 _ hc9) hRm kw_1392 kw_14 kw_1390 kw_1391 hyX10_isIn (Nat.le_of_ble_eq_true rfl) (Nat.le_of_ble_eq_true rfl) rfl rfl (Nat.le_of_ble_eq_true rfl) dX10_statement_32 ?_
      refine z_if_eq C 49 dX10_statement_35 (by decide) (fun q12 => ?_) (fun q12 => ?_)
      · rw [if_pos q12] at hf
        refine z_sub [0] rfl ?_
        exact wjX10_statement_49 C hRm ev hZ _ _  _ hf hq
      · rw [if_neg q12] at hf
        refine z_aload_n C dX10_statement_38 rfl 0 rfl ?_
        refine z_aload_n C dX10_statement_39 rfl 0 rfl ?_
        obtain ⟨v10, hv10, hf⟩ := zbind hf
        refine gf_RX10_382 C hv10 dX10_statement_40 ?_
        obtain ⟨c11, hc11, hf⟩ := zbind hf
        obtain ⟨kc11, hc11⟩ := zck_ok hc11
        refine z_callVv (As := [.int v10]) (F0 := 10) (L0 := 219) C (mX10_readsOnce l D Ca B En C.2.2.2.2.2.2.2.1 ev hZ c9.1 N x0 v10 _ hc11) hRm kc11 rfl kw_1892 kw_14 kw_1889 kw_1891 kp_114 hyX10_readsOnce (Nat.le_of_ble_eq_true rfl) (Nat.le_of_ble_eq_true rfl) rfl rfl (Nat.le_of_ble_eq_true rfl) dX10_statement_43 ?_
        refine z_goto C 55 dX10_statement_46 (by decide) ?_
        refine z_sub [0] rfl ?_
        exact wjX10_statement_55 C hRm ev hZ _ _  _ hf hq
  · rw [if_neg q15] at hf
    refine z_aload_n C dX10_statement_8 rfl 0 rfl ?_
    obtain ⟨c14, hc14, hf⟩ := zbind hf
    obtain ⟨kc14, hc14⟩ := zck_ok hc14
    refine z_callVv (As := []) (F0 := 10) (L0 := 219) C (mX10_readsSource l D Ca B En C.2.2.2.2.2.2.2.1 ev hZ c1.1 N x0  _ hc14) hRm kc14 rfl kw_1863 kw_14 kw_1860 kw_1862 kp_108 hyX10_readsSource (Nat.le_of_ble_eq_true rfl) (Nat.le_of_ble_eq_true rfl) rfl rfl (Nat.le_of_ble_eq_true rfl) dX10_statement_9 ?_
    refine z_goto C 55 dX10_statement_12 (by decide) ?_
    refine z_sub [0] rfl ?_
    exact wjX10_statement_55 C hRm ev hZ _ _  _ hf hq

theorem mX10_statement (l : Launch) (D : va_G) (Ca : Nat → ClassId) (B : Nat) (En : State → Prop) (hE : zEk B En) (ev : zEv) (hZ : ∀ U : State, En U → zEnv ev B U) (σ : zS) (N : Nat) (x0 : Nat) (X : zS) (hf : fX10_statement σ x0 = some X) : zMv l D Ca B En yX10_statement cX10_statement 1 (Option.none : Option Jvm.ClassFile.FieldType) 10 219 [.ref x0] σ N X () :=
  zMet_v (own := RX10) hE (by decide +kernel) rfl (Nat.le_of_ble_eq_true rfl) (fun p e s m args below meth c C hr hRm => wfX10_statement C hRm ev hZ σ x0 X hf (fun pc lv hd => zfin_v (r := ()) C hr hd))
theorem dX10_startsReading_0 : decode cX10_startsReading 0 = .ok (.aload_n 0, 1) := by decide +kernel
theorem dX10_startsReading_1 : decode cX10_startsReading 1 = .ok (.aload_n 0, 1) := by decide +kernel
theorem dX10_startsReading_2 : decode cX10_startsReading 2 = .ok (.getfield 357, 3) := by decide +kernel
theorem dX10_startsReading_5 : decode cX10_startsReading 5 = .ok (.putfield 360, 3) := by decide +kernel
theorem dX10_startsReading_8 : decode cX10_startsReading 8 = .ok (.aload_n 0, 1) := by decide +kernel
theorem dX10_startsReading_9 : decode cX10_startsReading 9 = .ok (.iconst 0, 1) := by decide +kernel
theorem dX10_startsReading_10 : decode cX10_startsReading 10 = .ok (.putfield 357, 3) := by decide +kernel
theorem dX10_startsReading_13 : decode cX10_startsReading 13 = .ok (.aload_n 0, 1) := by decide +kernel
theorem dX10_startsReading_14 : decode cX10_startsReading 14 = .ok (.iconst 0, 1) := by decide +kernel
theorem dX10_startsReading_15 : decode cX10_startsReading 15 = .ok (.putfield 363, 3) := by decide +kernel
theorem dX10_startsReading_18 : decode cX10_startsReading 18 = .ok (.aload_n 0, 1) := by decide +kernel
theorem dX10_startsReading_19 : decode cX10_startsReading 19 = .ok (.invokevirtual 408, 3) := by decide +kernel
theorem dX10_startsReading_22 : decode cX10_startsReading 22 = .ok (.return_, 1) := by decide +kernel
theorem hyX10_startsReading : yX10_startsReading.cls ≠ "java/lang/invoke/MethodHandle" ∧ yX10_startsReading.cls ≠ "java/lang/invoke/VarHandle" ∧ (parseMethodDescriptor yX10_startsReading.desc).map (fun d => d.parameters.length) = some 0 := ⟨by decide +kernel, by decide +kernel, by decide +kernel⟩
set_option maxRecDepth 100000 in
set_option maxHeartbeats 4000000 in
theorem wfX10_startsReading (C : zC p s m args meth c cX10_startsReading RX10 1 D Ca B En) (hRm : zRm R 6 129 cells slots) (ev : zEv) (hZ : ∀ U : State, En U → zEnv ev B U) (σ : zS) (x0 : Nat) (τ : zS) (hf : fX10_startsReading σ x0 = some τ) (hq : ∀ (pc : Nat) (lv : List (Nat × Value)), decode cX10_startsReading pc = .ok (.return_, 1) → zW p l e R s m args below meth c cells slots Q D Ca B 1 τ N pc lv []) : zW p l e R s m args below meth c cells slots Q D Ca B 1 σ N 0 [(0, .ref x0)] [] := by
  unfold fX10_startsReading at hf
  refine z_aload_n C dX10_startsReading_0 rfl 0 rfl ?_
  refine z_aload_n C dX10_startsReading_1 rfl 0 rfl ?_
  obtain ⟨v1, hv1, hf⟩ := zbind hf
  refine gf_RX10_357 C hv1 dX10_startsReading_2 ?_
  obtain ⟨σ2, hσ2, hf⟩ := zbind hf
  refine gp_RX10_360 C hσ2 dX10_startsReading_5 ?_
  refine z_aload_n C dX10_startsReading_8 rfl 0 rfl ?_
  refine z_iconst C (zi 0) dX10_startsReading_9 (by decide) ?_
  obtain ⟨σ3, hσ3, hf⟩ := zbind hf
  refine gp_RX10_357 C hσ3 dX10_startsReading_10 ?_
  refine z_aload_n C dX10_startsReading_13 rfl 0 rfl ?_
  refine z_iconst C (zi 0) dX10_startsReading_14 (by decide) ?_
  obtain ⟨σ4, hσ4, hf⟩ := zbind hf
  refine gp_RX10_363 C hσ4 dX10_startsReading_15 ?_
  refine z_aload_n C dX10_startsReading_18 rfl 0 rfl ?_
  obtain ⟨c5, hc5, hf⟩ := zbind hf
  obtain ⟨kc5, hc5⟩ := zck_ok hc5
  refine z_callVv (As := []) (F0 := 6) (L0 := 129) C (mX10_next l D Ca B En C.2.2.2.2.2.2.2.1 ev hZ σ4 N x0  _ hc5) hRm kc5 rfl kw_1832 kw_14 kw_1829 kw_1831 kp_102 hyX10_next (Nat.le_of_ble_eq_true rfl) (Nat.le_of_ble_eq_true rfl) rfl rfl (Nat.le_of_ble_eq_true rfl) dX10_startsReading_19 ?_
  cases hf
  exact hq _ _ dX10_startsReading_22

theorem mX10_startsReading (l : Launch) (D : va_G) (Ca : Nat → ClassId) (B : Nat) (En : State → Prop) (hE : zEk B En) (ev : zEv) (hZ : ∀ U : State, En U → zEnv ev B U) (σ : zS) (N : Nat) (x0 : Nat) (X : zS) (hf : fX10_startsReading σ x0 = some X) : zMv l D Ca B En yX10_startsReading cX10_startsReading 1 (Option.none : Option Jvm.ClassFile.FieldType) 6 129 [.ref x0] σ N X () :=
  zMet_v (own := RX10) hE (by decide +kernel) rfl (Nat.le_of_ble_eq_true rfl) (fun p e s m args below meth c C hr hRm => wfX10_startsReading C hRm ev hZ σ x0 X hf (fun pc lv hd => zfin_v (r := ()) C hr hd))
theorem dX10_parse_0 : decode cX10_parse 0 = .ok (.aload_n 0, 1) := by decide +kernel
theorem dX10_parse_1 : decode cX10_parse 1 = .ok (.iconst 0, 1) := by decide +kernel
theorem dX10_parse_2 : decode cX10_parse 2 = .ok (.putfield 92, 3) := by decide +kernel
theorem dX10_parse_5 : decode cX10_parse 5 = .ok (.aload_n 0, 1) := by decide +kernel
theorem dX10_parse_6 : decode cX10_parse 6 = .ok (.iconst 0, 1) := by decide +kernel
theorem dX10_parse_7 : decode cX10_parse 7 = .ok (.putfield 402, 3) := by decide +kernel
theorem dX10_parse_10 : decode cX10_parse 10 = .ok (.aload_n 0, 1) := by decide +kernel
theorem dX10_parse_11 : decode cX10_parse 11 = .ok (.iconst (-1), 1) := by decide +kernel
theorem dX10_parse_12 : decode cX10_parse 12 = .ok (.putfield 44, 3) := by decide +kernel
theorem dX10_parse_15 : decode cX10_parse 15 = .ok (.aload_n 0, 1) := by decide +kernel
theorem dX10_parse_16 : decode cX10_parse 16 = .ok (.invokevirtual 60, 3) := by decide +kernel
theorem dX10_parse_19 : decode cX10_parse 19 = .ok (.aload_n 0, 1) := by decide +kernel
theorem dX10_parse_20 : decode cX10_parse 20 = .ok (.invokevirtual 449, 3) := by decide +kernel
theorem dX10_parse_23 : decode cX10_parse 23 = .ok (.aload_n 0, 1) := by decide +kernel
theorem dX10_parse_24 : decode cX10_parse 24 = .ok (.invokevirtual 405, 3) := by decide +kernel
theorem dX10_parse_27 : decode cX10_parse 27 = .ok (.ifCond .eq 17, 3) := by decide +kernel
theorem dX10_parse_30 : decode cX10_parse 30 = .ok (.aload_n 0, 1) := by decide +kernel
theorem dX10_parse_31 : decode cX10_parse 31 = .ok (.getfield 372, 3) := by decide +kernel
theorem dX10_parse_34 : decode cX10_parse 34 = .ok (.ifCond .eq 10, 3) := by decide +kernel
theorem dX10_parse_37 : decode cX10_parse 37 = .ok (.aload_n 0, 1) := by decide +kernel
theorem dX10_parse_38 : decode cX10_parse 38 = .ok (.invokevirtual 452, 3) := by decide +kernel
theorem dX10_parse_41 : decode cX10_parse 41 = .ok (.goto (-18), 3) := by decide +kernel
theorem dX10_parse_44 : decode cX10_parse 44 = .ok (.aload_n 0, 1) := by decide +kernel
theorem dX10_parse_45 : decode cX10_parse 45 = .ok (.aload_n 0, 1) := by decide +kernel
theorem dX10_parse_46 : decode cX10_parse 46 = .ok (.getfield 63, 3) := by decide +kernel
theorem dX10_parse_49 : decode cX10_parse 49 = .ok (.ifCond .le 7, 3) := by decide +kernel
theorem dX10_parse_52 : decode cX10_parse 52 = .ok (.iconst 1, 1) := by decide +kernel
theorem dX10_parse_53 : decode cX10_parse 53 = .ok (.goto 4, 3) := by decide +kernel
theorem dX10_parse_56 : decode cX10_parse 56 = .ok (.iconst 0, 1) := by decide +kernel
theorem dX10_parse_57 : decode cX10_parse 57 = .ok (.iconst 5, 1) := by decide +kernel
theorem dX10_parse_58 : decode cX10_parse 58 = .ok (.invokevirtual 411, 3) := by decide +kernel
theorem dX10_parse_61 : decode cX10_parse 61 = .ok (.aload_n 0, 1) := by decide +kernel
theorem dX10_parse_62 : decode cX10_parse 62 = .ok (.invokevirtual 405, 3) := by decide +kernel
theorem dX10_parse_65 : decode cX10_parse 65 = .ok (.ifCond .ne 5, 3) := by decide +kernel
theorem dX10_parse_68 : decode cX10_parse 68 = .ok (.iconst (-1), 1) := by decide +kernel
theorem dX10_parse_69 : decode cX10_parse 69 = .ok (.ireturn, 1) := by decide +kernel
theorem dX10_parse_70 : decode cX10_parse 70 = .ok (.aload_n 0, 1) := by decide +kernel
theorem dX10_parse_71 : decode cX10_parse 71 = .ok (.invokevirtual 66, 3) := by decide +kernel
theorem dX10_parse_74 : decode cX10_parse 74 = .ok (.aload_n 0, 1) := by decide +kernel
theorem dX10_parse_75 : decode cX10_parse 75 = .ok (.getfield 75, 3) := by decide +kernel
theorem dX10_parse_78 : decode cX10_parse 78 = .ok (.ireturn, 1) := by decide +kernel
theorem hyX10_parse : yX10_parse.cls ≠ "java/lang/invoke/MethodHandle" ∧ yX10_parse.cls ≠ "java/lang/invoke/VarHandle" ∧ (parseMethodDescriptor yX10_parse.desc).map (fun d => d.parameters.length) = some 0 := ⟨by decide +kernel, by decide +kernel, by decide +kernel⟩
set_option maxRecDepth 100000 in
set_option maxHeartbeats 4000000 in
theorem wsX10_parse_23b (C : zC p s m args meth c cX10_parse RX10 1 D Ca B En) (hRm : zRm R 11 239 cells slots) (ev : zEv) (hZ : ∀ U : State, En U → zEnv ev B U) (x0 : Nat) (σ : zS)  (y : zS ⊕ zS) (hf : sX10_parse_23b x0 σ  = some y) (hk : (∀ z : zS, y = .inl z → zW p l e R s m args below meth c cells slots Q D Ca B 1 z N 23 [(0, .ref x0)] []) ∧ (∀ z : zS, y = .inr z → zW p l e R s m args below meth c cells slots Q D Ca B 1 z N 44 [(0, .ref x0)] [])) : zW p l e R s m args below meth c cells slots Q D Ca B 1 σ N 23 [(0, .ref x0)] [] := by
  unfold sX10_parse_23b at hf
  refine z_aload_n C dX10_parse_23 rfl 0 rfl ?_
  obtain ⟨c6, hc6, hf⟩ := zbind hf
  obtain ⟨kc6, hc6⟩ := zck_ok hc6
  refine z_callVi (As := []) (F0 := 11) (L0 := 239) C (mX10_fine l D Ca B En C.2.2.2.2.2.2.2.1 σ N x0  _ hc6) hRm kc6 rfl kw_1851 kw_14 kw_1848 kw_1850 kp_105 hyX10_fine (Nat.le_of_ble_eq_true rfl) (Nat.le_of_ble_eq_true rfl) rfl rfl (Nat.le_of_ble_eq_true rfl) dX10_parse_24 ?_
  refine z_if_eq C 44 dX10_parse_27 (by decide) (fun q10 => ?_) (fun q10 => ?_)
  · rw [if_pos q10] at hf
    cases hf
    refine z_sub [0] rfl ?_
    exact hk.2 _ rfl
  · rw [if_neg q10] at hf
    refine z_aload_n C dX10_parse_30 rfl 0 rfl ?_
    obtain ⟨v7, hv7, hf⟩ := zbind hf
    refine gf_RX10_372 C hv7 dX10_parse_31 ?_
    refine z_if_eq C 44 dX10_parse_34 (by decide) (fun q9 => ?_) (fun q9 => ?_)
    · rw [if_pos q9] at hf
      cases hf
      refine z_sub [0] rfl ?_
      exact hk.2 _ rfl
    · rw [if_neg q9] at hf
      refine z_aload_n C dX10_parse_37 rfl 0 rfl ?_
      obtain ⟨c8, hc8, hf⟩ := zbind hf
      obtain ⟨kc8, hc8⟩ := zck_ok hc8
      refine z_callVv (As := []) (F0 := 11) (L0 := 239) C (mX10_statement l D Ca B En C.2.2.2.2.2.2.2.1 ev hZ c6.1 N x0  _ hc8) hRm kc8 rfl kw_1855 kw_14 kw_1852 kw_1854 kp_106 hyX10_statement (Nat.le_of_ble_eq_true rfl) (Nat.le_of_ble_eq_true rfl) rfl rfl (Nat.le_of_ble_eq_true rfl) dX10_parse_38 ?_
      refine z_goto C 23 dX10_parse_41 (by decide) ?_
      cases hf
      refine z_sub [0] rfl ?_
      exact hk.1 _ rfl

theorem wsX10_parse_23 (C : zC p s m args meth c cX10_parse RX10 1 D Ca B En) (hRm : zRm R 11 239 cells slots) (ev : zEv) (hZ : ∀ U : State, En U → zEnv ev B U) (x0 : Nat) (n : Nat) (z : zS) (x : zS) (hf : zloop (sX10_parse_23 x0) n z = some x) (hk : (∀ o : zS, x = o → zW p l e R s m args below meth c cells slots Q D Ca B 1 o N 44 [(0, .ref x0)] [])) : zW p l e R s m args below meth c cells slots Q D Ca B 1 z N 23 [(0, .ref x0)] [] := by
  refine zloop_W (P := fun z : zS => zW p l e R s m args below meth c cells slots Q D Ca B 1 z N 23 [(0, .ref x0)] []) (K := fun x : zS => (∀ o : zS, x = o → zW p l e R s m args below meth c cells slots Q D Ca B 1 o N 44 [(0, .ref x0)] [])) ?_ n z x hf hk
  intro z y hy h1 h2
  refine wsX10_parse_23b C hRm ev hZ x0 z y hy ⟨fun z2 e => h1 z2 e, fun o e => (h2 _ e) o rfl⟩
set_option maxRecDepth 100000 in
set_option maxHeartbeats 4000000 in
theorem wjX10_parse_57 (C : zC p s m args meth c cX10_parse RX10 1 D Ca B En) (hRm : zRm R 11 239 cells slots) (ev : zEv) (hZ : ∀ U : State, En U → zEnv ev B U) (σ : zS) (x0 : Nat) (y0 : Int32) (y1 : Nat) (τ : zS) (r : Int32) (hf : jX10_parse_57 σ x0 y0 y1 = some (τ, r)) (hq : ∀ (pc : Nat) (lv : List (Nat × Value)), decode cX10_parse pc = .ok (.ireturn, 1) → zW p l e R s m args below meth c cells slots Q D Ca B 1 τ N pc lv [.int r]) : zW p l e R s m args below meth c cells slots Q D Ca B 1 σ N 57 [(0, .ref x0)] [.int y0, .ref y1] := by
  unfold jX10_parse_57 at hf
  refine z_iconst C (zi 5) dX10_parse_57 (by decide) ?_
  obtain ⟨c13, hc13, hf⟩ := zbind hf
  obtain ⟨kc13, hc13⟩ := zck_ok hc13
  refine z_callVv (As := [.int y0, .int ((zi 5))]) (F0 := 11) (L0 := 239) C (mX10_needs l D Ca B En C.2.2.2.2.2.2.2.1 σ N y1 y0 ((zi 5)) _ hc13) hRm kc13 rfl kw_1867 kw_14 kw_1864 kw_1866 kp_109 hyX10_needs (Nat.le_of_ble_eq_true rfl) (Nat.le_of_ble_eq_true rfl) rfl rfl (Nat.le_of_ble_eq_true rfl) dX10_parse_58 ?_
  refine z_aload_n C dX10_parse_61 rfl 0 rfl ?_
  obtain ⟨c14, hc14, hf⟩ := zbind hf
  obtain ⟨kc14, hc14⟩ := zck_ok hc14
  refine z_callVi (As := []) (F0 := 11) (L0 := 239) C (mX10_fine l D Ca B En C.2.2.2.2.2.2.2.1 c13 N x0  _ hc14) hRm kc14 rfl kw_1851 kw_14 kw_1848 kw_1850 kp_105 hyX10_fine (Nat.le_of_ble_eq_true rfl) (Nat.le_of_ble_eq_true rfl) rfl rfl (Nat.le_of_ble_eq_true rfl) dX10_parse_62 ?_
  refine z_if_ne C 70 dX10_parse_65 (by decide) (fun q17 => ?_) (fun q17 => ?_)
  · rw [if_neg q17] at hf
    refine z_aload_n C dX10_parse_70 rfl 0 rfl ?_
    obtain ⟨c15, hc15, hf⟩ := zbind hf
    obtain ⟨kc15, hc15⟩ := zck_ok hc15
    refine z_callVv (As := []) (F0 := 11) (L0 := 239) C (mX10_takesDraft l D Ca B En C.2.2.2.2.2.2.2.1 c14.1 N x0  _ hc15) hRm kc15 rfl kw_1260 kw_14 kw_1257 kw_1259 kp_36 hyX10_takesDraft (Nat.le_of_ble_eq_true rfl) (Nat.le_of_ble_eq_true rfl) rfl rfl (Nat.le_of_ble_eq_true rfl) dX10_parse_71 ?_
    refine z_aload_n C dX10_parse_74 rfl 0 rfl ?_
    obtain ⟨v16, hv16, hf⟩ := zbind hf
    refine gf_RX10_75 C hv16 dX10_parse_75 ?_
    cases hf
    exact hq _ _ dX10_parse_78
  · rw [if_pos q17] at hf
    refine z_iconst C (zi (-1)) dX10_parse_68 (by decide) ?_
    cases hf
    exact hq _ _ dX10_parse_69

set_option maxRecDepth 100000 in
set_option maxHeartbeats 4000000 in
theorem wjX10_parse_44 (C : zC p s m args meth c cX10_parse RX10 1 D Ca B En) (hRm : zRm R 11 239 cells slots) (ev : zEv) (hZ : ∀ U : State, En U → zEnv ev B U) (σ : zS) (x0 : Nat)  (τ : zS) (r : Int32) (hf : jX10_parse_44 σ x0  = some (τ, r)) (hq : ∀ (pc : Nat) (lv : List (Nat × Value)), decode cX10_parse pc = .ok (.ireturn, 1) → zW p l e R s m args below meth c cells slots Q D Ca B 1 τ N pc lv [.int r]) : zW p l e R s m args below meth c cells slots Q D Ca B 1 σ N 44 [(0, .ref x0)] [] := by
  unfold jX10_parse_44 at hf
  refine z_aload_n C dX10_parse_44 rfl 0 rfl ?_
  refine z_aload_n C dX10_parse_45 rfl 0 rfl ?_
  obtain ⟨v12, hv12, hf⟩ := zbind hf
  refine gf_RX10_63 C hv12 dX10_parse_46 ?_
  refine z_if_le C 56 dX10_parse_49 (by decide) (fun q18 => ?_) (fun q18 => ?_)
  · rw [if_pos q18] at hf
    refine z_iconst C (zi 0) dX10_parse_56 (by decide) ?_
    refine z_sub [0] rfl ?_
    exact wjX10_parse_57 C hRm ev hZ _ _ _ _ _ _ hf hq
  · rw [if_neg q18] at hf
    refine z_iconst C (zi 1) dX10_parse_52 (by decide) ?_
    refine z_goto C 57 dX10_parse_53 (by decide) ?_
    refine z_sub [0] rfl ?_
    exact wjX10_parse_57 C hRm ev hZ _ _ _ _ _ _ hf hq

set_option maxRecDepth 100000 in
set_option maxHeartbeats 4000000 in
theorem wfX10_parse (C : zC p s m args meth c cX10_parse RX10 1 D Ca B En) (hRm : zRm R 11 239 cells slots) (ev : zEv) (hZ : ∀ U : State, En U → zEnv ev B U) (σ : zS) (x0 : Nat) (τ : zS) (r : Int32) (hf : fX10_parse σ x0 = some (τ, r)) (hq : ∀ (pc : Nat) (lv : List (Nat × Value)), decode cX10_parse pc = .ok (.ireturn, 1) → zW p l e R s m args below meth c cells slots Q D Ca B 1 τ N pc lv [.int r]) : zW p l e R s m args below meth c cells slots Q D Ca B 1 σ N 0 [(0, .ref x0)] [] := by
  unfold fX10_parse at hf
  refine z_aload_n C dX10_parse_0 rfl 0 rfl ?_
  refine z_iconst C (zi 0) dX10_parse_1 (by decide) ?_
  obtain ⟨σ1, hσ1, hf⟩ := zbind hf
  refine gp_RX10_92 C hσ1 dX10_parse_2 ?_
  refine z_aload_n C dX10_parse_5 rfl 0 rfl ?_
  refine z_iconst C (zi 0) dX10_parse_6 (by decide) ?_
  obtain ⟨σ2, hσ2, hf⟩ := zbind hf
  refine gp_RX10_402 C hσ2 dX10_parse_7 ?_
  refine z_aload_n C dX10_parse_10 rfl 0 rfl ?_
  refine z_iconst C (zi (-1)) dX10_parse_11 (by decide) ?_
  obtain ⟨σ3, hσ3, hf⟩ := zbind hf
  refine gp_RX10_44 C hσ3 dX10_parse_12 ?_
  refine z_aload_n C dX10_parse_15 rfl 0 rfl ?_
  obtain ⟨c4, hc4, hf⟩ := zbind hf
  obtain ⟨kc4, hc4⟩ := zck_ok hc4
  refine z_callVv (As := []) (F0 := 11) (L0 := 239) C (mX10_clears l D Ca B En C.2.2.2.2.2.2.2.1 σ3 N x0  _ hc4) hRm kc4 rfl kw_1256 kw_14 kw_1253 kw_1255 kp_35 hyX10_clears (Nat.le_of_ble_eq_true rfl) (Nat.le_of_ble_eq_true rfl) rfl rfl (Nat.le_of_ble_eq_true rfl) dX10_parse_16 ?_
  refine z_aload_n C dX10_parse_19 rfl 0 rfl ?_
  obtain ⟨c5, hc5, hf⟩ := zbind hf
  obtain ⟨kc5, hc5⟩ := zck_ok hc5
  refine z_callVv (As := []) (F0 := 11) (L0 := 239) C (mX10_startsReading l D Ca B En C.2.2.2.2.2.2.2.1 ev hZ c4 N x0  _ hc5) hRm kc5 rfl kw_1828 kw_14 kw_1825 kw_1827 kp_101 hyX10_startsReading (Nat.le_of_ble_eq_true rfl) (Nat.le_of_ble_eq_true rfl) rfl rfl (Nat.le_of_ble_eq_true rfl) dX10_parse_20 ?_
  obtain ⟨o11, ho11, hf⟩ := zbind hf
  refine z_sub [0] rfl ?_
  refine wsX10_parse_23 C hRm ev hZ _ zfuel c5 o11 ho11 ?_
  intro z9 e9
  subst e9
  refine z_sub [0] rfl ?_
  exact wjX10_parse_44 C hRm ev hZ _ _  _ _ hf hq

theorem mX10_parse (l : Launch) (D : va_G) (Ca : Nat → ClassId) (B : Nat) (En : State → Prop) (hE : zEk B En) (ev : zEv) (hZ : ∀ U : State, En U → zEnv ev B U) (σ : zS) (N : Nat) (x0 : Nat) (X : zS × Int32) (hf : fX10_parse σ x0 = some X) : zMi l D Ca B En yX10_parse cX10_parse 1 (Option.some Jvm.ClassFile.FieldType.int) 11 239 [.ref x0] σ N X.1 X.2 :=
  zMet_i (own := RX10) hE (by decide +kernel) rfl (Nat.le_of_ble_eq_true rfl) (fun p e s m args below meth c C hr hRm => wfX10_parse C hRm ev hZ σ x0 X.1 X.2 hf (fun pc lv hd => zfin_i C hr hd))
theorem dX10_errorCode_0 : decode cX10_errorCode 0 = .ok (.aload_n 0, 1) := by decide +kernel
theorem dX10_errorCode_1 : decode cX10_errorCode 1 = .ok (.iconst 0, 1) := by decide +kernel
theorem dX10_errorCode_2 : decode cX10_errorCode 2 = .ok (.putfield 92, 3) := by decide +kernel
theorem dX10_errorCode_5 : decode cX10_errorCode 5 = .ok (.aload_n 0, 1) := by decide +kernel
theorem dX10_errorCode_6 : decode cX10_errorCode 6 = .ok (.getfield 402, 3) := by decide +kernel
theorem dX10_errorCode_9 : decode cX10_errorCode 9 = .ok (.ireturn, 1) := by decide +kernel
theorem hyX10_errorCode : yX10_errorCode.cls ≠ "java/lang/invoke/MethodHandle" ∧ yX10_errorCode.cls ≠ "java/lang/invoke/VarHandle" ∧ (parseMethodDescriptor yX10_errorCode.desc).map (fun d => d.parameters.length) = some 0 := ⟨by decide +kernel, by decide +kernel, by decide +kernel⟩
set_option maxRecDepth 100000 in
set_option maxHeartbeats 4000000 in
theorem wfX10_errorCode (C : zC p s m args meth c cX10_errorCode RX10 1 D Ca B En) (hRm : zRm R 0 0 cells slots) (σ : zS) (x0 : Nat) (τ : zS) (r : Int32) (hf : fX10_errorCode σ x0 = some (τ, r)) (hq : ∀ (pc : Nat) (lv : List (Nat × Value)), decode cX10_errorCode pc = .ok (.ireturn, 1) → zW p l e R s m args below meth c cells slots Q D Ca B 1 τ N pc lv [.int r]) : zW p l e R s m args below meth c cells slots Q D Ca B 1 σ N 0 [(0, .ref x0)] [] := by
  unfold fX10_errorCode at hf
  refine z_aload_n C dX10_errorCode_0 rfl 0 rfl ?_
  refine z_iconst C (zi 0) dX10_errorCode_1 (by decide) ?_
  obtain ⟨σ1, hσ1, hf⟩ := zbind hf
  refine gp_RX10_92 C hσ1 dX10_errorCode_2 ?_
  refine z_aload_n C dX10_errorCode_5 rfl 0 rfl ?_
  obtain ⟨v2, hv2, hf⟩ := zbind hf
  refine gf_RX10_402 C hv2 dX10_errorCode_6 ?_
  cases hf
  exact hq _ _ dX10_errorCode_9

theorem mX10_errorCode (l : Launch) (D : va_G) (Ca : Nat → ClassId) (B : Nat) (En : State → Prop) (hE : zEk B En) (σ : zS) (N : Nat) (x0 : Nat) (X : zS × Int32) (hf : fX10_errorCode σ x0 = some X) : zMi l D Ca B En yX10_errorCode cX10_errorCode 1 (Option.some Jvm.ClassFile.FieldType.int) 0 0 [.ref x0] σ N X.1 X.2 :=
  zMet_i (own := RX10) hE (by decide +kernel) rfl (Nat.le_of_ble_eq_true rfl) (fun p e s m args below meth c C hr hRm => wfX10_errorCode C hRm σ x0 X.1 X.2 hf (fun pc lv hd => zfin_i C hr hd))
theorem dX10_errorOffset_0 : decode cX10_errorOffset 0 = .ok (.aload_n 0, 1) := by decide +kernel
theorem dX10_errorOffset_1 : decode cX10_errorOffset 1 = .ok (.iconst 0, 1) := by decide +kernel
theorem dX10_errorOffset_2 : decode cX10_errorOffset 2 = .ok (.putfield 92, 3) := by decide +kernel
theorem dX10_errorOffset_5 : decode cX10_errorOffset 5 = .ok (.aload_n 0, 1) := by decide +kernel
theorem dX10_errorOffset_6 : decode cX10_errorOffset 6 = .ok (.getfield 44, 3) := by decide +kernel
theorem dX10_errorOffset_9 : decode cX10_errorOffset 9 = .ok (.ireturn, 1) := by decide +kernel
theorem hyX10_errorOffset : yX10_errorOffset.cls ≠ "java/lang/invoke/MethodHandle" ∧ yX10_errorOffset.cls ≠ "java/lang/invoke/VarHandle" ∧ (parseMethodDescriptor yX10_errorOffset.desc).map (fun d => d.parameters.length) = some 0 := ⟨by decide +kernel, by decide +kernel, by decide +kernel⟩
set_option maxRecDepth 100000 in
set_option maxHeartbeats 4000000 in
theorem wfX10_errorOffset (C : zC p s m args meth c cX10_errorOffset RX10 1 D Ca B En) (hRm : zRm R 0 0 cells slots) (σ : zS) (x0 : Nat) (τ : zS) (r : Int32) (hf : fX10_errorOffset σ x0 = some (τ, r)) (hq : ∀ (pc : Nat) (lv : List (Nat × Value)), decode cX10_errorOffset pc = .ok (.ireturn, 1) → zW p l e R s m args below meth c cells slots Q D Ca B 1 τ N pc lv [.int r]) : zW p l e R s m args below meth c cells slots Q D Ca B 1 σ N 0 [(0, .ref x0)] [] := by
  unfold fX10_errorOffset at hf
  refine z_aload_n C dX10_errorOffset_0 rfl 0 rfl ?_
  refine z_iconst C (zi 0) dX10_errorOffset_1 (by decide) ?_
  obtain ⟨σ1, hσ1, hf⟩ := zbind hf
  refine gp_RX10_92 C hσ1 dX10_errorOffset_2 ?_
  refine z_aload_n C dX10_errorOffset_5 rfl 0 rfl ?_
  obtain ⟨v2, hv2, hf⟩ := zbind hf
  refine gf_RX10_44 C hv2 dX10_errorOffset_6 ?_
  cases hf
  exact hq _ _ dX10_errorOffset_9

theorem mX10_errorOffset (l : Launch) (D : va_G) (Ca : Nat → ClassId) (B : Nat) (En : State → Prop) (hE : zEk B En) (σ : zS) (N : Nat) (x0 : Nat) (X : zS × Int32) (hf : fX10_errorOffset σ x0 = some X) : zMi l D Ca B En yX10_errorOffset cX10_errorOffset 1 (Option.some Jvm.ClassFile.FieldType.int) 0 0 [.ref x0] σ N X.1 X.2 :=
  zMet_i (own := RX10) hE (by decide +kernel) rfl (Nat.le_of_ble_eq_true rfl) (fun p e s m args below meth c C hr hRm => wfX10_errorOffset C hRm σ x0 X.1 X.2 hf (fun pc lv hd => zfin_i C hr hd))
theorem dX10_find_0 : decode cX10_find 0 = .ok (.aload_n 0, 1) := by decide +kernel
theorem dX10_find_1 : decode cX10_find 1 = .ok (.iconst 0, 1) := by decide +kernel
theorem dX10_find_2 : decode cX10_find 2 = .ok (.putfield 92, 3) := by decide +kernel
theorem dX10_find_5 : decode cX10_find 5 = .ok (.aload_n 0, 1) := by decide +kernel
theorem dX10_find_6 : decode cX10_find 6 = .ok (.getfield 357, 3) := by decide +kernel
theorem dX10_find_9 : decode cX10_find 9 = .ok (.istore_n 1, 1) := by decide +kernel
theorem dX10_find_10 : decode cX10_find 10 = .ok (.aload_n 0, 1) := by decide +kernel
theorem dX10_find_11 : decode cX10_find 11 = .ok (.invokevirtual 449, 3) := by decide +kernel
theorem dX10_find_14 : decode cX10_find 14 = .ok (.aload_n 0, 1) := by decide +kernel
theorem dX10_find_15 : decode cX10_find 15 = .ok (.getfield 372, 3) := by decide +kernel
theorem dX10_find_18 : decode cX10_find 18 = .ok (.iconst 1, 1) := by decide +kernel
theorem dX10_find_19 : decode cX10_find 19 = .ok (.if_icmp .ne 24, 3) := by decide +kernel
theorem dX10_find_22 : decode cX10_find 22 = .ok (.aload_n 0, 1) := by decide +kernel
theorem dX10_find_23 : decode cX10_find 23 = .ok (.getfield 369, 3) := by decide +kernel
theorem dX10_find_26 : decode cX10_find 26 = .ok (.ifCond .ne 17, 3) := by decide +kernel
theorem dX10_find_29 : decode cX10_find 29 = .ok (.aload_n 0, 1) := by decide +kernel
theorem dX10_find_30 : decode cX10_find 30 = .ok (.getfield 363, 3) := by decide +kernel
theorem dX10_find_33 : decode cX10_find 33 = .ok (.iload_n 1, 1) := by decide +kernel
theorem dX10_find_34 : decode cX10_find 34 = .ok (.if_icmp .ne 9, 3) := by decide +kernel
theorem dX10_find_37 : decode cX10_find 37 = .ok (.iload_n 1, 1) := by decide +kernel
theorem dX10_find_38 : decode cX10_find 38 = .ok (.bipush 8, 2) := by decide +kernel
theorem dX10_find_40 : decode cX10_find 40 = .ok (.if_icmp .le 5, 3) := by decide +kernel
theorem dX10_find_43 : decode cX10_find 43 = .ok (.iconst (-1), 1) := by decide +kernel
theorem dX10_find_44 : decode cX10_find 44 = .ok (.ireturn, 1) := by decide +kernel
theorem dX10_find_45 : decode cX10_find 45 = .ok (.aload_n 0, 1) := by decide +kernel
theorem dX10_find_46 : decode cX10_find 46 = .ok (.invokevirtual 428, 3) := by decide +kernel
theorem dX10_find_49 : decode cX10_find 49 = .ok (.aload_n 0, 1) := by decide +kernel
theorem dX10_find_50 : decode cX10_find 50 = .ok (.getfield 16, 3) := by decide +kernel
theorem dX10_find_53 : decode cX10_find 53 = .ok (.aload_n 0, 1) := by decide +kernel
theorem dX10_find_54 : decode cX10_find 54 = .ok (.getfield 75, 3) := by decide +kernel
theorem dX10_find_57 : decode cX10_find 57 = .ok (.invokestatic 432, 3) := by decide +kernel
theorem dX10_find_60 : decode cX10_find 60 = .ok (.ireturn, 1) := by decide +kernel
theorem hyX10_find : yX10_find.cls ≠ "java/lang/invoke/MethodHandle" ∧ yX10_find.cls ≠ "java/lang/invoke/VarHandle" ∧ (parseMethodDescriptor yX10_find.desc).map (fun d => d.parameters.length) = some 0 := ⟨by decide +kernel, by decide +kernel, by decide +kernel⟩
set_option maxRecDepth 100000 in
set_option maxHeartbeats 4000000 in
theorem wfX10_find (C : zC p s m args meth c cX10_find RX10 2 D Ca B En) (hRm : zRm R 7 149 cells slots) (ev : zEv) (hZ : ∀ U : State, En U → zEnv ev B U) (σ : zS) (x0 : Nat) (τ : zS) (r : Int32) (hf : fX10_find σ x0 = some (τ, r)) (hq : ∀ (pc : Nat) (lv : List (Nat × Value)), decode cX10_find pc = .ok (.ireturn, 1) → zW p l e R s m args below meth c cells slots Q D Ca B 2 τ N pc lv [.int r]) : zW p l e R s m args below meth c cells slots Q D Ca B 2 σ N 0 [(0, .ref x0)] [] := by
  unfold fX10_find at hf
  refine z_aload_n C dX10_find_0 rfl 0 rfl ?_
  refine z_iconst C (zi 0) dX10_find_1 (by decide) ?_
  obtain ⟨σ1, hσ1, hf⟩ := zbind hf
  refine gp_RX10_92 C hσ1 dX10_find_2 ?_
  refine z_aload_n C dX10_find_5 rfl 0 rfl ?_
  obtain ⟨v2, hv2, hf⟩ := zbind hf
  refine gf_RX10_357 C hv2 dX10_find_6 ?_
  refine z_istore_n (lv2 := [(1, .int v2), (0, .ref x0)]) C dX10_find_9 rfl (by decide) rfl ?_
  refine z_aload_n C dX10_find_10 rfl 1 rfl ?_
  obtain ⟨c3, hc3, hf⟩ := zbind hf
  obtain ⟨kc3, hc3⟩ := zck_ok hc3
  refine z_callVv (As := []) (F0 := 7) (L0 := 149) C (mX10_startsReading l D Ca B En C.2.2.2.2.2.2.2.1 ev hZ σ1 N x0  _ hc3) hRm kc3 rfl kw_1828 kw_14 kw_1825 kw_1827 kp_101 hyX10_startsReading (Nat.le_of_ble_eq_true rfl) (Nat.le_of_ble_eq_true rfl) rfl rfl (Nat.le_of_ble_eq_true rfl) dX10_find_11 ?_
  refine z_aload_n C dX10_find_14 rfl 1 rfl ?_
  obtain ⟨v4, hv4, hf⟩ := zbind hf
  refine gf_RX10_372 C hv4 dX10_find_15 ?_
  refine z_iconst C (zi 1) dX10_find_18 (by decide) ?_
  refine z_icmp_ne C 43 dX10_find_19 (by decide) (fun q14 => ?_) (fun q14 => ?_)
  · rw [if_neg q14] at hf
    refine z_iconst C (zi (-1)) dX10_find_43 (by decide) ?_
    cases hf
    exact hq _ _ dX10_find_44
  · rw [if_pos q14] at hf
    refine z_aload_n C dX10_find_22 rfl 1 rfl ?_
    obtain ⟨v5, hv5, hf⟩ := zbind hf
    refine gf_RX10_369 C hv5 dX10_find_23 ?_
    refine z_if_ne C 43 dX10_find_26 (by decide) (fun q13 => ?_) (fun q13 => ?_)
    · rw [if_neg q13] at hf
      refine z_iconst C (zi (-1)) dX10_find_43 (by decide) ?_
      cases hf
      exact hq _ _ dX10_find_44
    · rw [if_pos q13] at hf
      refine z_aload_n C dX10_find_29 rfl 1 rfl ?_
      obtain ⟨v6, hv6, hf⟩ := zbind hf
      refine gf_RX10_363 C hv6 dX10_find_30 ?_
      refine z_iload_n C dX10_find_33 rfl 0 rfl ?_
      refine z_icmp_ne C 43 dX10_find_34 (by decide) (fun q12 => ?_) (fun q12 => ?_)
      · rw [if_neg q12] at hf
        refine z_iconst C (zi (-1)) dX10_find_43 (by decide) ?_
        cases hf
        exact hq _ _ dX10_find_44
      · rw [if_pos q12] at hf
        refine z_iload_n C dX10_find_37 rfl 0 rfl ?_
        refine z_bipush C (zi 8) dX10_find_38 (by decide) ?_
        refine z_icmp_le C 45 dX10_find_40 (by decide) (fun q11 => ?_) (fun q11 => ?_)
        · rw [if_pos q11] at hf
          refine z_aload_n C dX10_find_45 rfl 1 rfl ?_
          obtain ⟨c7, hc7, hf⟩ := zbind hf
          obtain ⟨kc7, hc7⟩ := zck_ok hc7
          refine z_callVl (As := []) (F0 := 7) (L0 := 149) C (mX10_nameHere l D Ca B En C.2.2.2.2.2.2.2.1 c3 N x0  _ hc7) hRm kc7 rfl kw_1875 kw_14 kw_1872 kw_1874 kp_111 hyX10_nameHere (Nat.le_of_ble_eq_true rfl) (Nat.le_of_ble_eq_true rfl) rfl rfl (Nat.le_of_ble_eq_true rfl) dX10_find_46 ?_
          refine z_aload_n C dX10_find_49 rfl 1 rfl ?_
          obtain ⟨v8, hv8, hf⟩ := zbind hf
          refine gf_RX10_16 C hv8 dX10_find_50 ?_
          refine z_aload_n C dX10_find_53 rfl 1 rfl ?_
          obtain ⟨v9, hv9, hf⟩ := zbind hf
          refine gf_RX10_75 C hv9 dX10_find_54 ?_
          obtain ⟨c10, hc10, hf⟩ := zbind hf
          refine z_callSi (As := [.long c7.2, .ref v8, .int v9]) (F0 := 7) (L0 := 149) C (mX10_placeOf l D Ca B En C.2.2.2.2.2.2.2.1 c7.1 N c7.2 v8 v9 _ hc10) hRm kw_1880 kw_14 kw_1878 kw_1879 hyX10_placeOf (Nat.le_of_ble_eq_true rfl) (Nat.le_of_ble_eq_true rfl) rfl rfl (Nat.le_of_ble_eq_true rfl) dX10_find_57 ?_
          cases hf
          exact hq _ _ dX10_find_60
        · rw [if_neg q11] at hf
          refine z_iconst C (zi (-1)) dX10_find_43 (by decide) ?_
          cases hf
          exact hq _ _ dX10_find_44

theorem mX10_find (l : Launch) (D : va_G) (Ca : Nat → ClassId) (B : Nat) (En : State → Prop) (hE : zEk B En) (ev : zEv) (hZ : ∀ U : State, En U → zEnv ev B U) (σ : zS) (N : Nat) (x0 : Nat) (X : zS × Int32) (hf : fX10_find σ x0 = some X) : zMi l D Ca B En yX10_find cX10_find 2 (Option.some Jvm.ClassFile.FieldType.int) 7 149 [.ref x0] σ N X.1 X.2 :=
  zMet_i (own := RX10) hE (by decide +kernel) rfl (Nat.le_of_ble_eq_true rfl) (fun p e s m args below meth c C hr hRm => wfX10_find C hRm ev hZ σ x0 X.1 X.2 hf (fun pc lv hd => zfin_i C hr hd))
theorem dX10_says_0 : decode cX10_says 0 = .ok (.aload_n 0, 1) := by decide +kernel
theorem dX10_says_1 : decode cX10_says 1 = .ok (.getfield 57, 3) := by decide +kernel
theorem dX10_says_4 : decode cX10_says 4 = .ok (.aload_n 0, 1) := by decide +kernel
theorem dX10_says_5 : decode cX10_says 5 = .ok (.getfield 455, 3) := by decide +kernel
theorem dX10_says_8 : decode cX10_says 8 = .ok (.iload_n 1, 1) := by decide +kernel
theorem dX10_says_9 : decode cX10_says 9 = .ok (.i2b, 1) := by decide +kernel
theorem dX10_says_10 : decode cX10_says 10 = .ok (.bastore, 1) := by decide +kernel
theorem dX10_says_11 : decode cX10_says 11 = .ok (.aload_n 0, 1) := by decide +kernel
theorem dX10_says_12 : decode cX10_says 12 = .ok (.aload_n 0, 1) := by decide +kernel
theorem dX10_says_13 : decode cX10_says 13 = .ok (.getfield 455, 3) := by decide +kernel
theorem dX10_says_16 : decode cX10_says 16 = .ok (.iconst 1, 1) := by decide +kernel
theorem dX10_says_17 : decode cX10_says 17 = .ok (.iadd, 1) := by decide +kernel
theorem dX10_says_18 : decode cX10_says 18 = .ok (.putfield 455, 3) := by decide +kernel
theorem dX10_says_21 : decode cX10_says 21 = .ok (.return_, 1) := by decide +kernel
theorem hyX10_says : yX10_says.cls ≠ "java/lang/invoke/MethodHandle" ∧ yX10_says.cls ≠ "java/lang/invoke/VarHandle" ∧ (parseMethodDescriptor yX10_says.desc).map (fun d => d.parameters.length) = some 1 := ⟨by decide +kernel, by decide +kernel, by decide +kernel⟩
set_option maxRecDepth 100000 in
set_option maxHeartbeats 4000000 in
theorem wfX10_says (C : zC p s m args meth c cX10_says RX10 2 D Ca B En) (hRm : zRm R 0 0 cells slots) (σ : zS) (x0 : Nat) (x1 : Int32) (τ : zS) (hf : fX10_says σ x0 x1 = some τ) (hq : ∀ (pc : Nat) (lv : List (Nat × Value)), decode cX10_says pc = .ok (.return_, 1) → zW p l e R s m args below meth c cells slots Q D Ca B 2 τ N pc lv []) : zW p l e R s m args below meth c cells slots Q D Ca B 2 σ N 0 [(0, .ref x0), (1, .int x1)] [] := by
  unfold fX10_says at hf
  refine z_aload_n C dX10_says_0 rfl 0 rfl ?_
  obtain ⟨v1, hv1, hf⟩ := zbind hf
  refine gf_RX10_57 C hv1 dX10_says_1 ?_
  refine z_aload_n C dX10_says_4 rfl 0 rfl ?_
  obtain ⟨v2, hv2, hf⟩ := zbind hf
  refine gf_RX10_455 C hv2 dX10_says_5 ?_
  refine z_iload_n C dX10_says_8 rfl 1 rfl ?_
  refine z_i2b C dX10_says_9 ?_
  obtain ⟨σ3, hσ3, hf⟩ := zbind hf
  refine z_sB C hσ3 dX10_says_10 ?_
  refine z_aload_n C dX10_says_11 rfl 0 rfl ?_
  refine z_aload_n C dX10_says_12 rfl 0 rfl ?_
  obtain ⟨v4, hv4, hf⟩ := zbind hf
  refine gf_RX10_455 C hv4 dX10_says_13 ?_
  refine z_iconst C (zi 1) dX10_says_16 (by decide) ?_
  refine z_iadd C dX10_says_17 ?_
  obtain ⟨σ5, hσ5, hf⟩ := zbind hf
  refine gp_RX10_455 C hσ5 dX10_says_18 ?_
  cases hf
  exact hq _ _ dX10_says_21

theorem mX10_says (l : Launch) (D : va_G) (Ca : Nat → ClassId) (B : Nat) (En : State → Prop) (hE : zEk B En) (σ : zS) (N : Nat) (x0 : Nat) (x1 : Int32) (X : zS) (hf : fX10_says σ x0 x1 = some X) : zMv l D Ca B En yX10_says cX10_says 2 (Option.none : Option Jvm.ClassFile.FieldType) 0 0 [.ref x0, .int x1] σ N X () :=
  zMet_v (own := RX10) hE (by decide +kernel) rfl (Nat.le_of_ble_eq_true rfl) (fun p e s m args below meth c C hr hRm => wfX10_says C hRm σ x0 x1 X hf (fun pc lv hd => zfin_v (r := ()) C hr hd))
theorem dX10_outputByte_0 : decode cX10_outputByte 0 = .ok (.aload_n 0, 1) := by decide +kernel
theorem dX10_outputByte_1 : decode cX10_outputByte 1 = .ok (.iconst 0, 1) := by decide +kernel
theorem dX10_outputByte_2 : decode cX10_outputByte 2 = .ok (.putfield 92, 3) := by decide +kernel
theorem dX10_outputByte_5 : decode cX10_outputByte 5 = .ok (.iload_n 1, 1) := by decide +kernel
theorem dX10_outputByte_6 : decode cX10_outputByte 6 = .ok (.i2l, 1) := by decide +kernel
theorem dX10_outputByte_7 : decode cX10_outputByte 7 = .ok (.lconst 0, 1) := by decide +kernel
theorem dX10_outputByte_8 : decode cX10_outputByte 8 = .ok (.aload_n 0, 1) := by decide +kernel
theorem dX10_outputByte_9 : decode cX10_outputByte 9 = .ok (.getfield 455, 3) := by decide +kernel
theorem dX10_outputByte_12 : decode cX10_outputByte 12 = .ok (.i2l, 1) := by decide +kernel
theorem dX10_outputByte_13 : decode cX10_outputByte 13 = .ok (.lconst 1, 1) := by decide +kernel
theorem dX10_outputByte_14 : decode cX10_outputByte 14 = .ok (.lsub, 1) := by decide +kernel
theorem dX10_outputByte_15 : decode cX10_outputByte 15 = .ok (.invokestatic 247, 3) := by decide +kernel
theorem dX10_outputByte_18 : decode cX10_outputByte 18 = .ok (.ifCond .eq 12, 3) := by decide +kernel
theorem dX10_outputByte_21 : decode cX10_outputByte 21 = .ok (.aload_n 0, 1) := by decide +kernel
theorem dX10_outputByte_22 : decode cX10_outputByte 22 = .ok (.getfield 57, 3) := by decide +kernel
theorem dX10_outputByte_25 : decode cX10_outputByte 25 = .ok (.iload_n 1, 1) := by decide +kernel
theorem dX10_outputByte_26 : decode cX10_outputByte 26 = .ok (.baload, 1) := by decide +kernel
theorem dX10_outputByte_27 : decode cX10_outputByte 27 = .ok (.goto 4, 3) := by decide +kernel
theorem dX10_outputByte_30 : decode cX10_outputByte 30 = .ok (.iconst (-1), 1) := by decide +kernel
theorem dX10_outputByte_31 : decode cX10_outputByte 31 = .ok (.ireturn, 1) := by decide +kernel
theorem hyX10_outputByte : yX10_outputByte.cls ≠ "java/lang/invoke/MethodHandle" ∧ yX10_outputByte.cls ≠ "java/lang/invoke/VarHandle" ∧ (parseMethodDescriptor yX10_outputByte.desc).map (fun d => d.parameters.length) = some 1 := ⟨by decide +kernel, by decide +kernel, by decide +kernel⟩
set_option maxRecDepth 100000 in
set_option maxHeartbeats 4000000 in
theorem wfX10_outputByte (C : zC p s m args meth c cX10_outputByte RX10 2 D Ca B En) (hRm : zRm R 1 25 cells slots) (σ : zS) (x0 : Nat) (x1 : Int32) (τ : zS) (r : Int32) (hf : fX10_outputByte σ x0 x1 = some (τ, r)) (hq : ∀ (pc : Nat) (lv : List (Nat × Value)), decode cX10_outputByte pc = .ok (.ireturn, 1) → zW p l e R s m args below meth c cells slots Q D Ca B 2 τ N pc lv [.int r]) : zW p l e R s m args below meth c cells slots Q D Ca B 2 σ N 0 [(0, .ref x0), (1, .int x1)] [] := by
  unfold fX10_outputByte at hf
  refine z_aload_n C dX10_outputByte_0 rfl 0 rfl ?_
  refine z_iconst C (zi 0) dX10_outputByte_1 (by decide) ?_
  obtain ⟨σ1, hσ1, hf⟩ := zbind hf
  refine gp_RX10_92 C hσ1 dX10_outputByte_2 ?_
  refine z_iload_n C dX10_outputByte_5 rfl 1 rfl ?_
  refine z_i2l C dX10_outputByte_6 ?_
  refine z_lconst C 0 dX10_outputByte_7 (by decide) ?_
  refine z_aload_n C dX10_outputByte_8 rfl 0 rfl ?_
  obtain ⟨v2, hv2, hf⟩ := zbind hf
  refine gf_RX10_455 C hv2 dX10_outputByte_9 ?_
  refine z_i2l C dX10_outputByte_12 ?_
  refine z_lconst C 1 dX10_outputByte_13 (by decide) ?_
  refine z_lsub C dX10_outputByte_14 ?_
  obtain ⟨c3, hc3, hf⟩ := zbind hf
  refine z_callSi (As := [.long x1.toInt64, .long 0, .long (v2.toInt64 - 1)]) (F0 := 1) (L0 := 25) C (mX10_isIn l D Ca B En C.2.2.2.2.2.2.2.1 σ1 N x1.toInt64 0 (v2.toInt64 - 1) _ hc3) hRm kw_1392 kw_14 kw_1390 kw_1391 hyX10_isIn (Nat.le_of_ble_eq_true rfl) (Nat.le_of_ble_eq_true rfl) rfl rfl (Nat.le_of_ble_eq_true rfl) dX10_outputByte_15 ?_
  refine z_if_eq C 30 dX10_outputByte_18 (by decide) (fun q6 => ?_) (fun q6 => ?_)
  · rw [if_pos q6] at hf
    refine z_iconst C (zi (-1)) dX10_outputByte_30 (by decide) ?_
    cases hf
    exact hq _ _ dX10_outputByte_31
  · rw [if_neg q6] at hf
    refine z_aload_n C dX10_outputByte_21 rfl 0 rfl ?_
    obtain ⟨v4, hv4, hf⟩ := zbind hf
    refine gf_RX10_57 C hv4 dX10_outputByte_22 ?_
    refine z_iload_n C dX10_outputByte_25 rfl 1 rfl ?_
    obtain ⟨v5, hv5, hf⟩ := zbind hf
    refine z_aB C hv5 dX10_outputByte_26 ?_
    refine z_goto C 31 dX10_outputByte_27 (by decide) ?_
    cases hf
    exact hq _ _ dX10_outputByte_31

theorem mX10_outputByte (l : Launch) (D : va_G) (Ca : Nat → ClassId) (B : Nat) (En : State → Prop) (hE : zEk B En) (σ : zS) (N : Nat) (x0 : Nat) (x1 : Int32) (X : zS × Int32) (hf : fX10_outputByte σ x0 x1 = some X) : zMi l D Ca B En yX10_outputByte cX10_outputByte 2 (Option.some Jvm.ClassFile.FieldType.int) 1 25 [.ref x0, .int x1] σ N X.1 X.2 :=
  zMet_i (own := RX10) hE (by decide +kernel) rfl (Nat.le_of_ble_eq_true rfl) (fun p e s m args below meth c C hr hRm => wfX10_outputByte C hRm σ x0 x1 X.1 X.2 hf (fun pc lv hd => zfin_i C hr hd))
end ZM
