/-! Methods: X9_count, X9_find, X9_groupsOf, X9_atRisk, X9_fullest, X9_fail, X9_groupsMoved, X9_wouldTake, X9_wouldKeep, X9_quietIn, X9_outputByte, X9_saveState, X10_clears, X10_copies, X10_takesDraft, X10_thrown, X10_is, X10_may, X10_isIn, X10_starts, X10_done, X10_undo, X10_saveState, X10_restoreState, X10_tries, X10_laysBack, X10_adds, X10_at -/
section ZM
variable {p : Program} {l : Launch} {e : Env} {R : Room} {s : State} {m : MethodId} {args : Array Value} {below : List Frame} {meth : Method} {c : Code} {cells slots : Nat} {Q : State → Prop} {D : va_G} {Ca : Nat → ClassId} {B : Nat} {En : State → Prop} {N : Nat}
theorem dX9_count_0 : decode cX9_count 0 = .ok (.iload_n 1, 1) := by decide +kernel
theorem dX9_count_1 : decode cX9_count 1 = .ok (.tableswitch 167 0 11 #[63, 71, 79, 87, 95, 103, 111, 119, 127, 135, 143, 151], 63) := by decide +kernel
theorem dX9_count_64 : decode cX9_count 64 = .ok (.aload_n 0, 1) := by decide +kernel
theorem dX9_count_65 : decode cX9_count 65 = .ok (.getfield 35, 3) := by decide +kernel
theorem dX9_count_68 : decode cX9_count 68 = .ok (.getfield 89, 3) := by decide +kernel
theorem dX9_count_71 : decode cX9_count 71 = .ok (.ireturn, 1) := by decide +kernel
theorem dX9_count_72 : decode cX9_count 72 = .ok (.aload_n 0, 1) := by decide +kernel
theorem dX9_count_73 : decode cX9_count 73 = .ok (.getfield 50, 3) := by decide +kernel
theorem dX9_count_76 : decode cX9_count 76 = .ok (.getfield 98, 3) := by decide +kernel
theorem dX9_count_79 : decode cX9_count 79 = .ok (.ireturn, 1) := by decide +kernel
theorem dX9_count_80 : decode cX9_count 80 = .ok (.aload_n 0, 1) := by decide +kernel
theorem dX9_count_81 : decode cX9_count 81 = .ok (.getfield 35, 3) := by decide +kernel
theorem dX9_count_84 : decode cX9_count 84 = .ok (.getfield 101, 3) := by decide +kernel
theorem dX9_count_87 : decode cX9_count 87 = .ok (.ireturn, 1) := by decide +kernel
theorem dX9_count_88 : decode cX9_count 88 = .ok (.aload_n 0, 1) := by decide +kernel
theorem dX9_count_89 : decode cX9_count 89 = .ok (.getfield 50, 3) := by decide +kernel
theorem dX9_count_92 : decode cX9_count 92 = .ok (.getfield 104, 3) := by decide +kernel
theorem dX9_count_95 : decode cX9_count 95 = .ok (.ireturn, 1) := by decide +kernel
theorem dX9_count_96 : decode cX9_count 96 = .ok (.aload_n 0, 1) := by decide +kernel
theorem dX9_count_97 : decode cX9_count 97 = .ok (.getfield 50, 3) := by decide +kernel
theorem dX9_count_100 : decode cX9_count 100 = .ok (.getfield 107, 3) := by decide +kernel
theorem dX9_count_103 : decode cX9_count 103 = .ok (.ireturn, 1) := by decide +kernel
theorem dX9_count_104 : decode cX9_count 104 = .ok (.aload_n 0, 1) := by decide +kernel
theorem dX9_count_105 : decode cX9_count 105 = .ok (.getfield 50, 3) := by decide +kernel
theorem dX9_count_108 : decode cX9_count 108 = .ok (.getfield 110, 3) := by decide +kernel
theorem dX9_count_111 : decode cX9_count 111 = .ok (.ireturn, 1) := by decide +kernel
theorem dX9_count_112 : decode cX9_count 112 = .ok (.aload_n 0, 1) := by decide +kernel
theorem dX9_count_113 : decode cX9_count 113 = .ok (.getfield 50, 3) := by decide +kernel
theorem dX9_count_116 : decode cX9_count 116 = .ok (.getfield 113, 3) := by decide +kernel
theorem dX9_count_119 : decode cX9_count 119 = .ok (.ireturn, 1) := by decide +kernel
theorem dX9_count_120 : decode cX9_count 120 = .ok (.aload_n 0, 1) := by decide +kernel
theorem dX9_count_121 : decode cX9_count 121 = .ok (.getfield 50, 3) := by decide +kernel
theorem dX9_count_124 : decode cX9_count 124 = .ok (.getfield 116, 3) := by decide +kernel
theorem dX9_count_127 : decode cX9_count 127 = .ok (.ireturn, 1) := by decide +kernel
theorem dX9_count_128 : decode cX9_count 128 = .ok (.aload_n 0, 1) := by decide +kernel
theorem dX9_count_129 : decode cX9_count 129 = .ok (.getfield 50, 3) := by decide +kernel
theorem dX9_count_132 : decode cX9_count 132 = .ok (.getfield 119, 3) := by decide +kernel
theorem dX9_count_135 : decode cX9_count 135 = .ok (.ireturn, 1) := by decide +kernel
theorem dX9_count_136 : decode cX9_count 136 = .ok (.aload_n 0, 1) := by decide +kernel
theorem dX9_count_137 : decode cX9_count 137 = .ok (.getfield 50, 3) := by decide +kernel
theorem dX9_count_140 : decode cX9_count 140 = .ok (.getfield 122, 3) := by decide +kernel
theorem dX9_count_143 : decode cX9_count 143 = .ok (.ireturn, 1) := by decide +kernel
theorem dX9_count_144 : decode cX9_count 144 = .ok (.aload_n 0, 1) := by decide +kernel
theorem dX9_count_145 : decode cX9_count 145 = .ok (.getfield 63, 3) := by decide +kernel
theorem dX9_count_148 : decode cX9_count 148 = .ok (.getfield 125, 3) := by decide +kernel
theorem dX9_count_151 : decode cX9_count 151 = .ok (.ireturn, 1) := by decide +kernel
theorem dX9_count_152 : decode cX9_count 152 = .ok (.aload_n 0, 1) := by decide +kernel
theorem dX9_count_153 : decode cX9_count 153 = .ok (.getfield 50, 3) := by decide +kernel
theorem dX9_count_156 : decode cX9_count 156 = .ok (.getfield 128, 3) := by decide +kernel
theorem dX9_count_159 : decode cX9_count 159 = .ok (.ifCond .eq 7, 3) := by decide +kernel
theorem dX9_count_162 : decode cX9_count 162 = .ok (.iconst 1, 1) := by decide +kernel
theorem dX9_count_163 : decode cX9_count 163 = .ok (.goto 4, 3) := by decide +kernel
theorem dX9_count_166 : decode cX9_count 166 = .ok (.iconst 0, 1) := by decide +kernel
theorem dX9_count_167 : decode cX9_count 167 = .ok (.ireturn, 1) := by decide +kernel
theorem dX9_count_168 : decode cX9_count 168 = .ok (.iconst (-1), 1) := by decide +kernel
theorem dX9_count_169 : decode cX9_count 169 = .ok (.ireturn, 1) := by decide +kernel
theorem hyX9_count : yX9_count.cls ≠ "java/lang/invoke/MethodHandle" ∧ yX9_count.cls ≠ "java/lang/invoke/VarHandle" ∧ (parseMethodDescriptor yX9_count.desc).map (fun d => d.parameters.length) = some 1 := ⟨by decide +kernel, by decide +kernel, by decide +kernel⟩
set_option maxRecDepth 100000 in
set_option maxHeartbeats 4000000 in
theorem wfX9_count (C : zC p s m args meth c cX9_count RX9 2 D Ca B En) (hRm : zRm R 0 0 cells slots) (σ : zS) (x0 : Nat) (x1 : Int32) (τ : zS) (r : Int32) (hf : fX9_count σ x0 x1 = some (τ, r)) (hq : ∀ (pc : Nat) (lv : List (Nat × Value)), decode cX9_count pc = .ok (.ireturn, 1) → zW p l e R s m args below meth c cells slots Q D Ca B 2 τ N pc lv [.int r]) : zW p l e R s m args below meth c cells slots Q D Ca B 2 σ N 0 [(0, .ref x0), (1, .int x1)] [] := by
  unfold fX9_count at hf
  refine z_iload_n C dX9_count_0 rfl 1 rfl ?_
  by_cases q1 : x1 = (zi 0)
  · rw [if_pos q1] at hf
    refine z_tableIn C 64 dX9_count_1 (by rw [q1]; decide) (by rw [q1]; decide) (by rw [q1]; rfl) (by decide) ?_
    refine z_aload_n C dX9_count_64 rfl 0 rfl ?_
    obtain ⟨v2, hv2, hf⟩ := zbind hf
    refine gf_RX9_35 C hv2 dX9_count_65 ?_
    obtain ⟨v3, hv3, hf⟩ := zbind hf
    refine gf_RX9_89 C hv3 dX9_count_68 ?_
    cases hf
    exact hq _ _ dX9_count_71
  · rw [if_neg q1] at hf
    by_cases q4 : x1 = (zi 1)
    · rw [if_pos q4] at hf
      refine z_tableIn C 72 dX9_count_1 (by rw [q4]; decide) (by rw [q4]; decide) (by rw [q4]; rfl) (by decide) ?_
      refine z_aload_n C dX9_count_72 rfl 0 rfl ?_
      obtain ⟨v5, hv5, hf⟩ := zbind hf
      refine gf_RX9_50 C hv5 dX9_count_73 ?_
      obtain ⟨v6, hv6, hf⟩ := zbind hf
      refine gf_RX9_98 C hv6 dX9_count_76 ?_
      cases hf
      exact hq _ _ dX9_count_79
    · rw [if_neg q4] at hf
      by_cases q7 : x1 = (zi 2)
      · rw [if_pos q7] at hf
        refine z_tableIn C 80 dX9_count_1 (by rw [q7]; decide) (by rw [q7]; decide) (by rw [q7]; rfl) (by decide) ?_
        refine z_aload_n C dX9_count_80 rfl 0 rfl ?_
        obtain ⟨v8, hv8, hf⟩ := zbind hf
        refine gf_RX9_35 C hv8 dX9_count_81 ?_
        obtain ⟨v9, hv9, hf⟩ := zbind hf
        refine gf_RX9_101 C hv9 dX9_count_84 ?_
        cases hf
        exact hq _ _ dX9_count_87
      · rw [if_neg q7] at hf
        by_cases q10 : x1 = (zi 3)
        · rw [if_pos q10] at hf
          refine z_tableIn C 88 dX9_count_1 (by rw [q10]; decide) (by rw [q10]; decide) (by rw [q10]; rfl) (by decide) ?_
          refine z_aload_n C dX9_count_88 rfl 0 rfl ?_
          obtain ⟨v11, hv11, hf⟩ := zbind hf
          refine gf_RX9_50 C hv11 dX9_count_89 ?_
          obtain ⟨v12, hv12, hf⟩ := zbind hf
          refine gf_RX9_104 C hv12 dX9_count_92 ?_
          cases hf
          exact hq _ _ dX9_count_95
        · rw [if_neg q10] at hf
          by_cases q13 : x1 = (zi 4)
          · rw [if_pos q13] at hf
            refine z_tableIn C 96 dX9_count_1 (by rw [q13]; decide) (by rw [q13]; decide) (by rw [q13]; rfl) (by decide) ?_
            refine z_aload_n C dX9_count_96 rfl 0 rfl ?_
            obtain ⟨v14, hv14, hf⟩ := zbind hf
            refine gf_RX9_50 C hv14 dX9_count_97 ?_
            obtain ⟨v15, hv15, hf⟩ := zbind hf
            refine gf_RX9_107 C hv15 dX9_count_100 ?_
            cases hf
            exact hq _ _ dX9_count_103
          · rw [if_neg q13] at hf
            by_cases q16 : x1 = (zi 5)
            · rw [if_pos q16] at hf
              refine z_tableIn C 104 dX9_count_1 (by rw [q16]; decide) (by rw [q16]; decide) (by rw [q16]; rfl) (by decide) ?_
              refine z_aload_n C dX9_count_104 rfl 0 rfl ?_
              obtain ⟨v17, hv17, hf⟩ := zbind hf
              refine gf_RX9_50 C hv17 dX9_count_105 ?_
              obtain ⟨v18, hv18, hf⟩ := zbind hf
              refine gf_RX9_110 C hv18 dX9_count_108 ?_
              cases hf
              exact hq _ _ dX9_count_111
            · rw [if_neg q16] at hf
              by_cases q19 : x1 = (zi 6)
              · rw [if_pos q19] at hf
                refine z_tableIn C 112 dX9_count_1 (by rw [q19]; decide) (by rw [q19]; decide) (by rw [q19]; rfl) (by decide) ?_
                refine z_aload_n C dX9_count_112 rfl 0 rfl ?_
                obtain ⟨v20, hv20, hf⟩ := zbind hf
                refine gf_RX9_50 C hv20 dX9_count_113 ?_
                obtain ⟨v21, hv21, hf⟩ := zbind hf
                refine gf_RX9_113 C hv21 dX9_count_116 ?_
                cases hf
                exact hq _ _ dX9_count_119
              · rw [if_neg q19] at hf
                by_cases q22 : x1 = (zi 7)
                · rw [if_pos q22] at hf
                  refine z_tableIn C 120 dX9_count_1 (by rw [q22]; decide) (by rw [q22]; decide) (by rw [q22]; rfl) (by decide) ?_
                  refine z_aload_n C dX9_count_120 rfl 0 rfl ?_
                  obtain ⟨v23, hv23, hf⟩ := zbind hf
                  refine gf_RX9_50 C hv23 dX9_count_121 ?_
                  obtain ⟨v24, hv24, hf⟩ := zbind hf
                  refine gf_RX9_116 C hv24 dX9_count_124 ?_
                  cases hf
                  exact hq _ _ dX9_count_127
                · rw [if_neg q22] at hf
                  by_cases q25 : x1 = (zi 8)
                  · rw [if_pos q25] at hf
                    refine z_tableIn C 128 dX9_count_1 (by rw [q25]; decide) (by rw [q25]; decide) (by rw [q25]; rfl) (by decide) ?_
                    refine z_aload_n C dX9_count_128 rfl 0 rfl ?_
                    obtain ⟨v26, hv26, hf⟩ := zbind hf
                    refine gf_RX9_50 C hv26 dX9_count_129 ?_
                    obtain ⟨v27, hv27, hf⟩ := zbind hf
                    refine gf_RX9_119 C hv27 dX9_count_132 ?_
                    cases hf
                    exact hq _ _ dX9_count_135
                  · rw [if_neg q25] at hf
                    by_cases q28 : x1 = (zi 9)
                    · rw [if_pos q28] at hf
                      refine z_tableIn C 136 dX9_count_1 (by rw [q28]; decide) (by rw [q28]; decide) (by rw [q28]; rfl) (by decide) ?_
                      refine z_aload_n C dX9_count_136 rfl 0 rfl ?_
                      obtain ⟨v29, hv29, hf⟩ := zbind hf
                      refine gf_RX9_50 C hv29 dX9_count_137 ?_
                      obtain ⟨v30, hv30, hf⟩ := zbind hf
                      refine gf_RX9_122 C hv30 dX9_count_140 ?_
                      cases hf
                      exact hq _ _ dX9_count_143
                    · rw [if_neg q28] at hf
                      by_cases q31 : x1 = (zi 10)
                      · rw [if_pos q31] at hf
                        refine z_tableIn C 144 dX9_count_1 (by rw [q31]; decide) (by rw [q31]; decide) (by rw [q31]; rfl) (by decide) ?_
                        refine z_aload_n C dX9_count_144 rfl 0 rfl ?_
                        obtain ⟨v32, hv32, hf⟩ := zbind hf
                        refine gf_RX9_63 C hv32 dX9_count_145 ?_
                        obtain ⟨v33, hv33, hf⟩ := zbind hf
                        refine gf_RX9_125 C hv33 dX9_count_148 ?_
                        cases hf
                        exact hq _ _ dX9_count_151
                      · rw [if_neg q31] at hf
                        by_cases q34 : x1 = (zi 11)
                        · rw [if_pos q34] at hf
                          refine z_tableIn C 152 dX9_count_1 (by rw [q34]; decide) (by rw [q34]; decide) (by rw [q34]; rfl) (by decide) ?_
                          refine z_aload_n C dX9_count_152 rfl 0 rfl ?_
                          obtain ⟨v35, hv35, hf⟩ := zbind hf
                          refine gf_RX9_50 C hv35 dX9_count_153 ?_
                          obtain ⟨v36, hv36, hf⟩ := zbind hf
                          refine gf_RX9_128 C hv36 dX9_count_156 ?_
                          refine z_if_eq C 166 dX9_count_159 (by decide) (fun q37 => ?_) (fun q37 => ?_)
                          · rw [if_pos q37] at hf
                            refine z_iconst C (zi 0) dX9_count_166 (by decide) ?_
                            cases hf
                            exact hq _ _ dX9_count_167
                          · rw [if_neg q37] at hf
                            refine z_iconst C (zi 1) dX9_count_162 (by decide) ?_
                            refine z_goto C 167 dX9_count_163 (by decide) ?_
                            cases hf
                            exact hq _ _ dX9_count_167
                        · rw [if_neg q34] at hf
                          have w9 : ∀ k : Nat, k < 12 → ¬ x1 = Int32.ofInt ((0 : Int) + k) := by
                            intro k hk
                            match k, hk with
                            | 0, _ => exact q1
                            | 1, _ => exact q4
                            | 2, _ => exact q7
                            | 3, _ => exact q10
                            | 4, _ => exact q13
                            | 5, _ => exact q16
                            | 6, _ => exact q19
                            | 7, _ => exact q22
                            | 8, _ => exact q25
                            | 9, _ => exact q28
                            | 10, _ => exact q31
                            | 11, _ => exact q34
                            | k + 12, hk => exact absurd hk (by omega)
                          refine z_tableOut C 168 dX9_count_1 (zsw 0 12 w9 (by decide)) (by decide) ?_
                          refine z_iconst C (zi (-1)) dX9_count_168 (by decide) ?_
                          cases hf
                          exact hq _ _ dX9_count_169

theorem mX9_count (l : Launch) (D : va_G) (Ca : Nat → ClassId) (B : Nat) (En : State → Prop) (hE : zEk B En) (σ : zS) (N : Nat) (x0 : Nat) (x1 : Int32) (X : zS × Int32) (hf : fX9_count σ x0 x1 = some X) : zMi l D Ca B En yX9_count cX9_count 2 (Option.some Jvm.ClassFile.FieldType.int) 0 0 [.ref x0, .int x1] σ N X.1 X.2 :=
  zMet_i (own := RX9) hE (by decide +kernel) rfl (Nat.le_of_ble_eq_true rfl) (fun p e s m args below meth c C hr hRm => wfX9_count C hRm σ x0 x1 X.1 X.2 hf (fun pc lv hd => zfin_i C hr hd))
theorem dX9_find_0 : decode cX9_find 0 = .ok (.aload_n 0, 1) := by decide +kernel
theorem dX9_find_1 : decode cX9_find 1 = .ok (.getfield 35, 3) := by decide +kernel
theorem dX9_find_4 : decode cX9_find 4 = .ok (.aload_n 0, 1) := by decide +kernel
theorem dX9_find_5 : decode cX9_find 5 = .ok (.getfield 12, 3) := by decide +kernel
theorem dX9_find_8 : decode cX9_find 8 = .ok (.getfield 131, 3) := by decide +kernel
theorem dX9_find_11 : decode cX9_find 11 = .ok (.iconst 0, 1) := by decide +kernel
theorem dX9_find_12 : decode cX9_find 12 = .ok (.aload_n 0, 1) := by decide +kernel
theorem dX9_find_13 : decode cX9_find 13 = .ok (.getfield 12, 3) := by decide +kernel
theorem dX9_find_16 : decode cX9_find 16 = .ok (.getfield 67, 3) := by decide +kernel
theorem dX9_find_19 : decode cX9_find 19 = .ok (.invokevirtual 135, 3) := by decide +kernel
theorem dX9_find_22 : decode cX9_find 22 = .ok (.istore_n 1, 1) := by decide +kernel
theorem dX9_find_23 : decode cX9_find 23 = .ok (.aload_n 0, 1) := by decide +kernel
theorem dX9_find_24 : decode cX9_find 24 = .ok (.getfield 12, 3) := by decide +kernel
theorem dX9_find_27 : decode cX9_find 27 = .ok (.iconst 0, 1) := by decide +kernel
theorem dX9_find_28 : decode cX9_find 28 = .ok (.putfield 67, 3) := by decide +kernel
theorem dX9_find_31 : decode cX9_find 31 = .ok (.iload_n 1, 1) := by decide +kernel
theorem dX9_find_32 : decode cX9_find 32 = .ok (.ireturn, 1) := by decide +kernel
theorem hyX9_find : yX9_find.cls ≠ "java/lang/invoke/MethodHandle" ∧ yX9_find.cls ≠ "java/lang/invoke/VarHandle" ∧ (parseMethodDescriptor yX9_find.desc).map (fun d => d.parameters.length) = some 0 := ⟨by decide +kernel, by decide +kernel, by decide +kernel⟩
set_option maxRecDepth 100000 in
set_option maxHeartbeats 4000000 in
theorem wfX9_find (C : zC p s m args meth c cX9_find RX9 2 D Ca B En) (hRm : zRm R 2 49 cells slots) (σ : zS) (x0 : Nat) (τ : zS) (r : Int32) (hf : fX9_find σ x0 = some (τ, r)) (hq : ∀ (pc : Nat) (lv : List (Nat × Value)), decode cX9_find pc = .ok (.ireturn, 1) → zW p l e R s m args below meth c cells slots Q D Ca B 2 τ N pc lv [.int r]) : zW p l e R s m args below meth c cells slots Q D Ca B 2 σ N 0 [(0, .ref x0)] [] := by
  unfold fX9_find at hf
  refine z_aload_n C dX9_find_0 rfl 0 rfl ?_
  obtain ⟨v1, hv1, hf⟩ := zbind hf
  refine gf_RX9_35 C hv1 dX9_find_1 ?_
  refine z_aload_n C dX9_find_4 rfl 0 rfl ?_
  obtain ⟨v2, hv2, hf⟩ := zbind hf
  refine gf_RX9_12 C hv2 dX9_find_5 ?_
  obtain ⟨v3, hv3, hf⟩ := zbind hf
  refine gf_RX9_131 C hv3 dX9_find_8 ?_
  refine z_iconst C (zi 0) dX9_find_11 (by decide) ?_
  refine z_aload_n C dX9_find_12 rfl 0 rfl ?_
  obtain ⟨v4, hv4, hf⟩ := zbind hf
  refine gf_RX9_12 C hv4 dX9_find_13 ?_
  obtain ⟨v5, hv5, hf⟩ := zbind hf
  refine gf_RX9_67 C hv5 dX9_find_16 ?_
  obtain ⟨c6, hc6, hf⟩ := zbind hf
  obtain ⟨kc6, hc6⟩ := zck_ok hc6
  refine z_callVi (As := [.ref v3, .int ((zi 0)), .int v5]) (F0 := 2) (L0 := 49) C (mX7_named l D Ca B En C.2.2.2.2.2.2.2.1 σ N v1 v3 ((zi 0)) v5 _ hc6) hRm kc6 rfl kw_596 kw_5 kw_651 kw_594 kw_595 hyX7_named (Nat.le_of_ble_eq_true rfl) (Nat.le_of_ble_eq_true rfl) rfl rfl (Nat.le_of_ble_eq_true rfl) dX9_find_19 ?_
  refine z_istore_n (lv2 := [(1, .int c6.2), (0, .ref x0)]) C dX9_find_22 rfl (by decide) rfl ?_
  refine z_aload_n C dX9_find_23 rfl 1 rfl ?_
  obtain ⟨v7, hv7, hf⟩ := zbind hf
  refine gf_RX9_12 C hv7 dX9_find_24 ?_
  refine z_iconst C (zi 0) dX9_find_27 (by decide) ?_
  obtain ⟨σ8, hσ8, hf⟩ := zbind hf
  refine gp_RX9_67 C hσ8 dX9_find_28 ?_
  refine z_iload_n C dX9_find_31 rfl 0 rfl ?_
  cases hf
  exact hq _ _ dX9_find_32

theorem mX9_find (l : Launch) (D : va_G) (Ca : Nat → ClassId) (B : Nat) (En : State → Prop) (hE : zEk B En) (σ : zS) (N : Nat) (x0 : Nat) (X : zS × Int32) (hf : fX9_find σ x0 = some X) : zMi l D Ca B En yX9_find cX9_find 2 (Option.some Jvm.ClassFile.FieldType.int) 2 49 [.ref x0] σ N X.1 X.2 :=
  zMet_i (own := RX9) hE (by decide +kernel) rfl (Nat.le_of_ble_eq_true rfl) (fun p e s m args below meth c C hr hRm => wfX9_find C hRm σ x0 X.1 X.2 hf (fun pc lv hd => zfin_i C hr hd))
theorem dX9_groupsOf_0 : decode cX9_groupsOf 0 = .ok (.iconst 0, 1) := by decide +kernel
theorem dX9_groupsOf_1 : decode cX9_groupsOf 1 = .ok (.istore_n 2, 1) := by decide +kernel
theorem dX9_groupsOf_2 : decode cX9_groupsOf 2 = .ok (.iconst 0, 1) := by decide +kernel
theorem dX9_groupsOf_3 : decode cX9_groupsOf 3 = .ok (.istore_n 3, 1) := by decide +kernel
theorem dX9_groupsOf_4 : decode cX9_groupsOf 4 = .ok (.iload_n 3, 1) := by decide +kernel
theorem dX9_groupsOf_5 : decode cX9_groupsOf 5 = .ok (.bipush 8, 2) := by decide +kernel
theorem dX9_groupsOf_7 : decode cX9_groupsOf 7 = .ok (.if_icmp .ge 21, 3) := by decide +kernel
theorem dX9_groupsOf_10 : decode cX9_groupsOf 10 = .ok (.iload_n 3, 1) := by decide +kernel
theorem dX9_groupsOf_11 : decode cX9_groupsOf 11 = .ok (.iload_n 1, 1) := by decide +kernel
theorem dX9_groupsOf_12 : decode cX9_groupsOf 12 = .ok (.invokestatic 172, 3) := by decide +kernel
theorem dX9_groupsOf_15 : decode cX9_groupsOf 15 = .ok (.iload_n 0, 1) := by decide +kernel
theorem dX9_groupsOf_16 : decode cX9_groupsOf 16 = .ok (.if_icmp .ne 6, 3) := by decide +kernel
theorem dX9_groupsOf_19 : decode cX9_groupsOf 19 = .ok (.iinc 2 1, 3) := by decide +kernel
theorem dX9_groupsOf_22 : decode cX9_groupsOf 22 = .ok (.iinc 3 1, 3) := by decide +kernel
theorem dX9_groupsOf_25 : decode cX9_groupsOf 25 = .ok (.goto (-21), 3) := by decide +kernel
theorem dX9_groupsOf_28 : decode cX9_groupsOf 28 = .ok (.iload_n 2, 1) := by decide +kernel
theorem dX9_groupsOf_29 : decode cX9_groupsOf 29 = .ok (.ireturn, 1) := by decide +kernel
theorem hyX9_groupsOf : yX9_groupsOf.cls ≠ "java/lang/invoke/MethodHandle" ∧ yX9_groupsOf.cls ≠ "java/lang/invoke/VarHandle" ∧ (parseMethodDescriptor yX9_groupsOf.desc).map (fun d => d.parameters.length) = some 2 := ⟨by decide +kernel, by decide +kernel, by decide +kernel⟩
set_option maxRecDepth 100000 in
set_option maxHeartbeats 4000000 in
theorem wjX9_groupsOf_22_L4 (C : zC p s m args meth c cX9_groupsOf RX9 4 D Ca B En) (hRm : zRm R 1 21 cells slots) (σ : zS) (x0 : Int32) (x1 : Int32) (x2 : Int32) (x3 : Int32)  (y : (zS × Int32 × Int32) ⊕ (zS × Int32)) (hf : jX9_groupsOf_22_L4 σ x0 x1 x2 x3  = some y) (hk : (∀ z : (zS × Int32 × Int32), y = .inl z → zW p l e R s m args below meth c cells slots Q D Ca B 4 z.1 N 4 [(0, .int x0), (1, .int x1), (2, .int z.2.1), (3, .int z.2.2)] []) ∧ (∀ z : (zS × Int32), y = .inr z → zW p l e R s m args below meth c cells slots Q D Ca B 4 z.1 N 28 [(2, .int z.2)] [])) : zW p l e R s m args below meth c cells slots Q D Ca B 4 σ N 22 [(0, .int x0), (1, .int x1), (2, .int x2), (3, .int x3)] [] := by
  unfold jX9_groupsOf_22_L4 at hf
  refine z_iinc (lv2 := [(3, .int (x3 + (zi 1))), (0, .int x0), (1, .int x1), (2, .int x2)]) C (x3 + (zi 1)) dX9_groupsOf_22 3 rfl rfl (by decide) rfl ?_
  refine z_goto C 4 dX9_groupsOf_25 (by decide) ?_
  cases hf
  refine z_sub [1, 2, 3, 0] rfl ?_
  exact hk.1 _ rfl

set_option maxRecDepth 100000 in
set_option maxHeartbeats 4000000 in
theorem wsX9_groupsOf_4b (C : zC p s m args meth c cX9_groupsOf RX9 4 D Ca B En) (hRm : zRm R 1 21 cells slots) (x0 : Int32) (x1 : Int32) (σ : zS) (u2 : Int32) (u3 : Int32) (y : (zS × Int32 × Int32) ⊕ (zS × Int32)) (hf : sX9_groupsOf_4b x0 x1 σ u2 u3 = some y) (hk : (∀ z : (zS × Int32 × Int32), y = .inl z → zW p l e R s m args below meth c cells slots Q D Ca B 4 z.1 N 4 [(0, .int x0), (1, .int x1), (2, .int z.2.1), (3, .int z.2.2)] []) ∧ (∀ z : (zS × Int32), y = .inr z → zW p l e R s m args below meth c cells slots Q D Ca B 4 z.1 N 28 [(2, .int z.2)] [])) : zW p l e R s m args below meth c cells slots Q D Ca B 4 σ N 4 [(0, .int x0), (1, .int x1), (2, .int u2), (3, .int u3)] [] := by
  unfold sX9_groupsOf_4b at hf
  refine z_iload_n C dX9_groupsOf_4 rfl 3 rfl ?_
  refine z_bipush C (zi 8) dX9_groupsOf_5 (by decide) ?_
  refine z_icmp_ge C 28 dX9_groupsOf_7 (by decide) (fun q3 => ?_) (fun q3 => ?_)
  · rw [if_pos q3] at hf
    cases hf
    refine z_sub [2] rfl ?_
    exact hk.2 _ rfl
  · rw [if_neg q3] at hf
    refine z_iload_n C dX9_groupsOf_10 rfl 3 rfl ?_
    refine z_iload_n C dX9_groupsOf_11 rfl 1 rfl ?_
    obtain ⟨c1, hc1, hf⟩ := zbind hf
    refine z_callSi (As := [.int u3, .int x1]) (F0 := 1) (L0 := 21) C (mX9_ownerOf l D Ca B En C.2.2.2.2.2.2.2.1 σ N u3 x1 _ hc1) hRm kw_758 kw_1 kw_974 kw_757 hyX9_ownerOf (Nat.le_of_ble_eq_true rfl) (Nat.le_of_ble_eq_true rfl) rfl rfl (Nat.le_of_ble_eq_true rfl) dX9_groupsOf_12 ?_
    refine z_iload_n C dX9_groupsOf_15 rfl 0 rfl ?_
    refine z_icmp_ne C 22 dX9_groupsOf_16 (by decide) (fun q2 => ?_) (fun q2 => ?_)
    · rw [if_neg q2] at hf
      refine z_sub [0, 1, 2, 3] rfl ?_
      exact wjX9_groupsOf_22_L4 C hRm _ _ _ _ _  _ hf hk
    · rw [if_pos q2] at hf
      refine z_iinc (lv2 := [(2, .int (u2 + (zi 1))), (0, .int x0), (1, .int x1), (3, .int u3)]) C (u2 + (zi 1)) dX9_groupsOf_19 2 rfl rfl (by decide) rfl ?_
      refine z_sub [1, 2, 0, 3] rfl ?_
      exact wjX9_groupsOf_22_L4 C hRm _ _ _ _ _  _ hf hk

theorem wsX9_groupsOf_4 (C : zC p s m args meth c cX9_groupsOf RX9 4 D Ca B En) (hRm : zRm R 1 21 cells slots) (x0 : Int32) (x1 : Int32) (n : Nat) (z : (zS × Int32 × Int32)) (x : (zS × Int32)) (hf : zloop (sX9_groupsOf_4 x0 x1) n z = some x) (hk : (∀ o : (zS × Int32), x = o → zW p l e R s m args below meth c cells slots Q D Ca B 4 o.1 N 28 [(2, .int o.2)] [])) : zW p l e R s m args below meth c cells slots Q D Ca B 4 z.1 N 4 [(0, .int x0), (1, .int x1), (2, .int z.2.1), (3, .int z.2.2)] [] := by
  refine zloop_W (P := fun z : (zS × Int32 × Int32) => zW p l e R s m args below meth c cells slots Q D Ca B 4 z.1 N 4 [(0, .int x0), (1, .int x1), (2, .int z.2.1), (3, .int z.2.2)] []) (K := fun x : (zS × Int32) => (∀ o : (zS × Int32), x = o → zW p l e R s m args below meth c cells slots Q D Ca B 4 o.1 N 28 [(2, .int o.2)] [])) ?_ n z x hf hk
  intro z y hy h1 h2
  refine wsX9_groupsOf_4b C hRm x0 x1 z.1 z.2.1 z.2.2 y hy ⟨fun z2 e => h1 z2 e, fun o e => (h2 _ e) o rfl⟩
set_option maxRecDepth 100000 in
set_option maxHeartbeats 4000000 in
theorem wfX9_groupsOf (C : zC p s m args meth c cX9_groupsOf RX9 4 D Ca B En) (hRm : zRm R 1 21 cells slots) (σ : zS) (x0 : Int32) (x1 : Int32) (τ : zS) (r : Int32) (hf : fX9_groupsOf σ x0 x1 = some (τ, r)) (hq : ∀ (pc : Nat) (lv : List (Nat × Value)), decode cX9_groupsOf pc = .ok (.ireturn, 1) → zW p l e R s m args below meth c cells slots Q D Ca B 4 τ N pc lv [.int r]) : zW p l e R s m args below meth c cells slots Q D Ca B 4 σ N 0 [(0, .int x0), (1, .int x1)] [] := by
  unfold fX9_groupsOf at hf
  refine z_iconst C (zi 0) dX9_groupsOf_0 (by decide) ?_
  refine z_istore_n (lv2 := [(2, .int ((zi 0))), (0, .int x0), (1, .int x1)]) C dX9_groupsOf_1 rfl (by decide) rfl ?_
  refine z_iconst C (zi 0) dX9_groupsOf_2 (by decide) ?_
  refine z_istore_n (lv2 := [(3, .int ((zi 0))), (2, .int ((zi 0))), (0, .int x0), (1, .int x1)]) C dX9_groupsOf_3 rfl (by decide) rfl ?_
  obtain ⟨o4, ho4, hf⟩ := zbind hf
  refine z_sub [2, 3, 1, 0] rfl ?_
  refine wsX9_groupsOf_4 C hRm _ _ zfuel (σ, (zi 0), (zi 0)) o4 ho4 ?_
  intro z9 e9
  subst e9
  refine z_iload_n C dX9_groupsOf_28 rfl 0 rfl ?_
  cases hf
  exact hq _ _ dX9_groupsOf_29

theorem mX9_groupsOf (l : Launch) (D : va_G) (Ca : Nat → ClassId) (B : Nat) (En : State → Prop) (hE : zEk B En) (σ : zS) (N : Nat) (x0 : Int32) (x1 : Int32) (X : zS × Int32) (hf : fX9_groupsOf σ x0 x1 = some X) : zMi l D Ca B En yX9_groupsOf cX9_groupsOf 4 (Option.some Jvm.ClassFile.FieldType.int) 1 21 [.int x0, .int x1] σ N X.1 X.2 :=
  zMet_i (own := RX9) hE (by decide +kernel) rfl (Nat.le_of_ble_eq_true rfl) (fun p e s m args below meth c C hr hRm => wfX9_groupsOf C hRm σ x0 x1 X.1 X.2 hf (fun pc lv hd => zfin_i C hr hd))
theorem dX9_atRisk_0 : decode cX9_atRisk 0 = .ok (.aload_n 0, 1) := by decide +kernel
theorem dX9_atRisk_1 : decode cX9_atRisk 1 = .ok (.getfield 50, 3) := by decide +kernel
theorem dX9_atRisk_4 : decode cX9_atRisk 4 = .ok (.invokevirtual 281, 3) := by decide +kernel
theorem dX9_atRisk_7 : decode cX9_atRisk 7 = .ok (.ireturn, 1) := by decide +kernel
theorem hyX9_atRisk : yX9_atRisk.cls ≠ "java/lang/invoke/MethodHandle" ∧ yX9_atRisk.cls ≠ "java/lang/invoke/VarHandle" ∧ (parseMethodDescriptor yX9_atRisk.desc).map (fun d => d.parameters.length) = some 0 := ⟨by decide +kernel, by decide +kernel, by decide +kernel⟩
set_option maxRecDepth 100000 in
set_option maxHeartbeats 4000000 in
theorem wfX9_atRisk (C : zC p s m args meth c cX9_atRisk RX9 1 D Ca B En) (hRm : zRm R 2 44 cells slots) (σ : zS) (x0 : Nat) (τ : zS) (r : Int32) (hf : fX9_atRisk σ x0 = some (τ, r)) (hq : ∀ (pc : Nat) (lv : List (Nat × Value)), decode cX9_atRisk pc = .ok (.ireturn, 1) → zW p l e R s m args below meth c cells slots Q D Ca B 1 τ N pc lv [.int r]) : zW p l e R s m args below meth c cells slots Q D Ca B 1 σ N 0 [(0, .ref x0)] [] := by
  unfold fX9_atRisk at hf
  refine z_aload_n C dX9_atRisk_0 rfl 0 rfl ?_
  obtain ⟨v1, hv1, hf⟩ := zbind hf
  refine gf_RX9_50 C hv1 dX9_atRisk_1 ?_
  obtain ⟨c2, hc2, hf⟩ := zbind hf
  obtain ⟨kc2, hc2⟩ := zck_ok hc2
  refine z_callVi (As := []) (F0 := 2) (L0 := 44) C (mX1_recordsAtRisk l D Ca B En C.2.2.2.2.2.2.2.1 σ N v1  _ hc2) hRm kc2 rfl kw_659 kw_8 kw_656 kw_657 kw_658 hyX1_recordsAtRisk (Nat.le_of_ble_eq_true rfl) (Nat.le_of_ble_eq_true rfl) rfl rfl (Nat.le_of_ble_eq_true rfl) dX9_atRisk_4 ?_
  cases hf
  exact hq _ _ dX9_atRisk_7

theorem mX9_atRisk (l : Launch) (D : va_G) (Ca : Nat → ClassId) (B : Nat) (En : State → Prop) (hE : zEk B En) (σ : zS) (N : Nat) (x0 : Nat) (X : zS × Int32) (hf : fX9_atRisk σ x0 = some X) : zMi l D Ca B En yX9_atRisk cX9_atRisk 1 (Option.some Jvm.ClassFile.FieldType.int) 2 44 [.ref x0] σ N X.1 X.2 :=
  zMet_i (own := RX9) hE (by decide +kernel) rfl (Nat.le_of_ble_eq_true rfl) (fun p e s m args below meth c C hr hRm => wfX9_atRisk C hRm σ x0 X.1 X.2 hf (fun pc lv hd => zfin_i C hr hd))
theorem dX9_fullest_0 : decode cX9_fullest 0 = .ok (.iconst (-1), 1) := by decide +kernel
theorem dX9_fullest_1 : decode cX9_fullest 1 = .ok (.istore_n 1, 1) := by decide +kernel
theorem dX9_fullest_2 : decode cX9_fullest 2 = .ok (.iconst 0, 1) := by decide +kernel
theorem dX9_fullest_3 : decode cX9_fullest 3 = .ok (.istore_n 2, 1) := by decide +kernel
theorem dX9_fullest_4 : decode cX9_fullest 4 = .ok (.iconst 0, 1) := by decide +kernel
theorem dX9_fullest_5 : decode cX9_fullest 5 = .ok (.istore_n 3, 1) := by decide +kernel
theorem dX9_fullest_6 : decode cX9_fullest 6 = .ok (.iload_n 3, 1) := by decide +kernel
theorem dX9_fullest_7 : decode cX9_fullest 7 = .ok (.aload_n 0, 1) := by decide +kernel
theorem dX9_fullest_8 : decode cX9_fullest 8 = .ok (.getfield 35, 3) := by decide +kernel
theorem dX9_fullest_11 : decode cX9_fullest 11 = .ok (.getfield 89, 3) := by decide +kernel
theorem dX9_fullest_14 : decode cX9_fullest 14 = .ok (.if_icmp .ge 65, 3) := by decide +kernel
theorem dX9_fullest_17 : decode cX9_fullest 17 = .ok (.iconst 0, 1) := by decide +kernel
theorem dX9_fullest_18 : decode cX9_fullest 18 = .ok (.istore 4, 2) := by decide +kernel
theorem dX9_fullest_20 : decode cX9_fullest 20 = .ok (.iload 4, 2) := by decide +kernel
theorem dX9_fullest_22 : decode cX9_fullest 22 = .ok (.aload_n 0, 1) := by decide +kernel
theorem dX9_fullest_23 : decode cX9_fullest 23 = .ok (.getfield 50, 3) := by decide +kernel
theorem dX9_fullest_26 : decode cX9_fullest 26 = .ok (.getfield 98, 3) := by decide +kernel
theorem dX9_fullest_29 : decode cX9_fullest 29 = .ok (.if_icmp .ge 44, 3) := by decide +kernel
theorem dX9_fullest_32 : decode cX9_fullest 32 = .ok (.aload_n 0, 1) := by decide +kernel
theorem dX9_fullest_33 : decode cX9_fullest 33 = .ok (.getfield 50, 3) := by decide +kernel
theorem dX9_fullest_36 : decode cX9_fullest 36 = .ok (.getfield 199, 3) := by decide +kernel
theorem dX9_fullest_39 : decode cX9_fullest 39 = .ok (.iload 4, 2) := by decide +kernel
theorem dX9_fullest_41 : decode cX9_fullest 41 = .ok (.iload_n 3, 1) := by decide +kernel
theorem dX9_fullest_42 : decode cX9_fullest 42 = .ok (.invokestatic 217, 3) := by decide +kernel
theorem dX9_fullest_45 : decode cX9_fullest 45 = .ok (.invokevirtual 203, 3) := by decide +kernel
theorem dX9_fullest_48 : decode cX9_fullest 48 = .ok (.istore 5, 2) := by decide +kernel
theorem dX9_fullest_50 : decode cX9_fullest 50 = .ok (.iload 5, 2) := by decide +kernel
theorem dX9_fullest_52 : decode cX9_fullest 52 = .ok (.iload_n 2, 1) := by decide +kernel
theorem dX9_fullest_53 : decode cX9_fullest 53 = .ok (.if_icmp .le 14, 3) := by decide +kernel
theorem dX9_fullest_56 : decode cX9_fullest 56 = .ok (.iload 5, 2) := by decide +kernel
theorem dX9_fullest_58 : decode cX9_fullest 58 = .ok (.istore_n 2, 1) := by decide +kernel
theorem dX9_fullest_59 : decode cX9_fullest 59 = .ok (.bipush 10, 2) := by decide +kernel
theorem dX9_fullest_61 : decode cX9_fullest 61 = .ok (.iload_n 3, 1) := by decide +kernel
theorem dX9_fullest_62 : decode cX9_fullest 62 = .ok (.imul, 1) := by decide +kernel
theorem dX9_fullest_63 : decode cX9_fullest 63 = .ok (.iload 4, 2) := by decide +kernel
theorem dX9_fullest_65 : decode cX9_fullest 65 = .ok (.iadd, 1) := by decide +kernel
theorem dX9_fullest_66 : decode cX9_fullest 66 = .ok (.istore_n 1, 1) := by decide +kernel
theorem dX9_fullest_67 : decode cX9_fullest 67 = .ok (.iinc 4 1, 3) := by decide +kernel
theorem dX9_fullest_70 : decode cX9_fullest 70 = .ok (.goto (-50), 3) := by decide +kernel
theorem dX9_fullest_73 : decode cX9_fullest 73 = .ok (.iinc 3 1, 3) := by decide +kernel
theorem dX9_fullest_76 : decode cX9_fullest 76 = .ok (.goto (-70), 3) := by decide +kernel
theorem dX9_fullest_79 : decode cX9_fullest 79 = .ok (.iload_n 1, 1) := by decide +kernel
theorem dX9_fullest_80 : decode cX9_fullest 80 = .ok (.ireturn, 1) := by decide +kernel
theorem hyX9_fullest : yX9_fullest.cls ≠ "java/lang/invoke/MethodHandle" ∧ yX9_fullest.cls ≠ "java/lang/invoke/VarHandle" ∧ (parseMethodDescriptor yX9_fullest.desc).map (fun d => d.parameters.length) = some 0 := ⟨by decide +kernel, by decide +kernel, by decide +kernel⟩
set_option maxRecDepth 100000 in
set_option maxHeartbeats 4000000 in
theorem wjX9_fullest_67_L20 (C : zC p s m args meth c cX9_fullest RX9 6 D Ca B En) (hRm : zRm R 2 41 cells slots) (σ : zS) (x0 : Nat) (x1 : Int32) (x2 : Int32) (x3 : Int32) (x4 : Int32)  (y : (zS × Int32 × Int32 × Int32) ⊕ (zS × Int32 × Int32)) (hf : jX9_fullest_67_L20 σ x0 x1 x2 x3 x4  = some y) (hk : (∀ z : (zS × Int32 × Int32 × Int32), y = .inl z → zW p l e R s m args below meth c cells slots Q D Ca B 6 z.1 N 20 [(0, .ref x0), (1, .int z.2.1), (2, .int z.2.2.1), (3, .int x3), (4, .int z.2.2.2)] []) ∧ (∀ z : (zS × Int32 × Int32), y = .inr z → zW p l e R s m args below meth c cells slots Q D Ca B 6 z.1 N 73 [(0, .ref x0), (1, .int z.2.1), (2, .int z.2.2), (3, .int x3)] [])) : zW p l e R s m args below meth c cells slots Q D Ca B 6 σ N 67 [(0, .ref x0), (1, .int x1), (2, .int x2), (3, .int x3), (4, .int x4)] [] := by
  unfold jX9_fullest_67_L20 at hf
  refine z_iinc (lv2 := [(4, .int (x4 + (zi 1))), (0, .ref x0), (1, .int x1), (2, .int x2), (3, .int x3)]) C (x4 + (zi 1)) dX9_fullest_67 4 rfl rfl (by decide) rfl ?_
  refine z_goto C 20 dX9_fullest_70 (by decide) ?_
  cases hf
  refine z_sub [1, 2, 3, 4, 0] rfl ?_
  exact hk.1 _ rfl

set_option maxRecDepth 100000 in
set_option maxHeartbeats 4000000 in
theorem wsX9_fullest_20b (C : zC p s m args meth c cX9_fullest RX9 6 D Ca B En) (hRm : zRm R 2 41 cells slots) (x0 : Nat) (x3 : Int32) (σ : zS) (u1 : Int32) (u2 : Int32) (u4 : Int32) (y : (zS × Int32 × Int32 × Int32) ⊕ (zS × Int32 × Int32)) (hf : sX9_fullest_20b x0 x3 σ u1 u2 u4 = some y) (hk : (∀ z : (zS × Int32 × Int32 × Int32), y = .inl z → zW p l e R s m args below meth c cells slots Q D Ca B 6 z.1 N 20 [(0, .ref x0), (1, .int z.2.1), (2, .int z.2.2.1), (3, .int x3), (4, .int z.2.2.2)] []) ∧ (∀ z : (zS × Int32 × Int32), y = .inr z → zW p l e R s m args below meth c cells slots Q D Ca B 6 z.1 N 73 [(0, .ref x0), (1, .int z.2.1), (2, .int z.2.2), (3, .int x3)] [])) : zW p l e R s m args below meth c cells slots Q D Ca B 6 σ N 20 [(0, .ref x0), (1, .int u1), (2, .int u2), (3, .int x3), (4, .int u4)] [] := by
  unfold sX9_fullest_20b at hf
  refine z_iload C dX9_fullest_20 4 rfl ?_
  refine z_aload_n C dX9_fullest_22 rfl 0 rfl ?_
  obtain ⟨v3, hv3, hf⟩ := zbind hf
  refine gf_RX9_50 C hv3 dX9_fullest_23 ?_
  obtain ⟨v4, hv4, hf⟩ := zbind hf
  refine gf_RX9_98 C hv4 dX9_fullest_26 ?_
  refine z_icmp_ge C 73 dX9_fullest_29 (by decide) (fun q10 => ?_) (fun q10 => ?_)
  · rw [if_pos q10] at hf
    cases hf
    refine z_sub [0, 1, 2, 3] rfl ?_
    exact hk.2 _ rfl
  · rw [if_neg q10] at hf
    refine z_aload_n C dX9_fullest_32 rfl 0 rfl ?_
    obtain ⟨v5, hv5, hf⟩ := zbind hf
    refine gf_RX9_50 C hv5 dX9_fullest_33 ?_
    obtain ⟨v6, hv6, hf⟩ := zbind hf
    refine gf_RX9_199 C hv6 dX9_fullest_36 ?_
    refine z_iload C dX9_fullest_39 4 rfl ?_
    refine z_iload_n C dX9_fullest_41 rfl 3 rfl ?_
    obtain ⟨c7, hc7, hf⟩ := zbind hf
    refine z_callSi (As := [.int u4, .int x3]) (F0 := 2) (L0 := 41) C (mX9_channel l D Ca B En C.2.2.2.2.2.2.2.1 σ N u4 x3 _ hc7) hRm kw_686 kw_1 kw_684 kw_685 hyX9_channel (Nat.le_of_ble_eq_true rfl) (Nat.le_of_ble_eq_true rfl) rfl rfl (Nat.le_of_ble_eq_true rfl) dX9_fullest_42 ?_
    obtain ⟨c8, hc8, hf⟩ := zbind hf
    obtain ⟨kc8, hc8⟩ := zck_ok hc8
    refine z_callVi (As := [.int c7.2]) (F0 := 2) (L0 := 41) C (mX3_sizeOf l D Ca B En C.2.2.2.2.2.2.2.1 c7.1 N v6 c7.2 _ hc8) hRm kc8 rfl kw_342 kw_9 kw_687 kw_340 kw_341 hyX3_sizeOf (Nat.le_of_ble_eq_true rfl) (Nat.le_of_ble_eq_true rfl) rfl rfl (Nat.le_of_ble_eq_true rfl) dX9_fullest_45 ?_
    refine z_istore (lv2 := [(5, .int c8.2), (0, .ref x0), (1, .int u1), (2, .int u2), (3, .int x3), (4, .int u4)]) C dX9_fullest_48 (by decide) rfl ?_
    refine z_iload C dX9_fullest_50 0 rfl ?_
    refine z_iload_n C dX9_fullest_52 rfl 3 rfl ?_
    refine z_icmp_le C 67 dX9_fullest_53 (by decide) (fun q9 => ?_) (fun q9 => ?_)
    · rw [if_pos q9] at hf
      refine z_sub [1, 2, 3, 4, 5] rfl ?_
      exact wjX9_fullest_67_L20 C hRm _ _ _ _ _ _  _ hf hk
    · rw [if_neg q9] at hf
      refine z_iload C dX9_fullest_56 0 rfl ?_
      refine z_istore_n (lv2 := [(2, .int c8.2), (5, .int c8.2), (0, .ref x0), (1, .int u1), (3, .int x3), (4, .int u4)]) C dX9_fullest_58 rfl (by decide) rfl ?_
      refine z_bipush C (zi 10) dX9_fullest_59 (by decide) ?_
      refine z_iload_n C dX9_fullest_61 rfl 4 rfl ?_
      refine z_imul C dX9_fullest_62 ?_
      refine z_iload C dX9_fullest_63 5 rfl ?_
      refine z_iadd C dX9_fullest_65 ?_
      refine z_istore_n (lv2 := [(1, .int ((((zi 10)) * x3) + u4)), (2, .int c8.2), (5, .int c8.2), (0, .ref x0), (3, .int x3), (4, .int u4)]) C dX9_fullest_66 rfl (by decide) rfl ?_
      refine z_sub [3, 0, 1, 4, 5] rfl ?_
      exact wjX9_fullest_67_L20 C hRm _ _ _ _ _ _  _ hf hk

theorem wsX9_fullest_20 (C : zC p s m args meth c cX9_fullest RX9 6 D Ca B En) (hRm : zRm R 2 41 cells slots) (x0 : Nat) (x3 : Int32) (n : Nat) (z : (zS × Int32 × Int32 × Int32)) (x : (zS × Int32 × Int32)) (hf : zloop (sX9_fullest_20 x0 x3) n z = some x) (hk : (∀ o : (zS × Int32 × Int32), x = o → zW p l e R s m args below meth c cells slots Q D Ca B 6 o.1 N 73 [(0, .ref x0), (1, .int o.2.1), (2, .int o.2.2), (3, .int x3)] [])) : zW p l e R s m args below meth c cells slots Q D Ca B 6 z.1 N 20 [(0, .ref x0), (1, .int z.2.1), (2, .int z.2.2.1), (3, .int x3), (4, .int z.2.2.2)] [] := by
  refine zloop_W (P := fun z : (zS × Int32 × Int32 × Int32) => zW p l e R s m args below meth c cells slots Q D Ca B 6 z.1 N 20 [(0, .ref x0), (1, .int z.2.1), (2, .int z.2.2.1), (3, .int x3), (4, .int z.2.2.2)] []) (K := fun x : (zS × Int32 × Int32) => (∀ o : (zS × Int32 × Int32), x = o → zW p l e R s m args below meth c cells slots Q D Ca B 6 o.1 N 73 [(0, .ref x0), (1, .int o.2.1), (2, .int o.2.2), (3, .int x3)] [])) ?_ n z x hf hk
  intro z y hy h1 h2
  refine wsX9_fullest_20b C hRm x0 x3 z.1 z.2.1 z.2.2.1 z.2.2.2 y hy ⟨fun z2 e => h1 z2 e, fun o e => (h2 _ e) o rfl⟩
set_option maxRecDepth 100000 in
set_option maxHeartbeats 4000000 in
theorem wsX9_fullest_6b (C : zC p s m args meth c cX9_fullest RX9 6 D Ca B En) (hRm : zRm R 2 41 cells slots) (x0 : Nat) (σ : zS) (u1 : Int32) (u2 : Int32) (u3 : Int32) (y : (zS × Int32 × Int32 × Int32) ⊕ (zS × Int32)) (hf : sX9_fullest_6b x0 σ u1 u2 u3 = some y) (hk : (∀ z : (zS × Int32 × Int32 × Int32), y = .inl z → zW p l e R s m args below meth c cells slots Q D Ca B 6 z.1 N 6 [(0, .ref x0), (1, .int z.2.1), (2, .int z.2.2.1), (3, .int z.2.2.2)] []) ∧ (∀ z : (zS × Int32), y = .inr z → zW p l e R s m args below meth c cells slots Q D Ca B 6 z.1 N 79 [(1, .int z.2)] [])) : zW p l e R s m args below meth c cells slots Q D Ca B 6 σ N 6 [(0, .ref x0), (1, .int u1), (2, .int u2), (3, .int u3)] [] := by
  unfold sX9_fullest_6b at hf
  refine z_iload_n C dX9_fullest_6 rfl 3 rfl ?_
  refine z_aload_n C dX9_fullest_7 rfl 0 rfl ?_
  obtain ⟨v1, hv1, hf⟩ := zbind hf
  refine gf_RX9_35 C hv1 dX9_fullest_8 ?_
  obtain ⟨v2, hv2, hf⟩ := zbind hf
  refine gf_RX9_89 C hv2 dX9_fullest_11 ?_
  refine z_icmp_ge C 79 dX9_fullest_14 (by decide) (fun q12 => ?_) (fun q12 => ?_)
  · rw [if_pos q12] at hf
    cases hf
    refine z_sub [1] rfl ?_
    exact hk.2 _ rfl
  · rw [if_neg q12] at hf
    refine z_iconst C (zi 0) dX9_fullest_17 (by decide) ?_
    refine z_istore (lv2 := [(4, .int ((zi 0))), (0, .ref x0), (1, .int u1), (2, .int u2), (3, .int u3)]) C dX9_fullest_18 (by decide) rfl ?_
    obtain ⟨o11, ho11, hf⟩ := zbind hf
    refine z_sub [1, 2, 3, 4, 0] rfl ?_
    refine wsX9_fullest_20 C hRm _ _ zfuel (σ, u1, u2, (zi 0)) o11 ho11 ?_
    intro z9 e9
    subst e9
    refine z_iinc (lv2 := [(3, .int (u3 + (zi 1))), (0, .ref x0), (1, .int o11.2.1), (2, .int o11.2.2)]) C (u3 + (zi 1)) dX9_fullest_73 3 rfl rfl (by decide) rfl ?_
    refine z_goto C 6 dX9_fullest_76 (by decide) ?_
    cases hf
    refine z_sub [1, 2, 3, 0] rfl ?_
    exact hk.1 _ rfl

theorem wsX9_fullest_6 (C : zC p s m args meth c cX9_fullest RX9 6 D Ca B En) (hRm : zRm R 2 41 cells slots) (x0 : Nat) (n : Nat) (z : (zS × Int32 × Int32 × Int32)) (x : (zS × Int32)) (hf : zloop (sX9_fullest_6 x0) n z = some x) (hk : (∀ o : (zS × Int32), x = o → zW p l e R s m args below meth c cells slots Q D Ca B 6 o.1 N 79 [(1, .int o.2)] [])) : zW p l e R s m args below meth c cells slots Q D Ca B 6 z.1 N 6 [(0, .ref x0), (1, .int z.2.1), (2, .int z.2.2.1), (3, .int z.2.2.2)] [] := by
  refine zloop_W (P := fun z : (zS × Int32 × Int32 × Int32) => zW p l e R s m args below meth c cells slots Q D Ca B 6 z.1 N 6 [(0, .ref x0), (1, .int z.2.1), (2, .int z.2.2.1), (3, .int z.2.2.2)] []) (K := fun x : (zS × Int32) => (∀ o : (zS × Int32), x = o → zW p l e R s m args below meth c cells slots Q D Ca B 6 o.1 N 79 [(1, .int o.2)] [])) ?_ n z x hf hk
  intro z y hy h1 h2
  refine wsX9_fullest_6b C hRm x0 z.1 z.2.1 z.2.2.1 z.2.2.2 y hy ⟨fun z2 e => h1 z2 e, fun o e => (h2 _ e) o rfl⟩
set_option maxRecDepth 100000 in
set_option maxHeartbeats 4000000 in
theorem wfX9_fullest (C : zC p s m args meth c cX9_fullest RX9 6 D Ca B En) (hRm : zRm R 2 41 cells slots) (σ : zS) (x0 : Nat) (τ : zS) (r : Int32) (hf : fX9_fullest σ x0 = some (τ, r)) (hq : ∀ (pc : Nat) (lv : List (Nat × Value)), decode cX9_fullest pc = .ok (.ireturn, 1) → zW p l e R s m args below meth c cells slots Q D Ca B 6 τ N pc lv [.int r]) : zW p l e R s m args below meth c cells slots Q D Ca B 6 σ N 0 [(0, .ref x0)] [] := by
  unfold fX9_fullest at hf
  refine z_iconst C (zi (-1)) dX9_fullest_0 (by decide) ?_
  refine z_istore_n (lv2 := [(1, .int ((zi (-1)))), (0, .ref x0)]) C dX9_fullest_1 rfl (by decide) rfl ?_
  refine z_iconst C (zi 0) dX9_fullest_2 (by decide) ?_
  refine z_istore_n (lv2 := [(2, .int ((zi 0))), (1, .int ((zi (-1)))), (0, .ref x0)]) C dX9_fullest_3 rfl (by decide) rfl ?_
  refine z_iconst C (zi 0) dX9_fullest_4 (by decide) ?_
  refine z_istore_n (lv2 := [(3, .int ((zi 0))), (2, .int ((zi 0))), (1, .int ((zi (-1)))), (0, .ref x0)]) C dX9_fullest_5 rfl (by decide) rfl ?_
  obtain ⟨o13, ho13, hf⟩ := zbind hf
  refine z_sub [3, 2, 1, 0] rfl ?_
  refine wsX9_fullest_6 C hRm _ zfuel (σ, (zi (-1)), (zi 0), (zi 0)) o13 ho13 ?_
  intro z9 e9
  subst e9
  refine z_iload_n C dX9_fullest_79 rfl 0 rfl ?_
  cases hf
  exact hq _ _ dX9_fullest_80

theorem mX9_fullest (l : Launch) (D : va_G) (Ca : Nat → ClassId) (B : Nat) (En : State → Prop) (hE : zEk B En) (σ : zS) (N : Nat) (x0 : Nat) (X : zS × Int32) (hf : fX9_fullest σ x0 = some X) : zMi l D Ca B En yX9_fullest cX9_fullest 6 (Option.some Jvm.ClassFile.FieldType.int) 2 41 [.ref x0] σ N X.1 X.2 :=
  zMet_i (own := RX9) hE (by decide +kernel) rfl (Nat.le_of_ble_eq_true rfl) (fun p e s m args below meth c C hr hRm => wfX9_fullest C hRm σ x0 X.1 X.2 hf (fun pc lv hd => zfin_i C hr hd))
theorem dX9_fail_0 : decode cX9_fail 0 = .ok (.aload_n 0, 1) := by decide +kernel
theorem dX9_fail_1 : decode cX9_fail 1 = .ok (.getfield 63, 3) := by decide +kernel
theorem dX9_fail_4 : decode cX9_fail 4 = .ok (.aload_n 0, 1) := by decide +kernel
theorem dX9_fail_5 : decode cX9_fail 5 = .ok (.getfield 50, 3) := by decide +kernel
theorem dX9_fail_8 : decode cX9_fail 8 = .ok (.invokevirtual 299, 3) := by decide +kernel
theorem dX9_fail_11 : decode cX9_fail 11 = .ok (.aload_n 0, 1) := by decide +kernel
theorem dX9_fail_12 : decode cX9_fail 12 = .ok (.getfield 50, 3) := by decide +kernel
theorem dX9_fail_15 : decode cX9_fail 15 = .ok (.invokevirtual 281, 3) := by decide +kernel
theorem dX9_fail_18 : decode cX9_fail 18 = .ok (.istore_n 1, 1) := by decide +kernel
theorem dX9_fail_19 : decode cX9_fail 19 = .ok (.aload_n 0, 1) := by decide +kernel
theorem dX9_fail_20 : decode cX9_fail 20 = .ok (.getfield 50, 3) := by decide +kernel
theorem dX9_fail_23 : decode cX9_fail 23 = .ok (.invokevirtual 313, 3) := by decide +kernel
theorem dX9_fail_26 : decode cX9_fail 26 = .ok (.iload_n 1, 1) := by decide +kernel
theorem dX9_fail_27 : decode cX9_fail 27 = .ok (.ireturn, 1) := by decide +kernel
theorem hyX9_fail : yX9_fail.cls ≠ "java/lang/invoke/MethodHandle" ∧ yX9_fail.cls ≠ "java/lang/invoke/VarHandle" ∧ (parseMethodDescriptor yX9_fail.desc).map (fun d => d.parameters.length) = some 0 := ⟨by decide +kernel, by decide +kernel, by decide +kernel⟩
set_option maxRecDepth 100000 in
set_option maxHeartbeats 4000000 in
theorem wfX9_fail (C : zC p s m args meth c cX9_fail RX9 2 D Ca B En) (hRm : zRm R 6 170 cells slots) (σ : zS) (x0 : Nat) (τ : zS) (r : Int32) (hf : fX9_fail σ x0 = some (τ, r)) (hq : ∀ (pc : Nat) (lv : List (Nat × Value)), decode cX9_fail pc = .ok (.ireturn, 1) → zW p l e R s m args below meth c cells slots Q D Ca B 2 τ N pc lv [.int r]) : zW p l e R s m args below meth c cells slots Q D Ca B 2 σ N 0 [(0, .ref x0)] [] := by
  unfold fX9_fail at hf
  refine z_aload_n C dX9_fail_0 rfl 0 rfl ?_
  obtain ⟨v1, hv1, hf⟩ := zbind hf
  refine gf_RX9_63 C hv1 dX9_fail_1 ?_
  refine z_aload_n C dX9_fail_4 rfl 0 rfl ?_
  obtain ⟨v2, hv2, hf⟩ := zbind hf
  refine gf_RX9_50 C hv2 dX9_fail_5 ?_
  obtain ⟨c3, hc3, hf⟩ := zbind hf
  obtain ⟨kc3, hc3⟩ := zck_ok hc3
  refine z_callVv (As := [.ref v2]) (F0 := 6) (L0 := 170) C (mX6_remember l D Ca B En C.2.2.2.2.2.2.2.1 σ N v1 v2 _ hc3) hRm kc3 rfl kw_695 kw_13 kw_692 kw_693 kw_694 hyX6_remember (Nat.le_of_ble_eq_true rfl) (Nat.le_of_ble_eq_true rfl) rfl rfl (Nat.le_of_ble_eq_true rfl) dX9_fail_8 ?_
  refine z_aload_n C dX9_fail_11 rfl 0 rfl ?_
  obtain ⟨v4, hv4, hf⟩ := zbind hf
  refine gf_RX9_50 C hv4 dX9_fail_12 ?_
  obtain ⟨c5, hc5, hf⟩ := zbind hf
  obtain ⟨kc5, hc5⟩ := zck_ok hc5
  refine z_callVi (As := []) (F0 := 6) (L0 := 170) C (mX1_recordsAtRisk l D Ca B En C.2.2.2.2.2.2.2.1 c3 N v4  _ hc5) hRm kc5 rfl kw_659 kw_8 kw_656 kw_657 kw_658 hyX1_recordsAtRisk (Nat.le_of_ble_eq_true rfl) (Nat.le_of_ble_eq_true rfl) rfl rfl (Nat.le_of_ble_eq_true rfl) dX9_fail_15 ?_
  refine z_istore_n (lv2 := [(1, .int c5.2), (0, .ref x0)]) C dX9_fail_18 rfl (by decide) rfl ?_
  refine z_aload_n C dX9_fail_19 rfl 1 rfl ?_
  obtain ⟨v6, hv6, hf⟩ := zbind hf
  refine gf_RX9_50 C hv6 dX9_fail_20 ?_
  obtain ⟨c7, hc7, hf⟩ := zbind hf
  obtain ⟨kc7, hc7⟩ := zck_ok hc7
  refine z_callVv (As := []) (F0 := 6) (L0 := 170) C (mX1_recover l D Ca B En C.2.2.2.2.2.2.2.1 c5.1 N v6  _ hc7) hRm kc7 rfl kw_310 kw_8 kw_712 kw_308 kw_309 hyX1_recover (Nat.le_of_ble_eq_true rfl) (Nat.le_of_ble_eq_true rfl) rfl rfl (Nat.le_of_ble_eq_true rfl) dX9_fail_23 ?_
  refine z_iload_n C dX9_fail_26 rfl 0 rfl ?_
  cases hf
  exact hq _ _ dX9_fail_27

theorem mX9_fail (l : Launch) (D : va_G) (Ca : Nat → ClassId) (B : Nat) (En : State → Prop) (hE : zEk B En) (σ : zS) (N : Nat) (x0 : Nat) (X : zS × Int32) (hf : fX9_fail σ x0 = some X) : zMi l D Ca B En yX9_fail cX9_fail 2 (Option.some Jvm.ClassFile.FieldType.int) 6 170 [.ref x0] σ N X.1 X.2 :=
  zMet_i (own := RX9) hE (by decide +kernel) rfl (Nat.le_of_ble_eq_true rfl) (fun p e s m args below meth c C hr hRm => wfX9_fail C hRm σ x0 X.1 X.2 hf (fun pc lv hd => zfin_i C hr hd))
theorem dX9_groupsMoved_0 : decode cX9_groupsMoved 0 = .ok (.iconst 0, 1) := by decide +kernel
theorem dX9_groupsMoved_1 : decode cX9_groupsMoved 1 = .ok (.istore_n 2, 1) := by decide +kernel
theorem dX9_groupsMoved_2 : decode cX9_groupsMoved 2 = .ok (.iconst 0, 1) := by decide +kernel
theorem dX9_groupsMoved_3 : decode cX9_groupsMoved 3 = .ok (.istore_n 3, 1) := by decide +kernel
theorem dX9_groupsMoved_4 : decode cX9_groupsMoved 4 = .ok (.iload_n 3, 1) := by decide +kernel
theorem dX9_groupsMoved_5 : decode cX9_groupsMoved 5 = .ok (.bipush 8, 2) := by decide +kernel
theorem dX9_groupsMoved_7 : decode cX9_groupsMoved 7 = .ok (.if_icmp .ge 25, 3) := by decide +kernel
theorem dX9_groupsMoved_10 : decode cX9_groupsMoved 10 = .ok (.iload_n 3, 1) := by decide +kernel
theorem dX9_groupsMoved_11 : decode cX9_groupsMoved 11 = .ok (.iload_n 0, 1) := by decide +kernel
theorem dX9_groupsMoved_12 : decode cX9_groupsMoved 12 = .ok (.invokestatic 172, 3) := by decide +kernel
theorem dX9_groupsMoved_15 : decode cX9_groupsMoved 15 = .ok (.iload_n 3, 1) := by decide +kernel
theorem dX9_groupsMoved_16 : decode cX9_groupsMoved 16 = .ok (.iload_n 1, 1) := by decide +kernel
theorem dX9_groupsMoved_17 : decode cX9_groupsMoved 17 = .ok (.invokestatic 172, 3) := by decide +kernel
theorem dX9_groupsMoved_20 : decode cX9_groupsMoved 20 = .ok (.if_icmp .eq 6, 3) := by decide +kernel
theorem dX9_groupsMoved_23 : decode cX9_groupsMoved 23 = .ok (.iinc 2 1, 3) := by decide +kernel
theorem dX9_groupsMoved_26 : decode cX9_groupsMoved 26 = .ok (.iinc 3 1, 3) := by decide +kernel
theorem dX9_groupsMoved_29 : decode cX9_groupsMoved 29 = .ok (.goto (-25), 3) := by decide +kernel
theorem dX9_groupsMoved_32 : decode cX9_groupsMoved 32 = .ok (.iload_n 2, 1) := by decide +kernel
theorem dX9_groupsMoved_33 : decode cX9_groupsMoved 33 = .ok (.ireturn, 1) := by decide +kernel
theorem hyX9_groupsMoved : yX9_groupsMoved.cls ≠ "java/lang/invoke/MethodHandle" ∧ yX9_groupsMoved.cls ≠ "java/lang/invoke/VarHandle" ∧ (parseMethodDescriptor yX9_groupsMoved.desc).map (fun d => d.parameters.length) = some 2 := ⟨by decide +kernel, by decide +kernel, by decide +kernel⟩
set_option maxRecDepth 100000 in
set_option maxHeartbeats 4000000 in
theorem wjX9_groupsMoved_26_L4 (C : zC p s m args meth c cX9_groupsMoved RX9 4 D Ca B En) (hRm : zRm R 1 21 cells slots) (σ : zS) (x0 : Int32) (x1 : Int32) (x2 : Int32) (x3 : Int32)  (y : (zS × Int32 × Int32) ⊕ (zS × Int32)) (hf : jX9_groupsMoved_26_L4 σ x0 x1 x2 x3  = some y) (hk : (∀ z : (zS × Int32 × Int32), y = .inl z → zW p l e R s m args below meth c cells slots Q D Ca B 4 z.1 N 4 [(0, .int x0), (1, .int x1), (2, .int z.2.1), (3, .int z.2.2)] []) ∧ (∀ z : (zS × Int32), y = .inr z → zW p l e R s m args below meth c cells slots Q D Ca B 4 z.1 N 32 [(2, .int z.2)] [])) : zW p l e R s m args below meth c cells slots Q D Ca B 4 σ N 26 [(0, .int x0), (1, .int x1), (2, .int x2), (3, .int x3)] [] := by
  unfold jX9_groupsMoved_26_L4 at hf
  refine z_iinc (lv2 := [(3, .int (x3 + (zi 1))), (0, .int x0), (1, .int x1), (2, .int x2)]) C (x3 + (zi 1)) dX9_groupsMoved_26 3 rfl rfl (by decide) rfl ?_
  refine z_goto C 4 dX9_groupsMoved_29 (by decide) ?_
  cases hf
  refine z_sub [1, 2, 3, 0] rfl ?_
  exact hk.1 _ rfl

set_option maxRecDepth 100000 in
set_option maxHeartbeats 4000000 in
theorem wsX9_groupsMoved_4b (C : zC p s m args meth c cX9_groupsMoved RX9 4 D Ca B En) (hRm : zRm R 1 21 cells slots) (x0 : Int32) (x1 : Int32) (σ : zS) (u2 : Int32) (u3 : Int32) (y : (zS × Int32 × Int32) ⊕ (zS × Int32)) (hf : sX9_groupsMoved_4b x0 x1 σ u2 u3 = some y) (hk : (∀ z : (zS × Int32 × Int32), y = .inl z → zW p l e R s m args below meth c cells slots Q D Ca B 4 z.1 N 4 [(0, .int x0), (1, .int x1), (2, .int z.2.1), (3, .int z.2.2)] []) ∧ (∀ z : (zS × Int32), y = .inr z → zW p l e R s m args below meth c cells slots Q D Ca B 4 z.1 N 32 [(2, .int z.2)] [])) : zW p l e R s m args below meth c cells slots Q D Ca B 4 σ N 4 [(0, .int x0), (1, .int x1), (2, .int u2), (3, .int u3)] [] := by
  unfold sX9_groupsMoved_4b at hf
  refine z_iload_n C dX9_groupsMoved_4 rfl 3 rfl ?_
  refine z_bipush C (zi 8) dX9_groupsMoved_5 (by decide) ?_
  refine z_icmp_ge C 32 dX9_groupsMoved_7 (by decide) (fun q4 => ?_) (fun q4 => ?_)
  · rw [if_pos q4] at hf
    cases hf
    refine z_sub [2] rfl ?_
    exact hk.2 _ rfl
  · rw [if_neg q4] at hf
    refine z_iload_n C dX9_groupsMoved_10 rfl 3 rfl ?_
    refine z_iload_n C dX9_groupsMoved_11 rfl 0 rfl ?_
    obtain ⟨c1, hc1, hf⟩ := zbind hf
    refine z_callSi (As := [.int u3, .int x0]) (F0 := 1) (L0 := 21) C (mX9_ownerOf l D Ca B En C.2.2.2.2.2.2.2.1 σ N u3 x0 _ hc1) hRm kw_758 kw_1 kw_974 kw_757 hyX9_ownerOf (Nat.le_of_ble_eq_true rfl) (Nat.le_of_ble_eq_true rfl) rfl rfl (Nat.le_of_ble_eq_true rfl) dX9_groupsMoved_12 ?_
    refine z_iload_n C dX9_groupsMoved_15 rfl 3 rfl ?_
    refine z_iload_n C dX9_groupsMoved_16 rfl 1 rfl ?_
    obtain ⟨c2, hc2, hf⟩ := zbind hf
    refine z_callSi (As := [.int u3, .int x1]) (F0 := 1) (L0 := 21) C (mX9_ownerOf l D Ca B En C.2.2.2.2.2.2.2.1 c1.1 N u3 x1 _ hc2) hRm kw_758 kw_1 kw_974 kw_757 hyX9_ownerOf (Nat.le_of_ble_eq_true rfl) (Nat.le_of_ble_eq_true rfl) rfl rfl (Nat.le_of_ble_eq_true rfl) dX9_groupsMoved_17 ?_
    refine z_icmp_eq C 26 dX9_groupsMoved_20 (by decide) (fun q3 => ?_) (fun q3 => ?_)
    · rw [if_pos q3] at hf
      refine z_sub [0, 1, 2, 3] rfl ?_
      exact wjX9_groupsMoved_26_L4 C hRm _ _ _ _ _  _ hf hk
    · rw [if_neg q3] at hf
      refine z_iinc (lv2 := [(2, .int (u2 + (zi 1))), (0, .int x0), (1, .int x1), (3, .int u3)]) C (u2 + (zi 1)) dX9_groupsMoved_23 2 rfl rfl (by decide) rfl ?_
      refine z_sub [1, 2, 0, 3] rfl ?_
      exact wjX9_groupsMoved_26_L4 C hRm _ _ _ _ _  _ hf hk

theorem wsX9_groupsMoved_4 (C : zC p s m args meth c cX9_groupsMoved RX9 4 D Ca B En) (hRm : zRm R 1 21 cells slots) (x0 : Int32) (x1 : Int32) (n : Nat) (z : (zS × Int32 × Int32)) (x : (zS × Int32)) (hf : zloop (sX9_groupsMoved_4 x0 x1) n z = some x) (hk : (∀ o : (zS × Int32), x = o → zW p l e R s m args below meth c cells slots Q D Ca B 4 o.1 N 32 [(2, .int o.2)] [])) : zW p l e R s m args below meth c cells slots Q D Ca B 4 z.1 N 4 [(0, .int x0), (1, .int x1), (2, .int z.2.1), (3, .int z.2.2)] [] := by
  refine zloop_W (P := fun z : (zS × Int32 × Int32) => zW p l e R s m args below meth c cells slots Q D Ca B 4 z.1 N 4 [(0, .int x0), (1, .int x1), (2, .int z.2.1), (3, .int z.2.2)] []) (K := fun x : (zS × Int32) => (∀ o : (zS × Int32), x = o → zW p l e R s m args below meth c cells slots Q D Ca B 4 o.1 N 32 [(2, .int o.2)] [])) ?_ n z x hf hk
  intro z y hy h1 h2
  refine wsX9_groupsMoved_4b C hRm x0 x1 z.1 z.2.1 z.2.2 y hy ⟨fun z2 e => h1 z2 e, fun o e => (h2 _ e) o rfl⟩
set_option maxRecDepth 100000 in
set_option maxHeartbeats 4000000 in
theorem wfX9_groupsMoved (C : zC p s m args meth c cX9_groupsMoved RX9 4 D Ca B En) (hRm : zRm R 1 21 cells slots) (σ : zS) (x0 : Int32) (x1 : Int32) (τ : zS) (r : Int32) (hf : fX9_groupsMoved σ x0 x1 = some (τ, r)) (hq : ∀ (pc : Nat) (lv : List (Nat × Value)), decode cX9_groupsMoved pc = .ok (.ireturn, 1) → zW p l e R s m args below meth c cells slots Q D Ca B 4 τ N pc lv [.int r]) : zW p l e R s m args below meth c cells slots Q D Ca B 4 σ N 0 [(0, .int x0), (1, .int x1)] [] := by
  unfold fX9_groupsMoved at hf
  refine z_iconst C (zi 0) dX9_groupsMoved_0 (by decide) ?_
  refine z_istore_n (lv2 := [(2, .int ((zi 0))), (0, .int x0), (1, .int x1)]) C dX9_groupsMoved_1 rfl (by decide) rfl ?_
  refine z_iconst C (zi 0) dX9_groupsMoved_2 (by decide) ?_
  refine z_istore_n (lv2 := [(3, .int ((zi 0))), (2, .int ((zi 0))), (0, .int x0), (1, .int x1)]) C dX9_groupsMoved_3 rfl (by decide) rfl ?_
  obtain ⟨o5, ho5, hf⟩ := zbind hf
  refine z_sub [2, 3, 1, 0] rfl ?_
  refine wsX9_groupsMoved_4 C hRm _ _ zfuel (σ, (zi 0), (zi 0)) o5 ho5 ?_
  intro z9 e9
  subst e9
  refine z_iload_n C dX9_groupsMoved_32 rfl 0 rfl ?_
  cases hf
  exact hq _ _ dX9_groupsMoved_33

theorem mX9_groupsMoved (l : Launch) (D : va_G) (Ca : Nat → ClassId) (B : Nat) (En : State → Prop) (hE : zEk B En) (σ : zS) (N : Nat) (x0 : Int32) (x1 : Int32) (X : zS × Int32) (hf : fX9_groupsMoved σ x0 x1 = some X) : zMi l D Ca B En yX9_groupsMoved cX9_groupsMoved 4 (Option.some Jvm.ClassFile.FieldType.int) 1 21 [.int x0, .int x1] σ N X.1 X.2 :=
  zMet_i (own := RX9) hE (by decide +kernel) rfl (Nat.le_of_ble_eq_true rfl) (fun p e s m args below meth c C hr hRm => wfX9_groupsMoved C hRm σ x0 x1 X.1 X.2 hf (fun pc lv hd => zfin_i C hr hd))
theorem dX9_wouldTake_0 : decode cX9_wouldTake 0 = .ok (.aload_n 0, 1) := by decide +kernel
theorem dX9_wouldTake_1 : decode cX9_wouldTake 1 = .ok (.getfield 50, 3) := by decide +kernel
theorem dX9_wouldTake_4 : decode cX9_wouldTake 4 = .ok (.getfield 227, 3) := by decide +kernel
theorem dX9_wouldTake_7 : decode cX9_wouldTake 7 = .ok (.invokevirtual 231, 3) := by decide +kernel
theorem dX9_wouldTake_10 : decode cX9_wouldTake 10 = .ok (.ifCond .eq 5, 3) := by decide +kernel
theorem dX9_wouldTake_13 : decode cX9_wouldTake 13 = .ok (.iconst (-1), 1) := by decide +kernel
theorem dX9_wouldTake_14 : decode cX9_wouldTake 14 = .ok (.ireturn, 1) := by decide +kernel
theorem dX9_wouldTake_15 : decode cX9_wouldTake 15 = .ok (.aload_n 0, 1) := by decide +kernel
theorem dX9_wouldTake_16 : decode cX9_wouldTake 16 = .ok (.getfield 54, 3) := by decide +kernel
theorem dX9_wouldTake_19 : decode cX9_wouldTake 19 = .ok (.aload_n 0, 1) := by decide +kernel
theorem dX9_wouldTake_20 : decode cX9_wouldTake 20 = .ok (.getfield 50, 3) := by decide +kernel
theorem dX9_wouldTake_23 : decode cX9_wouldTake 23 = .ok (.invokevirtual 325, 3) := by decide +kernel
theorem dX9_wouldTake_26 : decode cX9_wouldTake 26 = .ok (.aload_n 0, 1) := by decide +kernel
theorem dX9_wouldTake_27 : decode cX9_wouldTake 27 = .ok (.getfield 54, 3) := by decide +kernel
theorem dX9_wouldTake_30 : decode cX9_wouldTake 30 = .ok (.iload_n 1, 1) := by decide +kernel
theorem dX9_wouldTake_31 : decode cX9_wouldTake 31 = .ok (.invokevirtual 309, 3) := by decide +kernel
theorem dX9_wouldTake_34 : decode cX9_wouldTake 34 = .ok (.aload_n 0, 1) := by decide +kernel
theorem dX9_wouldTake_35 : decode cX9_wouldTake 35 = .ok (.getfield 54, 3) := by decide +kernel
theorem dX9_wouldTake_38 : decode cX9_wouldTake 38 = .ok (.sipush 500, 3) := by decide +kernel
theorem dX9_wouldTake_41 : decode cX9_wouldTake 41 = .ok (.invokevirtual 328, 3) := by decide +kernel
theorem dX9_wouldTake_44 : decode cX9_wouldTake 44 = .ok (.ireturn, 1) := by decide +kernel
theorem hyX9_wouldTake : yX9_wouldTake.cls ≠ "java/lang/invoke/MethodHandle" ∧ yX9_wouldTake.cls ≠ "java/lang/invoke/VarHandle" ∧ (parseMethodDescriptor yX9_wouldTake.desc).map (fun d => d.parameters.length) = some 1 := ⟨by decide +kernel, by decide +kernel, by decide +kernel⟩
set_option maxRecDepth 100000 in
set_option maxHeartbeats 4000000 in
theorem wfX9_wouldTake (C : zC p s m args meth c cX9_wouldTake RX9 2 D Ca B En) (hRm : zRm R 7 160 cells slots) (σ : zS) (x0 : Nat) (x1 : Int32) (τ : zS) (r : Int32) (hf : fX9_wouldTake σ x0 x1 = some (τ, r)) (hq : ∀ (pc : Nat) (lv : List (Nat × Value)), decode cX9_wouldTake pc = .ok (.ireturn, 1) → zW p l e R s m args below meth c cells slots Q D Ca B 2 τ N pc lv [.int r]) : zW p l e R s m args below meth c cells slots Q D Ca B 2 σ N 0 [(0, .ref x0), (1, .int x1)] [] := by
  unfold fX9_wouldTake at hf
  refine z_aload_n C dX9_wouldTake_0 rfl 0 rfl ?_
  obtain ⟨v1, hv1, hf⟩ := zbind hf
  refine gf_RX9_50 C hv1 dX9_wouldTake_1 ?_
  obtain ⟨v2, hv2, hf⟩ := zbind hf
  refine gf_RX9_227 C hv2 dX9_wouldTake_4 ?_
  obtain ⟨c3, hc3, hf⟩ := zbind hf
  obtain ⟨kc3, hc3⟩ := zck_ok hc3
  refine z_callVi (As := []) (F0 := 7) (L0 := 160) C (mX0_exists l D Ca B En C.2.2.2.2.2.2.2.1 σ N v2  _ hc3) hRm kc3 rfl kw_318 kw_10 kw_717 kw_316 kw_317 hyX0_exists (Nat.le_of_ble_eq_true rfl) (Nat.le_of_ble_eq_true rfl) rfl rfl (Nat.le_of_ble_eq_true rfl) dX9_wouldTake_7 ?_
  refine z_if_eq C 15 dX9_wouldTake_10 (by decide) (fun q11 => ?_) (fun q11 => ?_)
  · rw [if_pos q11] at hf
    refine z_aload_n C dX9_wouldTake_15 rfl 0 rfl ?_
    obtain ⟨v4, hv4, hf⟩ := zbind hf
    refine gf_RX9_54 C hv4 dX9_wouldTake_16 ?_
    refine z_aload_n C dX9_wouldTake_19 rfl 0 rfl ?_
    obtain ⟨v5, hv5, hf⟩ := zbind hf
    refine gf_RX9_50 C hv5 dX9_wouldTake_20 ?_
    obtain ⟨c6, hc6, hf⟩ := zbind hf
    obtain ⟨kc6, hc6⟩ := zck_ok hc6
    refine z_callVv (As := [.ref v5]) (F0 := 7) (L0 := 160) C (mX1_copyFrom l D Ca B En C.2.2.2.2.2.2.2.1 c3.1 N v4 v5 _ hc6) hRm kc6 rfl kw_700 kw_8 kw_718 kw_698 kw_699 hyX1_copyFrom (Nat.le_of_ble_eq_true rfl) (Nat.le_of_ble_eq_true rfl) rfl rfl (Nat.le_of_ble_eq_true rfl) dX9_wouldTake_23 ?_
    refine z_aload_n C dX9_wouldTake_26 rfl 0 rfl ?_
    obtain ⟨v7, hv7, hf⟩ := zbind hf
    refine gf_RX9_54 C hv7 dX9_wouldTake_27 ?_
    refine z_iload_n C dX9_wouldTake_30 rfl 1 rfl ?_
    obtain ⟨c8, hc8, hf⟩ := zbind hf
    obtain ⟨kc8, hc8⟩ := zck_ok hc8
    refine z_callVv (As := [.int x1]) (F0 := 7) (L0 := 160) C (mX1_startCheckpoint l D Ca B En C.2.2.2.2.2.2.2.1 c6 N v7 x1 _ hc8) hRm kc8 rfl kw_722 kw_8 kw_719 kw_720 kw_721 hyX1_startCheckpoint (Nat.le_of_ble_eq_true rfl) (Nat.le_of_ble_eq_true rfl) rfl rfl (Nat.le_of_ble_eq_true rfl) dX9_wouldTake_31 ?_
    refine z_aload_n C dX9_wouldTake_34 rfl 0 rfl ?_
    obtain ⟨v9, hv9, hf⟩ := zbind hf
    refine gf_RX9_54 C hv9 dX9_wouldTake_35 ?_
    refine z_sipush C (zi 500) dX9_wouldTake_38 (by decide) ?_
    obtain ⟨c10, hc10, hf⟩ := zbind hf
    obtain ⟨kc10, hc10⟩ := zck_ok hc10
    refine z_callVi (As := [.int ((zi 500))]) (F0 := 7) (L0 := 160) C (mX1_ticksToCompletion l D Ca B En C.2.2.2.2.2.2.2.1 c8 N v9 ((zi 500)) _ hc10) hRm kc10 rfl kw_732 kw_8 kw_729 kw_730 kw_731 hyX1_ticksToCompletion (Nat.le_of_ble_eq_true rfl) (Nat.le_of_ble_eq_true rfl) rfl rfl (Nat.le_of_ble_eq_true rfl) dX9_wouldTake_41 ?_
    cases hf
    exact hq _ _ dX9_wouldTake_44
  · rw [if_neg q11] at hf
    refine z_iconst C (zi (-1)) dX9_wouldTake_13 (by decide) ?_
    cases hf
    exact hq _ _ dX9_wouldTake_14

theorem mX9_wouldTake (l : Launch) (D : va_G) (Ca : Nat → ClassId) (B : Nat) (En : State → Prop) (hE : zEk B En) (σ : zS) (N : Nat) (x0 : Nat) (x1 : Int32) (X : zS × Int32) (hf : fX9_wouldTake σ x0 x1 = some X) : zMi l D Ca B En yX9_wouldTake cX9_wouldTake 2 (Option.some Jvm.ClassFile.FieldType.int) 7 160 [.ref x0, .int x1] σ N X.1 X.2 :=
  zMet_i (own := RX9) hE (by decide +kernel) rfl (Nat.le_of_ble_eq_true rfl) (fun p e s m args below meth c C hr hRm => wfX9_wouldTake C hRm σ x0 x1 X.1 X.2 hf (fun pc lv hd => zfin_i C hr hd))
theorem dX9_wouldKeep_0 : decode cX9_wouldKeep 0 = .ok (.aload_n 0, 1) := by decide +kernel
theorem dX9_wouldKeep_1 : decode cX9_wouldKeep 1 = .ok (.getfield 50, 3) := by decide +kernel
theorem dX9_wouldKeep_4 : decode cX9_wouldKeep 4 = .ok (.getfield 227, 3) := by decide +kernel
theorem dX9_wouldKeep_7 : decode cX9_wouldKeep 7 = .ok (.invokevirtual 231, 3) := by decide +kernel
theorem dX9_wouldKeep_10 : decode cX9_wouldKeep 10 = .ok (.ifCond .eq 5, 3) := by decide +kernel
theorem dX9_wouldKeep_13 : decode cX9_wouldKeep 13 = .ok (.iconst (-1), 1) := by decide +kernel
theorem dX9_wouldKeep_14 : decode cX9_wouldKeep 14 = .ok (.ireturn, 1) := by decide +kernel
theorem dX9_wouldKeep_15 : decode cX9_wouldKeep 15 = .ok (.aload_n 0, 1) := by decide +kernel
theorem dX9_wouldKeep_16 : decode cX9_wouldKeep 16 = .ok (.getfield 54, 3) := by decide +kernel
theorem dX9_wouldKeep_19 : decode cX9_wouldKeep 19 = .ok (.aload_n 0, 1) := by decide +kernel
theorem dX9_wouldKeep_20 : decode cX9_wouldKeep 20 = .ok (.getfield 50, 3) := by decide +kernel
theorem dX9_wouldKeep_23 : decode cX9_wouldKeep 23 = .ok (.invokevirtual 325, 3) := by decide +kernel
theorem dX9_wouldKeep_26 : decode cX9_wouldKeep 26 = .ok (.aload_n 0, 1) := by decide +kernel
theorem dX9_wouldKeep_27 : decode cX9_wouldKeep 27 = .ok (.getfield 54, 3) := by decide +kernel
theorem dX9_wouldKeep_30 : decode cX9_wouldKeep 30 = .ok (.iconst 1, 1) := by decide +kernel
theorem dX9_wouldKeep_31 : decode cX9_wouldKeep 31 = .ok (.invokevirtual 309, 3) := by decide +kernel
theorem dX9_wouldKeep_34 : decode cX9_wouldKeep 34 = .ok (.aload_n 0, 1) := by decide +kernel
theorem dX9_wouldKeep_35 : decode cX9_wouldKeep 35 = .ok (.getfield 54, 3) := by decide +kernel
theorem dX9_wouldKeep_38 : decode cX9_wouldKeep 38 = .ok (.sipush 500, 3) := by decide +kernel
theorem dX9_wouldKeep_41 : decode cX9_wouldKeep 41 = .ok (.invokevirtual 328, 3) := by decide +kernel
theorem dX9_wouldKeep_44 : decode cX9_wouldKeep 44 = .ok (.iconst (-1), 1) := by decide +kernel
theorem dX9_wouldKeep_45 : decode cX9_wouldKeep 45 = .ok (.if_icmp .ne 7, 3) := by decide +kernel
theorem dX9_wouldKeep_48 : decode cX9_wouldKeep 48 = .ok (.iconst (-1), 1) := by decide +kernel
theorem dX9_wouldKeep_49 : decode cX9_wouldKeep 49 = .ok (.goto 13, 3) := by decide +kernel
theorem dX9_wouldKeep_52 : decode cX9_wouldKeep 52 = .ok (.aload_n 0, 1) := by decide +kernel
theorem dX9_wouldKeep_53 : decode cX9_wouldKeep 53 = .ok (.getfield 54, 3) := by decide +kernel
theorem dX9_wouldKeep_56 : decode cX9_wouldKeep 56 = .ok (.getfield 258, 3) := by decide +kernel
theorem dX9_wouldKeep_59 : decode cX9_wouldKeep 59 = .ok (.getfield 255, 3) := by decide +kernel
theorem dX9_wouldKeep_62 : decode cX9_wouldKeep 62 = .ok (.ireturn, 1) := by decide +kernel
theorem hyX9_wouldKeep : yX9_wouldKeep.cls ≠ "java/lang/invoke/MethodHandle" ∧ yX9_wouldKeep.cls ≠ "java/lang/invoke/VarHandle" ∧ (parseMethodDescriptor yX9_wouldKeep.desc).map (fun d => d.parameters.length) = some 0 := ⟨by decide +kernel, by decide +kernel, by decide +kernel⟩
set_option maxRecDepth 100000 in
set_option maxHeartbeats 4000000 in
theorem wfX9_wouldKeep (C : zC p s m args meth c cX9_wouldKeep RX9 1 D Ca B En) (hRm : zRm R 7 160 cells slots) (σ : zS) (x0 : Nat) (τ : zS) (r : Int32) (hf : fX9_wouldKeep σ x0 = some (τ, r)) (hq : ∀ (pc : Nat) (lv : List (Nat × Value)), decode cX9_wouldKeep pc = .ok (.ireturn, 1) → zW p l e R s m args below meth c cells slots Q D Ca B 1 τ N pc lv [.int r]) : zW p l e R s m args below meth c cells slots Q D Ca B 1 σ N 0 [(0, .ref x0)] [] := by
  unfold fX9_wouldKeep at hf
  refine z_aload_n C dX9_wouldKeep_0 rfl 0 rfl ?_
  obtain ⟨v1, hv1, hf⟩ := zbind hf
  refine gf_RX9_50 C hv1 dX9_wouldKeep_1 ?_
  obtain ⟨v2, hv2, hf⟩ := zbind hf
  refine gf_RX9_227 C hv2 dX9_wouldKeep_4 ?_
  obtain ⟨c3, hc3, hf⟩ := zbind hf
  obtain ⟨kc3, hc3⟩ := zck_ok hc3
  refine z_callVi (As := []) (F0 := 7) (L0 := 160) C (mX0_exists l D Ca B En C.2.2.2.2.2.2.2.1 σ N v2  _ hc3) hRm kc3 rfl kw_318 kw_10 kw_717 kw_316 kw_317 hyX0_exists (Nat.le_of_ble_eq_true rfl) (Nat.le_of_ble_eq_true rfl) rfl rfl (Nat.le_of_ble_eq_true rfl) dX9_wouldKeep_7 ?_
  refine z_if_eq C 15 dX9_wouldKeep_10 (by decide) (fun q15 => ?_) (fun q15 => ?_)
  · rw [if_pos q15] at hf
    refine z_aload_n C dX9_wouldKeep_15 rfl 0 rfl ?_
    obtain ⟨v4, hv4, hf⟩ := zbind hf
    refine gf_RX9_54 C hv4 dX9_wouldKeep_16 ?_
    refine z_aload_n C dX9_wouldKeep_19 rfl 0 rfl ?_
    obtain ⟨v5, hv5, hf⟩ := zbind hf
    refine gf_RX9_50 C hv5 dX9_wouldKeep_20 ?_
    obtain ⟨c6, hc6, hf⟩ := zbind hf
    obtain ⟨kc6, hc6⟩ := zck_ok hc6
    refine z_callVv (As := [.ref v5]) (F0 := 7) (L0 := 160) C (mX1_copyFrom l D Ca B En C.2.2.2.2.2.2.2.1 c3.1 N v4 v5 _ hc6) hRm kc6 rfl kw_700 kw_8 kw_718 kw_698 kw_699 hyX1_copyFrom (Nat.le_of_ble_eq_true rfl) (Nat.le_of_ble_eq_true rfl) rfl rfl (Nat.le_of_ble_eq_true rfl) dX9_wouldKeep_23 ?_
    refine z_aload_n C dX9_wouldKeep_26 rfl 0 rfl ?_
    obtain ⟨v7, hv7, hf⟩ := zbind hf
    refine gf_RX9_54 C hv7 dX9_wouldKeep_27 ?_
    refine z_iconst C (zi 1) dX9_wouldKeep_30 (by decide) ?_
    obtain ⟨c8, hc8, hf⟩ := zbind hf
    obtain ⟨kc8, hc8⟩ := zck_ok hc8
    refine z_callVv (As := [.int ((zi 1))]) (F0 := 7) (L0 := 160) C (mX1_startCheckpoint l D Ca B En C.2.2.2.2.2.2.2.1 c6 N v7 ((zi 1)) _ hc8) hRm kc8 rfl kw_722 kw_8 kw_719 kw_720 kw_721 hyX1_startCheckpoint (Nat.le_of_ble_eq_true rfl) (Nat.le_of_ble_eq_true rfl) rfl rfl (Nat.le_of_ble_eq_true rfl) dX9_wouldKeep_31 ?_
    refine z_aload_n C dX9_wouldKeep_34 rfl 0 rfl ?_
    obtain ⟨v9, hv9, hf⟩ := zbind hf
    refine gf_RX9_54 C hv9 dX9_wouldKeep_35 ?_
    refine z_sipush C (zi 500) dX9_wouldKeep_38 (by decide) ?_
    obtain ⟨c10, hc10, hf⟩ := zbind hf
    obtain ⟨kc10, hc10⟩ := zck_ok hc10
    refine z_callVi (As := [.int ((zi 500))]) (F0 := 7) (L0 := 160) C (mX1_ticksToCompletion l D Ca B En C.2.2.2.2.2.2.2.1 c8 N v9 ((zi 500)) _ hc10) hRm kc10 rfl kw_732 kw_8 kw_729 kw_730 kw_731 hyX1_ticksToCompletion (Nat.le_of_ble_eq_true rfl) (Nat.le_of_ble_eq_true rfl) rfl rfl (Nat.le_of_ble_eq_true rfl) dX9_wouldKeep_41 ?_
    refine z_iconst C (zi (-1)) dX9_wouldKeep_44 (by decide) ?_
    refine z_icmp_ne C 52 dX9_wouldKeep_45 (by decide) (fun q14 => ?_) (fun q14 => ?_)
    · rw [if_neg q14] at hf
      refine z_aload_n C dX9_wouldKeep_52 rfl 0 rfl ?_
      obtain ⟨v11, hv11, hf⟩ := zbind hf
      refine gf_RX9_54 C hv11 dX9_wouldKeep_53 ?_
      obtain ⟨v12, hv12, hf⟩ := zbind hf
      refine gf_RX9_258 C hv12 dX9_wouldKeep_56 ?_
      obtain ⟨v13, hv13, hf⟩ := zbind hf
      refine gf_RX9_255 C hv13 dX9_wouldKeep_59 ?_
      cases hf
      exact hq _ _ dX9_wouldKeep_62
    · rw [if_pos q14] at hf
      refine z_iconst C (zi (-1)) dX9_wouldKeep_48 (by decide) ?_
      refine z_goto C 62 dX9_wouldKeep_49 (by decide) ?_
      cases hf
      exact hq _ _ dX9_wouldKeep_62
  · rw [if_neg q15] at hf
    refine z_iconst C (zi (-1)) dX9_wouldKeep_13 (by decide) ?_
    cases hf
    exact hq _ _ dX9_wouldKeep_14

theorem mX9_wouldKeep (l : Launch) (D : va_G) (Ca : Nat → ClassId) (B : Nat) (En : State → Prop) (hE : zEk B En) (σ : zS) (N : Nat) (x0 : Nat) (X : zS × Int32) (hf : fX9_wouldKeep σ x0 = some X) : zMi l D Ca B En yX9_wouldKeep cX9_wouldKeep 1 (Option.some Jvm.ClassFile.FieldType.int) 7 160 [.ref x0] σ N X.1 X.2 :=
  zMet_i (own := RX9) hE (by decide +kernel) rfl (Nat.le_of_ble_eq_true rfl) (fun p e s m args below meth c C hr hRm => wfX9_wouldKeep C hRm σ x0 X.1 X.2 hf (fun pc lv hd => zfin_i C hr hd))
theorem dX9_quietIn_0 : decode cX9_quietIn 0 = .ok (.aload_n 0, 1) := by decide +kernel
theorem dX9_quietIn_1 : decode cX9_quietIn 1 = .ok (.getfield 54, 3) := by decide +kernel
theorem dX9_quietIn_4 : decode cX9_quietIn 4 = .ok (.aload_n 0, 1) := by decide +kernel
theorem dX9_quietIn_5 : decode cX9_quietIn 5 = .ok (.getfield 50, 3) := by decide +kernel
theorem dX9_quietIn_8 : decode cX9_quietIn 8 = .ok (.invokevirtual 325, 3) := by decide +kernel
theorem dX9_quietIn_11 : decode cX9_quietIn 11 = .ok (.iconst 0, 1) := by decide +kernel
theorem dX9_quietIn_12 : decode cX9_quietIn 12 = .ok (.istore_n 1, 1) := by decide +kernel
theorem dX9_quietIn_13 : decode cX9_quietIn 13 = .ok (.iload_n 1, 1) := by decide +kernel
theorem dX9_quietIn_14 : decode cX9_quietIn 14 = .ok (.sipush 1000, 3) := by decide +kernel
theorem dX9_quietIn_17 : decode cX9_quietIn 17 = .ok (.if_icmp .ge 28, 3) := by decide +kernel
theorem dX9_quietIn_20 : decode cX9_quietIn 20 = .ok (.aload_n 0, 1) := by decide +kernel
theorem dX9_quietIn_21 : decode cX9_quietIn 21 = .ok (.getfield 54, 3) := by decide +kernel
theorem dX9_quietIn_24 : decode cX9_quietIn 24 = .ok (.invokevirtual 331, 3) := by decide +kernel
theorem dX9_quietIn_27 : decode cX9_quietIn 27 = .ok (.ifCond .eq 5, 3) := by decide +kernel
theorem dX9_quietIn_30 : decode cX9_quietIn 30 = .ok (.iload_n 1, 1) := by decide +kernel
theorem dX9_quietIn_31 : decode cX9_quietIn 31 = .ok (.ireturn, 1) := by decide +kernel
theorem dX9_quietIn_32 : decode cX9_quietIn 32 = .ok (.aload_n 0, 1) := by decide +kernel
theorem dX9_quietIn_33 : decode cX9_quietIn 33 = .ok (.getfield 54, 3) := by decide +kernel
theorem dX9_quietIn_36 : decode cX9_quietIn 36 = .ok (.invokevirtual 303, 3) := by decide +kernel
theorem dX9_quietIn_39 : decode cX9_quietIn 39 = .ok (.iinc 1 1, 3) := by decide +kernel
theorem dX9_quietIn_42 : decode cX9_quietIn 42 = .ok (.goto (-29), 3) := by decide +kernel
theorem dX9_quietIn_45 : decode cX9_quietIn 45 = .ok (.aload_n 0, 1) := by decide +kernel
theorem dX9_quietIn_46 : decode cX9_quietIn 46 = .ok (.getfield 54, 3) := by decide +kernel
theorem dX9_quietIn_49 : decode cX9_quietIn 49 = .ok (.invokevirtual 331, 3) := by decide +kernel
theorem dX9_quietIn_52 : decode cX9_quietIn 52 = .ok (.ifCond .eq 9, 3) := by decide +kernel
theorem dX9_quietIn_55 : decode cX9_quietIn 55 = .ok (.sipush 1000, 3) := by decide +kernel
theorem dX9_quietIn_58 : decode cX9_quietIn 58 = .ok (.goto 4, 3) := by decide +kernel
theorem dX9_quietIn_61 : decode cX9_quietIn 61 = .ok (.iconst (-1), 1) := by decide +kernel
theorem dX9_quietIn_62 : decode cX9_quietIn 62 = .ok (.ireturn, 1) := by decide +kernel
theorem hyX9_quietIn : yX9_quietIn.cls ≠ "java/lang/invoke/MethodHandle" ∧ yX9_quietIn.cls ≠ "java/lang/invoke/VarHandle" ∧ (parseMethodDescriptor yX9_quietIn.desc).map (fun d => d.parameters.length) = some 0 := ⟨by decide +kernel, by decide +kernel, by decide +kernel⟩
set_option maxRecDepth 100000 in
set_option maxHeartbeats 4000000 in
theorem wsX9_quietIn_13b (C : zC p s m args meth c cX9_quietIn RX9 2 D Ca B En) (hRm : zRm R 6 148 cells slots) (x0 : Nat) (σ : zS) (u1 : Int32) (y : (zS × Int32) ⊕ ((zS × Int32) ⊕ zS)) (hf : sX9_quietIn_13b x0 σ u1 = some y) (hk : (∀ z : (zS × Int32), y = .inl z → zW p l e R s m args below meth c cells slots Q D Ca B 2 z.1 N 13 [(0, .ref x0), (1, .int z.2)] []) ∧ (∀ z : (zS × Int32), y = .inr (.inl z) → zW p l e R s m args below meth c cells slots Q D Ca B 2 z.1 N 30 [(1, .int z.2)] []) ∧ (∀ z : zS, y = .inr (.inr z) → zW p l e R s m args below meth c cells slots Q D Ca B 2 z N 45 [(0, .ref x0)] [])) : zW p l e R s m args below meth c cells slots Q D Ca B 2 σ N 13 [(0, .ref x0), (1, .int u1)] [] := by
  unfold sX9_quietIn_13b at hf
  refine z_iload_n C dX9_quietIn_13 rfl 1 rfl ?_
  refine z_sipush C (zi 1000) dX9_quietIn_14 (by decide) ?_
  refine z_icmp_ge C 45 dX9_quietIn_17 (by decide) (fun q9 => ?_) (fun q9 => ?_)
  · rw [if_pos q9] at hf
    cases hf
    refine z_sub [0] rfl ?_
    exact hk.2.2 _ rfl
  · rw [if_neg q9] at hf
    refine z_aload_n C dX9_quietIn_20 rfl 0 rfl ?_
    obtain ⟨v4, hv4, hf⟩ := zbind hf
    refine gf_RX9_54 C hv4 dX9_quietIn_21 ?_
    obtain ⟨c5, hc5, hf⟩ := zbind hf
    obtain ⟨kc5, hc5⟩ := zck_ok hc5
    refine z_callVi (As := []) (F0 := 6) (L0 := 148) C (mX1_isQuiet l D Ca B En C.2.2.2.2.2.2.2.1 σ N v4  _ hc5) hRm kc5 rfl kw_852 kw_8 kw_849 kw_850 kw_851 hyX1_isQuiet (Nat.le_of_ble_eq_true rfl) (Nat.le_of_ble_eq_true rfl) rfl rfl (Nat.le_of_ble_eq_true rfl) dX9_quietIn_24 ?_
    refine z_if_eq C 32 dX9_quietIn_27 (by decide) (fun q8 => ?_) (fun q8 => ?_)
    · rw [if_pos q8] at hf
      refine z_aload_n C dX9_quietIn_32 rfl 0 rfl ?_
      obtain ⟨v6, hv6, hf⟩ := zbind hf
      refine gf_RX9_54 C hv6 dX9_quietIn_33 ?_
      obtain ⟨c7, hc7, hf⟩ := zbind hf
      obtain ⟨kc7, hc7⟩ := zck_ok hc7
      refine z_callVv (As := []) (F0 := 6) (L0 := 148) C (mX1_tick l D Ca B En C.2.2.2.2.2.2.2.1 c5.1 N v6  _ hc7) hRm kc7 rfl kw_736 kw_8 kw_853 kw_734 kw_735 hyX1_tick (Nat.le_of_ble_eq_true rfl) (Nat.le_of_ble_eq_true rfl) rfl rfl (Nat.le_of_ble_eq_true rfl) dX9_quietIn_36 ?_
      refine z_iinc (lv2 := [(1, .int (u1 + (zi 1))), (0, .ref x0)]) C (u1 + (zi 1)) dX9_quietIn_39 1 rfl rfl (by decide) rfl ?_
      refine z_goto C 13 dX9_quietIn_42 (by decide) ?_
      cases hf
      refine z_sub [1, 0] rfl ?_
      exact hk.1 _ rfl
    · rw [if_neg q8] at hf
      cases hf
      refine z_sub [1] rfl ?_
      exact hk.2.1 _ rfl

theorem wsX9_quietIn_13 (C : zC p s m args meth c cX9_quietIn RX9 2 D Ca B En) (hRm : zRm R 6 148 cells slots) (x0 : Nat) (n : Nat) (z : (zS × Int32)) (x : ((zS × Int32) ⊕ zS)) (hf : zloop (sX9_quietIn_13 x0) n z = some x) (hk : (∀ o : (zS × Int32), x = (.inl o) → zW p l e R s m args below meth c cells slots Q D Ca B 2 o.1 N 30 [(1, .int o.2)] []) ∧ (∀ o : zS, x = (.inr o) → zW p l e R s m args below meth c cells slots Q D Ca B 2 o N 45 [(0, .ref x0)] [])) : zW p l e R s m args below meth c cells slots Q D Ca B 2 z.1 N 13 [(0, .ref x0), (1, .int z.2)] [] := by
  refine zloop_W (P := fun z : (zS × Int32) => zW p l e R s m args below meth c cells slots Q D Ca B 2 z.1 N 13 [(0, .ref x0), (1, .int z.2)] []) (K := fun x : ((zS × Int32) ⊕ zS) => (∀ o : (zS × Int32), x = (.inl o) → zW p l e R s m args below meth c cells slots Q D Ca B 2 o.1 N 30 [(1, .int o.2)] []) ∧ (∀ o : zS, x = (.inr o) → zW p l e R s m args below meth c cells slots Q D Ca B 2 o N 45 [(0, .ref x0)] [])) ?_ n z x hf hk
  intro z y hy h1 h2
  refine wsX9_quietIn_13b C hRm x0 z.1 z.2 y hy ⟨fun z2 e => h1 z2 e, fun o e => (h2 _ e).1 o rfl, fun o e => (h2 _ e).2 o rfl⟩
set_option maxRecDepth 100000 in
set_option maxHeartbeats 4000000 in
theorem wfX9_quietIn (C : zC p s m args meth c cX9_quietIn RX9 2 D Ca B En) (hRm : zRm R 6 148 cells slots) (σ : zS) (x0 : Nat) (τ : zS) (r : Int32) (hf : fX9_quietIn σ x0 = some (τ, r)) (hq : ∀ (pc : Nat) (lv : List (Nat × Value)), decode cX9_quietIn pc = .ok (.ireturn, 1) → zW p l e R s m args below meth c cells slots Q D Ca B 2 τ N pc lv [.int r]) : zW p l e R s m args below meth c cells slots Q D Ca B 2 σ N 0 [(0, .ref x0)] [] := by
  unfold fX9_quietIn at hf
  refine z_aload_n C dX9_quietIn_0 rfl 0 rfl ?_
  obtain ⟨v1, hv1, hf⟩ := zbind hf
  refine gf_RX9_54 C hv1 dX9_quietIn_1 ?_
  refine z_aload_n C dX9_quietIn_4 rfl 0 rfl ?_
  obtain ⟨v2, hv2, hf⟩ := zbind hf
  refine gf_RX9_50 C hv2 dX9_quietIn_5 ?_
  obtain ⟨c3, hc3, hf⟩ := zbind hf
  obtain ⟨kc3, hc3⟩ := zck_ok hc3
  refine z_callVv (As := [.ref v2]) (F0 := 6) (L0 := 148) C (mX1_copyFrom l D Ca B En C.2.2.2.2.2.2.2.1 σ N v1 v2 _ hc3) hRm kc3 rfl kw_700 kw_8 kw_718 kw_698 kw_699 hyX1_copyFrom (Nat.le_of_ble_eq_true rfl) (Nat.le_of_ble_eq_true rfl) rfl rfl (Nat.le_of_ble_eq_true rfl) dX9_quietIn_8 ?_
  refine z_iconst C (zi 0) dX9_quietIn_11 (by decide) ?_
  refine z_istore_n (lv2 := [(1, .int ((zi 0))), (0, .ref x0)]) C dX9_quietIn_12 rfl (by decide) rfl ?_
  obtain ⟨o10, ho10, hf⟩ := zbind hf
  refine z_sub [1, 0] rfl ?_
  refine wsX9_quietIn_13 C hRm _ zfuel (c3, (zi 0)) o10 ho10 ⟨?_, ?_⟩
  · intro z11 e9
    subst e9
    dsimp only at hf
    refine z_iload_n C dX9_quietIn_30 rfl 0 rfl ?_
    cases hf
    exact hq _ _ dX9_quietIn_31
  · intro z12 e9
    subst e9
    dsimp only at hf
    refine z_aload_n C dX9_quietIn_45 rfl 0 rfl ?_
    obtain ⟨v13, hv13, hf⟩ := zbind hf
    refine gf_RX9_54 C hv13 dX9_quietIn_46 ?_
    obtain ⟨c14, hc14, hf⟩ := zbind hf
    obtain ⟨kc14, hc14⟩ := zck_ok hc14
    refine z_callVi (As := []) (F0 := 6) (L0 := 148) C (mX1_isQuiet l D Ca B En C.2.2.2.2.2.2.2.1 z12 N v13  _ hc14) hRm kc14 rfl kw_852 kw_8 kw_849 kw_850 kw_851 hyX1_isQuiet (Nat.le_of_ble_eq_true rfl) (Nat.le_of_ble_eq_true rfl) rfl rfl (Nat.le_of_ble_eq_true rfl) dX9_quietIn_49 ?_
    refine z_if_eq C 61 dX9_quietIn_52 (by decide) (fun q15 => ?_) (fun q15 => ?_)
    · rw [if_pos q15] at hf
      refine z_iconst C (zi (-1)) dX9_quietIn_61 (by decide) ?_
      cases hf
      exact hq _ _ dX9_quietIn_62
    · rw [if_neg q15] at hf
      refine z_sipush C (zi 1000) dX9_quietIn_55 (by decide) ?_
      refine z_goto C 62 dX9_quietIn_58 (by decide) ?_
      cases hf
      exact hq _ _ dX9_quietIn_62

theorem mX9_quietIn (l : Launch) (D : va_G) (Ca : Nat → ClassId) (B : Nat) (En : State → Prop) (hE : zEk B En) (σ : zS) (N : Nat) (x0 : Nat) (X : zS × Int32) (hf : fX9_quietIn σ x0 = some X) : zMi l D Ca B En yX9_quietIn cX9_quietIn 2 (Option.some Jvm.ClassFile.FieldType.int) 6 148 [.ref x0] σ N X.1 X.2 :=
  zMet_i (own := RX9) hE (by decide +kernel) rfl (Nat.le_of_ble_eq_true rfl) (fun p e s m args below meth c C hr hRm => wfX9_quietIn C hRm σ x0 X.1 X.2 hf (fun pc lv hd => zfin_i C hr hd))
theorem dX9_outputByte_0 : decode cX9_outputByte 0 = .ok (.iload_n 1, 1) := by decide +kernel
theorem dX9_outputByte_1 : decode cX9_outputByte 1 = .ok (.ifCond .lt 26, 3) := by decide +kernel
theorem dX9_outputByte_4 : decode cX9_outputByte 4 = .ok (.iload_n 1, 1) := by decide +kernel
theorem dX9_outputByte_5 : decode cX9_outputByte 5 = .ok (.aload_n 0, 1) := by decide +kernel
theorem dX9_outputByte_6 : decode cX9_outputByte 6 = .ok (.getfield 28, 3) := by decide +kernel
theorem dX9_outputByte_9 : decode cX9_outputByte 9 = .ok (.getfield 334, 3) := by decide +kernel
theorem dX9_outputByte_12 : decode cX9_outputByte 12 = .ok (.if_icmp .ge 15, 3) := by decide +kernel
theorem dX9_outputByte_15 : decode cX9_outputByte 15 = .ok (.aload_n 0, 1) := by decide +kernel
theorem dX9_outputByte_16 : decode cX9_outputByte 16 = .ok (.getfield 28, 3) := by decide +kernel
theorem dX9_outputByte_19 : decode cX9_outputByte 19 = .ok (.getfield 341, 3) := by decide +kernel
theorem dX9_outputByte_22 : decode cX9_outputByte 22 = .ok (.iload_n 1, 1) := by decide +kernel
theorem dX9_outputByte_23 : decode cX9_outputByte 23 = .ok (.baload, 1) := by decide +kernel
theorem dX9_outputByte_24 : decode cX9_outputByte 24 = .ok (.goto 4, 3) := by decide +kernel
theorem dX9_outputByte_27 : decode cX9_outputByte 27 = .ok (.iconst (-1), 1) := by decide +kernel
theorem dX9_outputByte_28 : decode cX9_outputByte 28 = .ok (.ireturn, 1) := by decide +kernel
theorem hyX9_outputByte : yX9_outputByte.cls ≠ "java/lang/invoke/MethodHandle" ∧ yX9_outputByte.cls ≠ "java/lang/invoke/VarHandle" ∧ (parseMethodDescriptor yX9_outputByte.desc).map (fun d => d.parameters.length) = some 1 := ⟨by decide +kernel, by decide +kernel, by decide +kernel⟩
set_option maxRecDepth 100000 in
set_option maxHeartbeats 4000000 in
theorem wfX9_outputByte (C : zC p s m args meth c cX9_outputByte RX9 2 D Ca B En) (hRm : zRm R 0 0 cells slots) (σ : zS) (x0 : Nat) (x1 : Int32) (τ : zS) (r : Int32) (hf : fX9_outputByte σ x0 x1 = some (τ, r)) (hq : ∀ (pc : Nat) (lv : List (Nat × Value)), decode cX9_outputByte pc = .ok (.ireturn, 1) → zW p l e R s m args below meth c cells slots Q D Ca B 2 τ N pc lv [.int r]) : zW p l e R s m args below meth c cells slots Q D Ca B 2 σ N 0 [(0, .ref x0), (1, .int x1)] [] := by
  unfold fX9_outputByte at hf
  refine z_iload_n C dX9_outputByte_0 rfl 1 rfl ?_
  refine z_if_lt C 27 dX9_outputByte_1 (by decide) (fun q7 => ?_) (fun q7 => ?_)
  · rw [if_pos q7] at hf
    refine z_iconst C (zi (-1)) dX9_outputByte_27 (by decide) ?_
    cases hf
    exact hq _ _ dX9_outputByte_28
  · rw [if_neg q7] at hf
    refine z_iload_n C dX9_outputByte_4 rfl 1 rfl ?_
    refine z_aload_n C dX9_outputByte_5 rfl 0 rfl ?_
    obtain ⟨v1, hv1, hf⟩ := zbind hf
    refine gf_RX9_28 C hv1 dX9_outputByte_6 ?_
    obtain ⟨v2, hv2, hf⟩ := zbind hf
    refine gf_RX9_334 C hv2 dX9_outputByte_9 ?_
    refine z_icmp_ge C 27 dX9_outputByte_12 (by decide) (fun q6 => ?_) (fun q6 => ?_)
    · rw [if_pos q6] at hf
      refine z_iconst C (zi (-1)) dX9_outputByte_27 (by decide) ?_
      cases hf
      exact hq _ _ dX9_outputByte_28
    · rw [if_neg q6] at hf
      refine z_aload_n C dX9_outputByte_15 rfl 0 rfl ?_
      obtain ⟨v3, hv3, hf⟩ := zbind hf
      refine gf_RX9_28 C hv3 dX9_outputByte_16 ?_
      obtain ⟨v4, hv4, hf⟩ := zbind hf
      refine gf_RX9_341 C hv4 dX9_outputByte_19 ?_
      refine z_iload_n C dX9_outputByte_22 rfl 1 rfl ?_
      obtain ⟨v5, hv5, hf⟩ := zbind hf
      refine z_aB C hv5 dX9_outputByte_23 ?_
      refine z_goto C 28 dX9_outputByte_24 (by decide) ?_
      cases hf
      exact hq _ _ dX9_outputByte_28

theorem mX9_outputByte (l : Launch) (D : va_G) (Ca : Nat → ClassId) (B : Nat) (En : State → Prop) (hE : zEk B En) (σ : zS) (N : Nat) (x0 : Nat) (x1 : Int32) (X : zS × Int32) (hf : fX9_outputByte σ x0 x1 = some X) : zMi l D Ca B En yX9_outputByte cX9_outputByte 2 (Option.some Jvm.ClassFile.FieldType.int) 0 0 [.ref x0, .int x1] σ N X.1 X.2 :=
  zMet_i (own := RX9) hE (by decide +kernel) rfl (Nat.le_of_ble_eq_true rfl) (fun p e s m args below meth c C hr hRm => wfX9_outputByte C hRm σ x0 x1 X.1 X.2 hf (fun pc lv hd => zfin_i C hr hd))
theorem dX9_saveState_0 : decode cX9_saveState 0 = .ok (.aload_n 0, 1) := by decide +kernel
theorem dX9_saveState_1 : decode cX9_saveState 1 = .ok (.getfield 57, 3) := by decide +kernel
theorem dX9_saveState_4 : decode cX9_saveState 4 = .ok (.aload_n 0, 1) := by decide +kernel
theorem dX9_saveState_5 : decode cX9_saveState 5 = .ok (.getfield 50, 3) := by decide +kernel
theorem dX9_saveState_8 : decode cX9_saveState 8 = .ok (.invokevirtual 325, 3) := by decide +kernel
theorem dX9_saveState_11 : decode cX9_saveState 11 = .ok (.aload_n 0, 1) := by decide +kernel
theorem dX9_saveState_12 : decode cX9_saveState 12 = .ok (.iconst 1, 1) := by decide +kernel
theorem dX9_saveState_13 : decode cX9_saveState 13 = .ok (.putfield 85, 3) := by decide +kernel
theorem dX9_saveState_16 : decode cX9_saveState 16 = .ok (.aload_n 0, 1) := by decide +kernel
theorem dX9_saveState_17 : decode cX9_saveState 17 = .ok (.getfield 50, 3) := by decide +kernel
theorem dX9_saveState_20 : decode cX9_saveState 20 = .ok (.getfield 110, 3) := by decide +kernel
theorem dX9_saveState_23 : decode cX9_saveState 23 = .ok (.ireturn, 1) := by decide +kernel
theorem hyX9_saveState : yX9_saveState.cls ≠ "java/lang/invoke/MethodHandle" ∧ yX9_saveState.cls ≠ "java/lang/invoke/VarHandle" ∧ (parseMethodDescriptor yX9_saveState.desc).map (fun d => d.parameters.length) = some 0 := ⟨by decide +kernel, by decide +kernel, by decide +kernel⟩
set_option maxRecDepth 100000 in
set_option maxHeartbeats 4000000 in
theorem wfX9_saveState (C : zC p s m args meth c cX9_saveState RX9 1 D Ca B En) (hRm : zRm R 5 148 cells slots) (σ : zS) (x0 : Nat) (τ : zS) (r : Int32) (hf : fX9_saveState σ x0 = some (τ, r)) (hq : ∀ (pc : Nat) (lv : List (Nat × Value)), decode cX9_saveState pc = .ok (.ireturn, 1) → zW p l e R s m args below meth c cells slots Q D Ca B 1 τ N pc lv [.int r]) : zW p l e R s m args below meth c cells slots Q D Ca B 1 σ N 0 [(0, .ref x0)] [] := by
  unfold fX9_saveState at hf
  refine z_aload_n C dX9_saveState_0 rfl 0 rfl ?_
  obtain ⟨v1, hv1, hf⟩ := zbind hf
  refine gf_RX9_57 C hv1 dX9_saveState_1 ?_
  refine z_aload_n C dX9_saveState_4 rfl 0 rfl ?_
  obtain ⟨v2, hv2, hf⟩ := zbind hf
  refine gf_RX9_50 C hv2 dX9_saveState_5 ?_
  obtain ⟨c3, hc3, hf⟩ := zbind hf
  obtain ⟨kc3, hc3⟩ := zck_ok hc3
  refine z_callVv (As := [.ref v2]) (F0 := 5) (L0 := 148) C (mX1_copyFrom l D Ca B En C.2.2.2.2.2.2.2.1 σ N v1 v2 _ hc3) hRm kc3 rfl kw_700 kw_8 kw_718 kw_698 kw_699 hyX1_copyFrom (Nat.le_of_ble_eq_true rfl) (Nat.le_of_ble_eq_true rfl) rfl rfl (Nat.le_of_ble_eq_true rfl) dX9_saveState_8 ?_
  refine z_aload_n C dX9_saveState_11 rfl 0 rfl ?_
  refine z_iconst C (zi 1) dX9_saveState_12 (by decide) ?_
  obtain ⟨σ4, hσ4, hf⟩ := zbind hf
  refine gp_RX9_85 C hσ4 dX9_saveState_13 ?_
  refine z_aload_n C dX9_saveState_16 rfl 0 rfl ?_
  obtain ⟨v5, hv5, hf⟩ := zbind hf
  refine gf_RX9_50 C hv5 dX9_saveState_17 ?_
  obtain ⟨v6, hv6, hf⟩ := zbind hf
  refine gf_RX9_110 C hv6 dX9_saveState_20 ?_
  cases hf
  exact hq _ _ dX9_saveState_23

theorem mX9_saveState (l : Launch) (D : va_G) (Ca : Nat → ClassId) (B : Nat) (En : State → Prop) (hE : zEk B En) (σ : zS) (N : Nat) (x0 : Nat) (X : zS × Int32) (hf : fX9_saveState σ x0 = some X) : zMi l D Ca B En yX9_saveState cX9_saveState 1 (Option.some Jvm.ClassFile.FieldType.int) 5 148 [.ref x0] σ N X.1 X.2 :=
  zMet_i (own := RX9) hE (by decide +kernel) rfl (Nat.le_of_ble_eq_true rfl) (fun p e s m args below meth c C hr hRm => wfX9_saveState C hRm σ x0 X.1 X.2 hf (fun pc lv hd => zfin_i C hr hd))
theorem dX10_clears_0 : decode cX10_clears 0 = .ok (.aload_n 0, 1) := by decide +kernel
theorem dX10_clears_1 : decode cX10_clears 1 = .ok (.iconst 0, 1) := by decide +kernel
theorem dX10_clears_2 : decode cX10_clears 2 = .ok (.putfield 63, 3) := by decide +kernel
theorem dX10_clears_5 : decode cX10_clears 5 = .ok (.aload_n 0, 1) := by decide +kernel
theorem dX10_clears_6 : decode cX10_clears 6 = .ok (.iconst 1, 1) := by decide +kernel
theorem dX10_clears_7 : decode cX10_clears 7 = .ok (.putfield 69, 3) := by decide +kernel
theorem dX10_clears_10 : decode cX10_clears 10 = .ok (.aload_n 0, 1) := by decide +kernel
theorem dX10_clears_11 : decode cX10_clears 11 = .ok (.iconst 0, 1) := by decide +kernel
theorem dX10_clears_12 : decode cX10_clears 12 = .ok (.putfield 72, 3) := by decide +kernel
theorem dX10_clears_15 : decode cX10_clears 15 = .ok (.iconst 0, 1) := by decide +kernel
theorem dX10_clears_16 : decode cX10_clears 16 = .ok (.istore_n 1, 1) := by decide +kernel
theorem dX10_clears_17 : decode cX10_clears 17 = .ok (.iload_n 1, 1) := by decide +kernel
theorem dX10_clears_18 : decode cX10_clears 18 = .ok (.ldc 20, 2) := by decide +kernel
theorem dX10_clears_20 : decode cX10_clears 20 = .ok (.if_icmp .ge 16, 3) := by decide +kernel
theorem dX10_clears_23 : decode cX10_clears 23 = .ok (.aload_n 0, 1) := by decide +kernel
theorem dX10_clears_24 : decode cX10_clears 24 = .ok (.getfield 24, 3) := by decide +kernel
theorem dX10_clears_27 : decode cX10_clears 27 = .ok (.iload_n 1, 1) := by decide +kernel
theorem dX10_clears_28 : decode cX10_clears 28 = .ok (.iconst 0, 1) := by decide +kernel
theorem dX10_clears_29 : decode cX10_clears 29 = .ok (.iastore, 1) := by decide +kernel
theorem dX10_clears_30 : decode cX10_clears 30 = .ok (.iinc 1 1, 3) := by decide +kernel
theorem dX10_clears_33 : decode cX10_clears 33 = .ok (.goto (-16), 3) := by decide +kernel
theorem dX10_clears_36 : decode cX10_clears 36 = .ok (.aload_n 0, 1) := by decide +kernel
theorem dX10_clears_37 : decode cX10_clears 37 = .ok (.getfield 24, 3) := by decide +kernel
theorem dX10_clears_40 : decode cX10_clears 40 = .ok (.iconst 1, 1) := by decide +kernel
theorem dX10_clears_41 : decode cX10_clears 41 = .ok (.iconst 1, 1) := by decide +kernel
theorem dX10_clears_42 : decode cX10_clears 42 = .ok (.iastore, 1) := by decide +kernel
theorem dX10_clears_43 : decode cX10_clears 43 = .ok (.aload_n 0, 1) := by decide +kernel
theorem dX10_clears_44 : decode cX10_clears 44 = .ok (.getfield 24, 3) := by decide +kernel
theorem dX10_clears_47 : decode cX10_clears 47 = .ok (.iconst 2, 1) := by decide +kernel
theorem dX10_clears_48 : decode cX10_clears 48 = .ok (.iconst 4, 1) := by decide +kernel
theorem dX10_clears_49 : decode cX10_clears 49 = .ok (.iastore, 1) := by decide +kernel
theorem dX10_clears_50 : decode cX10_clears 50 = .ok (.iconst 0, 1) := by decide +kernel
theorem dX10_clears_51 : decode cX10_clears 51 = .ok (.istore_n 1, 1) := by decide +kernel
theorem dX10_clears_52 : decode cX10_clears 52 = .ok (.iload_n 1, 1) := by decide +kernel
theorem dX10_clears_53 : decode cX10_clears 53 = .ok (.iconst 4, 1) := by decide +kernel
theorem dX10_clears_54 : decode cX10_clears 54 = .ok (.if_icmp .ge 19, 3) := by decide +kernel
theorem dX10_clears_57 : decode cX10_clears 57 = .ok (.aload_n 0, 1) := by decide +kernel
theorem dX10_clears_58 : decode cX10_clears 58 = .ok (.getfield 24, 3) := by decide +kernel
theorem dX10_clears_61 : decode cX10_clears 61 = .ok (.bipush 37, 2) := by decide +kernel
theorem dX10_clears_63 : decode cX10_clears 63 = .ok (.iload_n 1, 1) := by decide +kernel
theorem dX10_clears_64 : decode cX10_clears 64 = .ok (.iadd, 1) := by decide +kernel
theorem dX10_clears_65 : decode cX10_clears 65 = .ok (.iconst (-1), 1) := by decide +kernel
theorem dX10_clears_66 : decode cX10_clears 66 = .ok (.iastore, 1) := by decide +kernel
theorem dX10_clears_67 : decode cX10_clears 67 = .ok (.iinc 1 1, 3) := by decide +kernel
theorem dX10_clears_70 : decode cX10_clears 70 = .ok (.goto (-18), 3) := by decide +kernel
theorem dX10_clears_73 : decode cX10_clears 73 = .ok (.iconst 0, 1) := by decide +kernel
theorem dX10_clears_74 : decode cX10_clears 74 = .ok (.istore_n 1, 1) := by decide +kernel
theorem dX10_clears_75 : decode cX10_clears 75 = .ok (.iload_n 1, 1) := by decide +kernel
theorem dX10_clears_76 : decode cX10_clears 76 = .ok (.iconst 2, 1) := by decide +kernel
theorem dX10_clears_77 : decode cX10_clears 77 = .ok (.if_icmp .ge 19, 3) := by decide +kernel
theorem dX10_clears_80 : decode cX10_clears 80 = .ok (.aload_n 0, 1) := by decide +kernel
theorem dX10_clears_81 : decode cX10_clears 81 = .ok (.getfield 24, 3) := by decide +kernel
theorem dX10_clears_84 : decode cX10_clears 84 = .ok (.bipush 41, 2) := by decide +kernel
theorem dX10_clears_86 : decode cX10_clears 86 = .ok (.iload_n 1, 1) := by decide +kernel
theorem dX10_clears_87 : decode cX10_clears 87 = .ok (.iadd, 1) := by decide +kernel
theorem dX10_clears_88 : decode cX10_clears 88 = .ok (.iconst (-1), 1) := by decide +kernel
theorem dX10_clears_89 : decode cX10_clears 89 = .ok (.iastore, 1) := by decide +kernel
theorem dX10_clears_90 : decode cX10_clears 90 = .ok (.iinc 1 1, 3) := by decide +kernel
theorem dX10_clears_93 : decode cX10_clears 93 = .ok (.goto (-18), 3) := by decide +kernel
theorem dX10_clears_96 : decode cX10_clears 96 = .ok (.return_, 1) := by decide +kernel
theorem hyX10_clears : yX10_clears.cls ≠ "java/lang/invoke/MethodHandle" ∧ yX10_clears.cls ≠ "java/lang/invoke/VarHandle" ∧ (parseMethodDescriptor yX10_clears.desc).map (fun d => d.parameters.length) = some 0 := ⟨by decide +kernel, by decide +kernel, by decide +kernel⟩
set_option maxRecDepth 100000 in
set_option maxHeartbeats 4000000 in
theorem wsX10_clears_17b (C : zC p s m args meth c cX10_clears RX10 2 D Ca B En) (hRm : zRm R 0 0 cells slots) (x0 : Nat) (σ : zS) (u1 : Int32) (y : (zS × Int32) ⊕ zS) (hf : sX10_clears_17b x0 σ u1 = some y) (hk : (∀ z : (zS × Int32), y = .inl z → zW p l e R s m args below meth c cells slots Q D Ca B 2 z.1 N 17 [(0, .ref x0), (1, .int z.2)] []) ∧ (∀ z : zS, y = .inr z → zW p l e R s m args below meth c cells slots Q D Ca B 2 z N 36 [(0, .ref x0)] [])) : zW p l e R s m args below meth c cells slots Q D Ca B 2 σ N 17 [(0, .ref x0), (1, .int u1)] [] := by
  unfold sX10_clears_17b at hf
  refine z_iload_n C dX10_clears_17 rfl 1 rfl ?_
  refine z_ldc C kw_1251 (zi 33894) (by decide) dX10_clears_18 ?_
  refine z_icmp_ge C 36 dX10_clears_20 (by decide) (fun q6 => ?_) (fun q6 => ?_)
  · rw [if_pos q6] at hf
    cases hf
    refine z_sub [0] rfl ?_
    exact hk.2 _ rfl
  · rw [if_neg q6] at hf
    refine z_aload_n C dX10_clears_23 rfl 0 rfl ?_
    obtain ⟨v4, hv4, hf⟩ := zbind hf
    refine gf_RX10_24 C hv4 dX10_clears_24 ?_
    refine z_iload_n C dX10_clears_27 rfl 1 rfl ?_
    refine z_iconst C (zi 0) dX10_clears_28 (by decide) ?_
    obtain ⟨σ5, hσ5, hf⟩ := zbind hf
    refine z_sI C hσ5 dX10_clears_29 ?_
    refine z_iinc (lv2 := [(1, .int (u1 + (zi 1))), (0, .ref x0)]) C (u1 + (zi 1)) dX10_clears_30 1 rfl rfl (by decide) rfl ?_
    refine z_goto C 17 dX10_clears_33 (by decide) ?_
    cases hf
    refine z_sub [1, 0] rfl ?_
    exact hk.1 _ rfl

theorem wsX10_clears_17 (C : zC p s m args meth c cX10_clears RX10 2 D Ca B En) (hRm : zRm R 0 0 cells slots) (x0 : Nat) (n : Nat) (z : (zS × Int32)) (x : zS) (hf : zloop (sX10_clears_17 x0) n z = some x) (hk : (∀ o : zS, x = o → zW p l e R s m args below meth c cells slots Q D Ca B 2 o N 36 [(0, .ref x0)] [])) : zW p l e R s m args below meth c cells slots Q D Ca B 2 z.1 N 17 [(0, .ref x0), (1, .int z.2)] [] := by
  refine zloop_W (P := fun z : (zS × Int32) => zW p l e R s m args below meth c cells slots Q D Ca B 2 z.1 N 17 [(0, .ref x0), (1, .int z.2)] []) (K := fun x : zS => (∀ o : zS, x = o → zW p l e R s m args below meth c cells slots Q D Ca B 2 o N 36 [(0, .ref x0)] [])) ?_ n z x hf hk
  intro z y hy h1 h2
  refine wsX10_clears_17b C hRm x0 z.1 z.2 y hy ⟨fun z2 e => h1 z2 e, fun o e => (h2 _ e) o rfl⟩
set_option maxRecDepth 100000 in
set_option maxHeartbeats 4000000 in
theorem wsX10_clears_52b (C : zC p s m args meth c cX10_clears RX10 2 D Ca B En) (hRm : zRm R 0 0 cells slots) (x0 : Nat) (σ : zS) (u1 : Int32) (y : (zS × Int32) ⊕ zS) (hf : sX10_clears_52b x0 σ u1 = some y) (hk : (∀ z : (zS × Int32), y = .inl z → zW p l e R s m args below meth c cells slots Q D Ca B 2 z.1 N 52 [(0, .ref x0), (1, .int z.2)] []) ∧ (∀ z : zS, y = .inr z → zW p l e R s m args below meth c cells slots Q D Ca B 2 z N 73 [(0, .ref x0)] [])) : zW p l e R s m args below meth c cells slots Q D Ca B 2 σ N 52 [(0, .ref x0), (1, .int u1)] [] := by
  unfold sX10_clears_52b at hf
  refine z_iload_n C dX10_clears_52 rfl 1 rfl ?_
  refine z_iconst C (zi 4) dX10_clears_53 (by decide) ?_
  refine z_icmp_ge C 73 dX10_clears_54 (by decide) (fun q14 => ?_) (fun q14 => ?_)
  · rw [if_pos q14] at hf
    cases hf
    refine z_sub [0] rfl ?_
    exact hk.2 _ rfl
  · rw [if_neg q14] at hf
    refine z_aload_n C dX10_clears_57 rfl 0 rfl ?_
    obtain ⟨v12, hv12, hf⟩ := zbind hf
    refine gf_RX10_24 C hv12 dX10_clears_58 ?_
    refine z_bipush C (zi 37) dX10_clears_61 (by decide) ?_
    refine z_iload_n C dX10_clears_63 rfl 1 rfl ?_
    refine z_iadd C dX10_clears_64 ?_
    refine z_iconst C (zi (-1)) dX10_clears_65 (by decide) ?_
    obtain ⟨σ13, hσ13, hf⟩ := zbind hf
    refine z_sI C hσ13 dX10_clears_66 ?_
    refine z_iinc (lv2 := [(1, .int (u1 + (zi 1))), (0, .ref x0)]) C (u1 + (zi 1)) dX10_clears_67 1 rfl rfl (by decide) rfl ?_
    refine z_goto C 52 dX10_clears_70 (by decide) ?_
    cases hf
    refine z_sub [1, 0] rfl ?_
    exact hk.1 _ rfl

theorem wsX10_clears_52 (C : zC p s m args meth c cX10_clears RX10 2 D Ca B En) (hRm : zRm R 0 0 cells slots) (x0 : Nat) (n : Nat) (z : (zS × Int32)) (x : zS) (hf : zloop (sX10_clears_52 x0) n z = some x) (hk : (∀ o : zS, x = o → zW p l e R s m args below meth c cells slots Q D Ca B 2 o N 73 [(0, .ref x0)] [])) : zW p l e R s m args below meth c cells slots Q D Ca B 2 z.1 N 52 [(0, .ref x0), (1, .int z.2)] [] := by
  refine zloop_W (P := fun z : (zS × Int32) => zW p l e R s m args below meth c cells slots Q D Ca B 2 z.1 N 52 [(0, .ref x0), (1, .int z.2)] []) (K := fun x : zS => (∀ o : zS, x = o → zW p l e R s m args below meth c cells slots Q D Ca B 2 o N 73 [(0, .ref x0)] [])) ?_ n z x hf hk
  intro z y hy h1 h2
  refine wsX10_clears_52b C hRm x0 z.1 z.2 y hy ⟨fun z2 e => h1 z2 e, fun o e => (h2 _ e) o rfl⟩
set_option maxRecDepth 100000 in
set_option maxHeartbeats 4000000 in
theorem wsX10_clears_75b (C : zC p s m args meth c cX10_clears RX10 2 D Ca B En) (hRm : zRm R 0 0 cells slots) (x0 : Nat) (σ : zS) (u1 : Int32) (y : (zS × Int32) ⊕ zS) (hf : sX10_clears_75b x0 σ u1 = some y) (hk : (∀ z : (zS × Int32), y = .inl z → zW p l e R s m args below meth c cells slots Q D Ca B 2 z.1 N 75 [(0, .ref x0), (1, .int z.2)] []) ∧ (∀ z : zS, y = .inr z → zW p l e R s m args below meth c cells slots Q D Ca B 2 z N 96 [] [])) : zW p l e R s m args below meth c cells slots Q D Ca B 2 σ N 75 [(0, .ref x0), (1, .int u1)] [] := by
  unfold sX10_clears_75b at hf
  refine z_iload_n C dX10_clears_75 rfl 1 rfl ?_
  refine z_iconst C (zi 2) dX10_clears_76 (by decide) ?_
  refine z_icmp_ge C 96 dX10_clears_77 (by decide) (fun q18 => ?_) (fun q18 => ?_)
  · rw [if_pos q18] at hf
    cases hf
    refine z_sub [] rfl ?_
    exact hk.2 _ rfl
  · rw [if_neg q18] at hf
    refine z_aload_n C dX10_clears_80 rfl 0 rfl ?_
    obtain ⟨v16, hv16, hf⟩ := zbind hf
    refine gf_RX10_24 C hv16 dX10_clears_81 ?_
    refine z_bipush C (zi 41) dX10_clears_84 (by decide) ?_
    refine z_iload_n C dX10_clears_86 rfl 1 rfl ?_
    refine z_iadd C dX10_clears_87 ?_
    refine z_iconst C (zi (-1)) dX10_clears_88 (by decide) ?_
    obtain ⟨σ17, hσ17, hf⟩ := zbind hf
    refine z_sI C hσ17 dX10_clears_89 ?_
    refine z_iinc (lv2 := [(1, .int (u1 + (zi 1))), (0, .ref x0)]) C (u1 + (zi 1)) dX10_clears_90 1 rfl rfl (by decide) rfl ?_
    refine z_goto C 75 dX10_clears_93 (by decide) ?_
    cases hf
    refine z_sub [1, 0] rfl ?_
    exact hk.1 _ rfl

theorem wsX10_clears_75 (C : zC p s m args meth c cX10_clears RX10 2 D Ca B En) (hRm : zRm R 0 0 cells slots) (x0 : Nat) (n : Nat) (z : (zS × Int32)) (x : zS) (hf : zloop (sX10_clears_75 x0) n z = some x) (hk : (∀ o : zS, x = o → zW p l e R s m args below meth c cells slots Q D Ca B 2 o N 96 [] [])) : zW p l e R s m args below meth c cells slots Q D Ca B 2 z.1 N 75 [(0, .ref x0), (1, .int z.2)] [] := by
  refine zloop_W (P := fun z : (zS × Int32) => zW p l e R s m args below meth c cells slots Q D Ca B 2 z.1 N 75 [(0, .ref x0), (1, .int z.2)] []) (K := fun x : zS => (∀ o : zS, x = o → zW p l e R s m args below meth c cells slots Q D Ca B 2 o N 96 [] [])) ?_ n z x hf hk
  intro z y hy h1 h2
  refine wsX10_clears_75b C hRm x0 z.1 z.2 y hy ⟨fun z2 e => h1 z2 e, fun o e => (h2 _ e) o rfl⟩
set_option maxRecDepth 100000 in
set_option maxHeartbeats 4000000 in
theorem wfX10_clears (C : zC p s m args meth c cX10_clears RX10 2 D Ca B En) (hRm : zRm R 0 0 cells slots) (σ : zS) (x0 : Nat) (τ : zS) (hf : fX10_clears σ x0 = some τ) (hq : ∀ (pc : Nat) (lv : List (Nat × Value)), decode cX10_clears pc = .ok (.return_, 1) → zW p l e R s m args below meth c cells slots Q D Ca B 2 τ N pc lv []) : zW p l e R s m args below meth c cells slots Q D Ca B 2 σ N 0 [(0, .ref x0)] [] := by
  unfold fX10_clears at hf
  refine z_aload_n C dX10_clears_0 rfl 0 rfl ?_
  refine z_iconst C (zi 0) dX10_clears_1 (by decide) ?_
  obtain ⟨σ1, hσ1, hf⟩ := zbind hf
  refine gp_RX10_63 C hσ1 dX10_clears_2 ?_
  refine z_aload_n C dX10_clears_5 rfl 0 rfl ?_
  refine z_iconst C (zi 1) dX10_clears_6 (by decide) ?_
  obtain ⟨σ2, hσ2, hf⟩ := zbind hf
  refine gp_RX10_69 C hσ2 dX10_clears_7 ?_
  refine z_aload_n C dX10_clears_10 rfl 0 rfl ?_
  refine z_iconst C (zi 0) dX10_clears_11 (by decide) ?_
  obtain ⟨σ3, hσ3, hf⟩ := zbind hf
  refine gp_RX10_72 C hσ3 dX10_clears_12 ?_
  refine z_iconst C (zi 0) dX10_clears_15 (by decide) ?_
  refine z_istore_n (lv2 := [(1, .int ((zi 0))), (0, .ref x0)]) C dX10_clears_16 rfl (by decide) rfl ?_
  obtain ⟨o7, ho7, hf⟩ := zbind hf
  refine z_sub [1, 0] rfl ?_
  refine wsX10_clears_17 C hRm _ zfuel (σ3, (zi 0)) o7 ho7 ?_
  intro z9 e9
  subst e9
  refine z_aload_n C dX10_clears_36 rfl 0 rfl ?_
  obtain ⟨v8, hv8, hf⟩ := zbind hf
  refine gf_RX10_24 C hv8 dX10_clears_37 ?_
  refine z_iconst C (zi 1) dX10_clears_40 (by decide) ?_
  refine z_iconst C (zi 1) dX10_clears_41 (by decide) ?_
  obtain ⟨σ9, hσ9, hf⟩ := zbind hf
  refine z_sI C hσ9 dX10_clears_42 ?_
  refine z_aload_n C dX10_clears_43 rfl 0 rfl ?_
  obtain ⟨v10, hv10, hf⟩ := zbind hf
  refine gf_RX10_24 C hv10 dX10_clears_44 ?_
  refine z_iconst C (zi 2) dX10_clears_47 (by decide) ?_
  refine z_iconst C (zi 4) dX10_clears_48 (by decide) ?_
  obtain ⟨σ11, hσ11, hf⟩ := zbind hf
  refine z_sI C hσ11 dX10_clears_49 ?_
  refine z_iconst C (zi 0) dX10_clears_50 (by decide) ?_
  refine z_istore_n (lv2 := [(1, .int ((zi 0))), (0, .ref x0)]) C dX10_clears_51 rfl (by decide) rfl ?_
  obtain ⟨o15, ho15, hf⟩ := zbind hf
  refine z_sub [1, 0] rfl ?_
  refine wsX10_clears_52 C hRm _ zfuel (σ11, (zi 0)) o15 ho15 ?_
  intro z9 e9
  subst e9
  refine z_iconst C (zi 0) dX10_clears_73 (by decide) ?_
  refine z_istore_n (lv2 := [(1, .int ((zi 0))), (0, .ref x0)]) C dX10_clears_74 rfl (by decide) rfl ?_
  obtain ⟨o19, ho19, hf⟩ := zbind hf
  refine z_sub [1, 0] rfl ?_
  refine wsX10_clears_75 C hRm _ zfuel (o15, (zi 0)) o19 ho19 ?_
  intro z9 e9
  subst e9
  cases hf
  exact hq _ _ dX10_clears_96

theorem mX10_clears (l : Launch) (D : va_G) (Ca : Nat → ClassId) (B : Nat) (En : State → Prop) (hE : zEk B En) (σ : zS) (N : Nat) (x0 : Nat) (X : zS) (hf : fX10_clears σ x0 = some X) : zMv l D Ca B En yX10_clears cX10_clears 2 (Option.none : Option Jvm.ClassFile.FieldType) 0 0 [.ref x0] σ N X () :=
  zMet_v (own := RX10) hE (by decide +kernel) rfl (Nat.le_of_ble_eq_true rfl) (fun p e s m args below meth c C hr hRm => wfX10_clears C hRm σ x0 X hf (fun pc lv hd => zfin_v (r := ()) C hr hd))
theorem dX10_copies_0 : decode cX10_copies 0 = .ok (.iconst 0, 1) := by decide +kernel
theorem dX10_copies_1 : decode cX10_copies 1 = .ok (.istore_n 2, 1) := by decide +kernel
theorem dX10_copies_2 : decode cX10_copies 2 = .ok (.iload_n 2, 1) := by decide +kernel
theorem dX10_copies_3 : decode cX10_copies 3 = .ok (.ldc 20, 2) := by decide +kernel
theorem dX10_copies_5 : decode cX10_copies 5 = .ok (.if_icmp .ge 15, 3) := by decide +kernel
theorem dX10_copies_8 : decode cX10_copies 8 = .ok (.aload_n 1, 1) := by decide +kernel
theorem dX10_copies_9 : decode cX10_copies 9 = .ok (.iload_n 2, 1) := by decide +kernel
theorem dX10_copies_10 : decode cX10_copies 10 = .ok (.aload_n 0, 1) := by decide +kernel
theorem dX10_copies_11 : decode cX10_copies 11 = .ok (.iload_n 2, 1) := by decide +kernel
theorem dX10_copies_12 : decode cX10_copies 12 = .ok (.iaload, 1) := by decide +kernel
theorem dX10_copies_13 : decode cX10_copies 13 = .ok (.iastore, 1) := by decide +kernel
theorem dX10_copies_14 : decode cX10_copies 14 = .ok (.iinc 2 1, 3) := by decide +kernel
theorem dX10_copies_17 : decode cX10_copies 17 = .ok (.goto (-15), 3) := by decide +kernel
theorem dX10_copies_20 : decode cX10_copies 20 = .ok (.return_, 1) := by decide +kernel
theorem hyX10_copies : yX10_copies.cls ≠ "java/lang/invoke/MethodHandle" ∧ yX10_copies.cls ≠ "java/lang/invoke/VarHandle" ∧ (parseMethodDescriptor yX10_copies.desc).map (fun d => d.parameters.length) = some 2 := ⟨by decide +kernel, by decide +kernel, by decide +kernel⟩
set_option maxRecDepth 100000 in
set_option maxHeartbeats 4000000 in
theorem wsX10_copies_2b (C : zC p s m args meth c cX10_copies RX10 3 D Ca B En) (hRm : zRm R 0 0 cells slots) (x0 : Nat) (x1 : Nat) (σ : zS) (u2 : Int32) (y : (zS × Int32) ⊕ zS) (hf : sX10_copies_2b x0 x1 σ u2 = some y) (hk : (∀ z : (zS × Int32), y = .inl z → zW p l e R s m args below meth c cells slots Q D Ca B 3 z.1 N 2 [(0, .ref x0), (1, .ref x1), (2, .int z.2)] []) ∧ (∀ z : zS, y = .inr z → zW p l e R s m args below meth c cells slots Q D Ca B 3 z N 20 [] [])) : zW p l e R s m args below meth c cells slots Q D Ca B 3 σ N 2 [(0, .ref x0), (1, .ref x1), (2, .int u2)] [] := by
  unfold sX10_copies_2b at hf
  refine z_iload_n C dX10_copies_2 rfl 2 rfl ?_
  refine z_ldc C kw_1251 (zi 33894) (by decide) dX10_copies_3 ?_
  refine z_icmp_ge C 20 dX10_copies_5 (by decide) (fun q3 => ?_) (fun q3 => ?_)
  · rw [if_pos q3] at hf
    cases hf
    refine z_sub [] rfl ?_
    exact hk.2 _ rfl
  · rw [if_neg q3] at hf
    refine z_aload_n C dX10_copies_8 rfl 1 rfl ?_
    refine z_iload_n C dX10_copies_9 rfl 2 rfl ?_
    refine z_aload_n C dX10_copies_10 rfl 0 rfl ?_
    refine z_iload_n C dX10_copies_11 rfl 2 rfl ?_
    obtain ⟨v1, hv1, hf⟩ := zbind hf
    refine z_aI C hv1 dX10_copies_12 ?_
    obtain ⟨σ2, hσ2, hf⟩ := zbind hf
    refine z_sI C hσ2 dX10_copies_13 ?_
    refine z_iinc (lv2 := [(2, .int (u2 + (zi 1))), (0, .ref x0), (1, .ref x1)]) C (u2 + (zi 1)) dX10_copies_14 2 rfl rfl (by decide) rfl ?_
    refine z_goto C 2 dX10_copies_17 (by decide) ?_
    cases hf
    refine z_sub [1, 2, 0] rfl ?_
    exact hk.1 _ rfl

theorem wsX10_copies_2 (C : zC p s m args meth c cX10_copies RX10 3 D Ca B En) (hRm : zRm R 0 0 cells slots) (x0 : Nat) (x1 : Nat) (n : Nat) (z : (zS × Int32)) (x : zS) (hf : zloop (sX10_copies_2 x0 x1) n z = some x) (hk : (∀ o : zS, x = o → zW p l e R s m args below meth c cells slots Q D Ca B 3 o N 20 [] [])) : zW p l e R s m args below meth c cells slots Q D Ca B 3 z.1 N 2 [(0, .ref x0), (1, .ref x1), (2, .int z.2)] [] := by
  refine zloop_W (P := fun z : (zS × Int32) => zW p l e R s m args below meth c cells slots Q D Ca B 3 z.1 N 2 [(0, .ref x0), (1, .ref x1), (2, .int z.2)] []) (K := fun x : zS => (∀ o : zS, x = o → zW p l e R s m args below meth c cells slots Q D Ca B 3 o N 20 [] [])) ?_ n z x hf hk
  intro z y hy h1 h2
  refine wsX10_copies_2b C hRm x0 x1 z.1 z.2 y hy ⟨fun z2 e => h1 z2 e, fun o e => (h2 _ e) o rfl⟩
set_option maxRecDepth 100000 in
set_option maxHeartbeats 4000000 in
theorem wfX10_copies (C : zC p s m args meth c cX10_copies RX10 3 D Ca B En) (hRm : zRm R 0 0 cells slots) (σ : zS) (x0 : Nat) (x1 : Nat) (τ : zS) (hf : fX10_copies σ x0 x1 = some τ) (hq : ∀ (pc : Nat) (lv : List (Nat × Value)), decode cX10_copies pc = .ok (.return_, 1) → zW p l e R s m args below meth c cells slots Q D Ca B 3 τ N pc lv []) : zW p l e R s m args below meth c cells slots Q D Ca B 3 σ N 0 [(0, .ref x0), (1, .ref x1)] [] := by
  unfold fX10_copies at hf
  refine z_iconst C (zi 0) dX10_copies_0 (by decide) ?_
  refine z_istore_n (lv2 := [(2, .int ((zi 0))), (0, .ref x0), (1, .ref x1)]) C dX10_copies_1 rfl (by decide) rfl ?_
  obtain ⟨o4, ho4, hf⟩ := zbind hf
  refine z_sub [1, 2, 0] rfl ?_
  refine wsX10_copies_2 C hRm _ _ zfuel (σ, (zi 0)) o4 ho4 ?_
  intro z9 e9
  subst e9
  cases hf
  exact hq _ _ dX10_copies_20

theorem mX10_copies (l : Launch) (D : va_G) (Ca : Nat → ClassId) (B : Nat) (En : State → Prop) (hE : zEk B En) (σ : zS) (N : Nat) (x0 : Nat) (x1 : Nat) (X : zS) (hf : fX10_copies σ x0 x1 = some X) : zMv l D Ca B En yX10_copies cX10_copies 3 (Option.none : Option Jvm.ClassFile.FieldType) 0 0 [.ref x0, .ref x1] σ N X () :=
  zMet_v (own := RX10) hE (by decide +kernel) rfl (Nat.le_of_ble_eq_true rfl) (fun p e s m args below meth c C hr hRm => wfX10_copies C hRm σ x0 x1 X hf (fun pc lv hd => zfin_v (r := ()) C hr hd))
theorem dX10_takesDraft_0 : decode cX10_takesDraft 0 = .ok (.aload_n 0, 1) := by decide +kernel
theorem dX10_takesDraft_1 : decode cX10_takesDraft 1 = .ok (.aload_n 0, 1) := by decide +kernel
theorem dX10_takesDraft_2 : decode cX10_takesDraft 2 = .ok (.getfield 63, 3) := by decide +kernel
theorem dX10_takesDraft_5 : decode cX10_takesDraft 5 = .ok (.putfield 75, 3) := by decide +kernel
theorem dX10_takesDraft_8 : decode cX10_takesDraft 8 = .ok (.aload_n 0, 1) := by decide +kernel
theorem dX10_takesDraft_9 : decode cX10_takesDraft 9 = .ok (.aload_n 0, 1) := by decide +kernel
theorem dX10_takesDraft_10 : decode cX10_takesDraft 10 = .ok (.getfield 69, 3) := by decide +kernel
theorem dX10_takesDraft_13 : decode cX10_takesDraft 13 = .ok (.putfield 78, 3) := by decide +kernel
theorem dX10_takesDraft_16 : decode cX10_takesDraft 16 = .ok (.iconst 0, 1) := by decide +kernel
theorem dX10_takesDraft_17 : decode cX10_takesDraft 17 = .ok (.istore_n 1, 1) := by decide +kernel
theorem dX10_takesDraft_18 : decode cX10_takesDraft 18 = .ok (.iload_n 1, 1) := by decide +kernel
theorem dX10_takesDraft_19 : decode cX10_takesDraft 19 = .ok (.iconst 4, 1) := by decide +kernel
theorem dX10_takesDraft_20 : decode cX10_takesDraft 20 = .ok (.if_icmp .ge 45, 3) := by decide +kernel
theorem dX10_takesDraft_23 : decode cX10_takesDraft 23 = .ok (.aload_n 0, 1) := by decide +kernel
theorem dX10_takesDraft_24 : decode cX10_takesDraft 24 = .ok (.getfield 7, 3) := by decide +kernel
theorem dX10_takesDraft_27 : decode cX10_takesDraft 27 = .ok (.iload_n 1, 1) := by decide +kernel
theorem dX10_takesDraft_28 : decode cX10_takesDraft 28 = .ok (.aload_n 0, 1) := by decide +kernel
theorem dX10_takesDraft_29 : decode cX10_takesDraft 29 = .ok (.getfield 48, 3) := by decide +kernel
theorem dX10_takesDraft_32 : decode cX10_takesDraft 32 = .ok (.iload_n 1, 1) := by decide +kernel
theorem dX10_takesDraft_33 : decode cX10_takesDraft 33 = .ok (.iaload, 1) := by decide +kernel
theorem dX10_takesDraft_34 : decode cX10_takesDraft 34 = .ok (.iastore, 1) := by decide +kernel
theorem dX10_takesDraft_35 : decode cX10_takesDraft 35 = .ok (.aload_n 0, 1) := by decide +kernel
theorem dX10_takesDraft_36 : decode cX10_takesDraft 36 = .ok (.getfield 13, 3) := by decide +kernel
theorem dX10_takesDraft_39 : decode cX10_takesDraft 39 = .ok (.iload_n 1, 1) := by decide +kernel
theorem dX10_takesDraft_40 : decode cX10_takesDraft 40 = .ok (.aload_n 0, 1) := by decide +kernel
theorem dX10_takesDraft_41 : decode cX10_takesDraft 41 = .ok (.getfield 51, 3) := by decide +kernel
theorem dX10_takesDraft_44 : decode cX10_takesDraft 44 = .ok (.iload_n 1, 1) := by decide +kernel
theorem dX10_takesDraft_45 : decode cX10_takesDraft 45 = .ok (.iaload, 1) := by decide +kernel
theorem dX10_takesDraft_46 : decode cX10_takesDraft 46 = .ok (.iastore, 1) := by decide +kernel
theorem dX10_takesDraft_47 : decode cX10_takesDraft 47 = .ok (.aload_n 0, 1) := by decide +kernel
theorem dX10_takesDraft_48 : decode cX10_takesDraft 48 = .ok (.getfield 16, 3) := by decide +kernel
theorem dX10_takesDraft_51 : decode cX10_takesDraft 51 = .ok (.iload_n 1, 1) := by decide +kernel
theorem dX10_takesDraft_52 : decode cX10_takesDraft 52 = .ok (.aload_n 0, 1) := by decide +kernel
theorem dX10_takesDraft_53 : decode cX10_takesDraft 53 = .ok (.getfield 54, 3) := by decide +kernel
theorem dX10_takesDraft_56 : decode cX10_takesDraft 56 = .ok (.iload_n 1, 1) := by decide +kernel
theorem dX10_takesDraft_57 : decode cX10_takesDraft 57 = .ok (.laload, 1) := by decide +kernel
theorem dX10_takesDraft_58 : decode cX10_takesDraft 58 = .ok (.lastore, 1) := by decide +kernel
theorem dX10_takesDraft_59 : decode cX10_takesDraft 59 = .ok (.iinc 1 1, 3) := by decide +kernel
theorem dX10_takesDraft_62 : decode cX10_takesDraft 62 = .ok (.goto (-44), 3) := by decide +kernel
theorem dX10_takesDraft_65 : decode cX10_takesDraft 65 = .ok (.aload_n 0, 1) := by decide +kernel
theorem dX10_takesDraft_66 : decode cX10_takesDraft 66 = .ok (.getfield 24, 3) := by decide +kernel
theorem dX10_takesDraft_69 : decode cX10_takesDraft 69 = .ok (.aload_n 0, 1) := by decide +kernel
theorem dX10_takesDraft_70 : decode cX10_takesDraft 70 = .ok (.getfield 21, 3) := by decide +kernel
theorem dX10_takesDraft_73 : decode cX10_takesDraft 73 = .ok (.invokestatic 81, 3) := by decide +kernel
theorem dX10_takesDraft_76 : decode cX10_takesDraft 76 = .ok (.aload_n 0, 1) := by decide +kernel
theorem dX10_takesDraft_77 : decode cX10_takesDraft 77 = .ok (.iconst 0, 1) := by decide +kernel
theorem dX10_takesDraft_78 : decode cX10_takesDraft 78 = .ok (.putfield 85, 3) := by decide +kernel
theorem dX10_takesDraft_81 : decode cX10_takesDraft 81 = .ok (.aload_n 0, 1) := by decide +kernel
theorem dX10_takesDraft_82 : decode cX10_takesDraft 82 = .ok (.iconst 0, 1) := by decide +kernel
theorem dX10_takesDraft_83 : decode cX10_takesDraft 83 = .ok (.putfield 88, 3) := by decide +kernel
theorem dX10_takesDraft_86 : decode cX10_takesDraft 86 = .ok (.return_, 1) := by decide +kernel
theorem hyX10_takesDraft : yX10_takesDraft.cls ≠ "java/lang/invoke/MethodHandle" ∧ yX10_takesDraft.cls ≠ "java/lang/invoke/VarHandle" ∧ (parseMethodDescriptor yX10_takesDraft.desc).map (fun d => d.parameters.length) = some 0 := ⟨by decide +kernel, by decide +kernel, by decide +kernel⟩
set_option maxRecDepth 100000 in
set_option maxHeartbeats 4000000 in
theorem wsX10_takesDraft_18b (C : zC p s m args meth c cX10_takesDraft RX10 2 D Ca B En) (hRm : zRm R 1 22 cells slots) (x0 : Nat) (σ : zS) (u1 : Int32) (y : (zS × Int32) ⊕ zS) (hf : sX10_takesDraft_18b x0 σ u1 = some y) (hk : (∀ z : (zS × Int32), y = .inl z → zW p l e R s m args below meth c cells slots Q D Ca B 2 z.1 N 18 [(0, .ref x0), (1, .int z.2)] []) ∧ (∀ z : zS, y = .inr z → zW p l e R s m args below meth c cells slots Q D Ca B 2 z N 65 [(0, .ref x0)] [])) : zW p l e R s m args below meth c cells slots Q D Ca B 2 σ N 18 [(0, .ref x0), (1, .int u1)] [] := by
  unfold sX10_takesDraft_18b at hf
  refine z_iload_n C dX10_takesDraft_18 rfl 1 rfl ?_
  refine z_iconst C (zi 4) dX10_takesDraft_19 (by decide) ?_
  refine z_icmp_ge C 65 dX10_takesDraft_20 (by decide) (fun q17 => ?_) (fun q17 => ?_)
  · rw [if_pos q17] at hf
    cases hf
    refine z_sub [0] rfl ?_
    exact hk.2 _ rfl
  · rw [if_neg q17] at hf
    refine z_aload_n C dX10_takesDraft_23 rfl 0 rfl ?_
    obtain ⟨v5, hv5, hf⟩ := zbind hf
    refine gf_RX10_7 C hv5 dX10_takesDraft_24 ?_
    refine z_iload_n C dX10_takesDraft_27 rfl 1 rfl ?_
    refine z_aload_n C dX10_takesDraft_28 rfl 0 rfl ?_
    obtain ⟨v6, hv6, hf⟩ := zbind hf
    refine gf_RX10_48 C hv6 dX10_takesDraft_29 ?_
    refine z_iload_n C dX10_takesDraft_32 rfl 1 rfl ?_
    obtain ⟨v7, hv7, hf⟩ := zbind hf
    refine z_aI C hv7 dX10_takesDraft_33 ?_
    obtain ⟨σ8, hσ8, hf⟩ := zbind hf
    refine z_sI C hσ8 dX10_takesDraft_34 ?_
    refine z_aload_n C dX10_takesDraft_35 rfl 0 rfl ?_
    obtain ⟨v9, hv9, hf⟩ := zbind hf
    refine gf_RX10_13 C hv9 dX10_takesDraft_36 ?_
    refine z_iload_n C dX10_takesDraft_39 rfl 1 rfl ?_
    refine z_aload_n C dX10_takesDraft_40 rfl 0 rfl ?_
    obtain ⟨v10, hv10, hf⟩ := zbind hf
    refine gf_RX10_51 C hv10 dX10_takesDraft_41 ?_
    refine z_iload_n C dX10_takesDraft_44 rfl 1 rfl ?_
    obtain ⟨v11, hv11, hf⟩ := zbind hf
    refine z_aI C hv11 dX10_takesDraft_45 ?_
    obtain ⟨σ12, hσ12, hf⟩ := zbind hf
    refine z_sI C hσ12 dX10_takesDraft_46 ?_
    refine z_aload_n C dX10_takesDraft_47 rfl 0 rfl ?_
    obtain ⟨v13, hv13, hf⟩ := zbind hf
    refine gf_RX10_16 C hv13 dX10_takesDraft_48 ?_
    refine z_iload_n C dX10_takesDraft_51 rfl 1 rfl ?_
    refine z_aload_n C dX10_takesDraft_52 rfl 0 rfl ?_
    obtain ⟨v14, hv14, hf⟩ := zbind hf
    refine gf_RX10_54 C hv14 dX10_takesDraft_53 ?_
    refine z_iload_n C dX10_takesDraft_56 rfl 1 rfl ?_
    obtain ⟨v15, hv15, hf⟩ := zbind hf
    refine z_aJ C hv15 dX10_takesDraft_57 ?_
    obtain ⟨σ16, hσ16, hf⟩ := zbind hf
    refine z_sJ C hσ16 dX10_takesDraft_58 ?_
    refine z_iinc (lv2 := [(1, .int (u1 + (zi 1))), (0, .ref x0)]) C (u1 + (zi 1)) dX10_takesDraft_59 1 rfl rfl (by decide) rfl ?_
    refine z_goto C 18 dX10_takesDraft_62 (by decide) ?_
    cases hf
    refine z_sub [1, 0] rfl ?_
    exact hk.1 _ rfl

theorem wsX10_takesDraft_18 (C : zC p s m args meth c cX10_takesDraft RX10 2 D Ca B En) (hRm : zRm R 1 22 cells slots) (x0 : Nat) (n : Nat) (z : (zS × Int32)) (x : zS) (hf : zloop (sX10_takesDraft_18 x0) n z = some x) (hk : (∀ o : zS, x = o → zW p l e R s m args below meth c cells slots Q D Ca B 2 o N 65 [(0, .ref x0)] [])) : zW p l e R s m args below meth c cells slots Q D Ca B 2 z.1 N 18 [(0, .ref x0), (1, .int z.2)] [] := by
  refine zloop_W (P := fun z : (zS × Int32) => zW p l e R s m args below meth c cells slots Q D Ca B 2 z.1 N 18 [(0, .ref x0), (1, .int z.2)] []) (K := fun x : zS => (∀ o : zS, x = o → zW p l e R s m args below meth c cells slots Q D Ca B 2 o N 65 [(0, .ref x0)] [])) ?_ n z x hf hk
  intro z y hy h1 h2
  refine wsX10_takesDraft_18b C hRm x0 z.1 z.2 y hy ⟨fun z2 e => h1 z2 e, fun o e => (h2 _ e) o rfl⟩
set_option maxRecDepth 100000 in
set_option maxHeartbeats 4000000 in
theorem wfX10_takesDraft (C : zC p s m args meth c cX10_takesDraft RX10 2 D Ca B En) (hRm : zRm R 1 22 cells slots) (σ : zS) (x0 : Nat) (τ : zS) (hf : fX10_takesDraft σ x0 = some τ) (hq : ∀ (pc : Nat) (lv : List (Nat × Value)), decode cX10_takesDraft pc = .ok (.return_, 1) → zW p l e R s m args below meth c cells slots Q D Ca B 2 τ N pc lv []) : zW p l e R s m args below meth c cells slots Q D Ca B 2 σ N 0 [(0, .ref x0)] [] := by
  unfold fX10_takesDraft at hf
  refine z_aload_n C dX10_takesDraft_0 rfl 0 rfl ?_
  refine z_aload_n C dX10_takesDraft_1 rfl 0 rfl ?_
  obtain ⟨v1, hv1, hf⟩ := zbind hf
  refine gf_RX10_63 C hv1 dX10_takesDraft_2 ?_
  obtain ⟨σ2, hσ2, hf⟩ := zbind hf
  refine gp_RX10_75 C hσ2 dX10_takesDraft_5 ?_
  refine z_aload_n C dX10_takesDraft_8 rfl 0 rfl ?_
  refine z_aload_n C dX10_takesDraft_9 rfl 0 rfl ?_
  obtain ⟨v3, hv3, hf⟩ := zbind hf
  refine gf_RX10_69 C hv3 dX10_takesDraft_10 ?_
  obtain ⟨σ4, hσ4, hf⟩ := zbind hf
  refine gp_RX10_78 C hσ4 dX10_takesDraft_13 ?_
  refine z_iconst C (zi 0) dX10_takesDraft_16 (by decide) ?_
  refine z_istore_n (lv2 := [(1, .int ((zi 0))), (0, .ref x0)]) C dX10_takesDraft_17 rfl (by decide) rfl ?_
  obtain ⟨o18, ho18, hf⟩ := zbind hf
  refine z_sub [1, 0] rfl ?_
  refine wsX10_takesDraft_18 C hRm _ zfuel (σ4, (zi 0)) o18 ho18 ?_
  intro z9 e9
  subst e9
  refine z_aload_n C dX10_takesDraft_65 rfl 0 rfl ?_
  obtain ⟨v19, hv19, hf⟩ := zbind hf
  refine gf_RX10_24 C hv19 dX10_takesDraft_66 ?_
  refine z_aload_n C dX10_takesDraft_69 rfl 0 rfl ?_
  obtain ⟨v20, hv20, hf⟩ := zbind hf
  refine gf_RX10_21 C hv20 dX10_takesDraft_70 ?_
  obtain ⟨c21, hc21, hf⟩ := zbind hf
  refine z_callSv (As := [.ref v19, .ref v20]) (F0 := 1) (L0 := 22) C (mX10_copies l D Ca B En C.2.2.2.2.2.2.2.1 o18 N v19 v20 _ hc21) hRm kw_1263 kw_14 kw_1261 kw_1262 hyX10_copies (Nat.le_of_ble_eq_true rfl) (Nat.le_of_ble_eq_true rfl) rfl rfl (Nat.le_of_ble_eq_true rfl) dX10_takesDraft_73 ?_
  refine z_aload_n C dX10_takesDraft_76 rfl 0 rfl ?_
  refine z_iconst C (zi 0) dX10_takesDraft_77 (by decide) ?_
  obtain ⟨σ22, hσ22, hf⟩ := zbind hf
  refine gp_RX10_85 C hσ22 dX10_takesDraft_78 ?_
  refine z_aload_n C dX10_takesDraft_81 rfl 0 rfl ?_
  refine z_iconst C (zi 0) dX10_takesDraft_82 (by decide) ?_
  obtain ⟨σ23, hσ23, hf⟩ := zbind hf
  refine gp_RX10_88 C hσ23 dX10_takesDraft_83 ?_
  cases hf
  exact hq _ _ dX10_takesDraft_86

theorem mX10_takesDraft (l : Launch) (D : va_G) (Ca : Nat → ClassId) (B : Nat) (En : State → Prop) (hE : zEk B En) (σ : zS) (N : Nat) (x0 : Nat) (X : zS) (hf : fX10_takesDraft σ x0 = some X) : zMv l D Ca B En yX10_takesDraft cX10_takesDraft 2 (Option.none : Option Jvm.ClassFile.FieldType) 1 22 [.ref x0] σ N X () :=
  zMet_v (own := RX10) hE (by decide +kernel) rfl (Nat.le_of_ble_eq_true rfl) (fun p e s m args below meth c C hr hRm => wfX10_takesDraft C hRm σ x0 X hf (fun pc lv hd => zfin_v (r := ()) C hr hd))
theorem dX10_thrown_0 : decode cX10_thrown 0 = .ok (.aload_n 0, 1) := by decide +kernel
theorem dX10_thrown_1 : decode cX10_thrown 1 = .ok (.getfield 92, 3) := by decide +kernel
theorem dX10_thrown_4 : decode cX10_thrown 4 = .ok (.ireturn, 1) := by decide +kernel
theorem hyX10_thrown : yX10_thrown.cls ≠ "java/lang/invoke/MethodHandle" ∧ yX10_thrown.cls ≠ "java/lang/invoke/VarHandle" ∧ (parseMethodDescriptor yX10_thrown.desc).map (fun d => d.parameters.length) = some 0 := ⟨by decide +kernel, by decide +kernel, by decide +kernel⟩
set_option maxRecDepth 100000 in
set_option maxHeartbeats 4000000 in
theorem wfX10_thrown (C : zC p s m args meth c cX10_thrown RX10 1 D Ca B En) (hRm : zRm R 0 0 cells slots) (σ : zS) (x0 : Nat) (τ : zS) (r : Int32) (hf : fX10_thrown σ x0 = some (τ, r)) (hq : ∀ (pc : Nat) (lv : List (Nat × Value)), decode cX10_thrown pc = .ok (.ireturn, 1) → zW p l e R s m args below meth c cells slots Q D Ca B 1 τ N pc lv [.int r]) : zW p l e R s m args below meth c cells slots Q D Ca B 1 σ N 0 [(0, .ref x0)] [] := by
  unfold fX10_thrown at hf
  refine z_aload_n C dX10_thrown_0 rfl 0 rfl ?_
  obtain ⟨v1, hv1, hf⟩ := zbind hf
  refine gf_RX10_92 C hv1 dX10_thrown_1 ?_
  cases hf
  exact hq _ _ dX10_thrown_4

theorem mX10_thrown (l : Launch) (D : va_G) (Ca : Nat → ClassId) (B : Nat) (En : State → Prop) (hE : zEk B En) (σ : zS) (N : Nat) (x0 : Nat) (X : zS × Int32) (hf : fX10_thrown σ x0 = some X) : zMi l D Ca B En yX10_thrown cX10_thrown 1 (Option.some Jvm.ClassFile.FieldType.int) 0 0 [.ref x0] σ N X.1 X.2 :=
  zMet_i (own := RX10) hE (by decide +kernel) rfl (Nat.le_of_ble_eq_true rfl) (fun p e s m args below meth c C hr hRm => wfX10_thrown C hRm σ x0 X.1 X.2 hf (fun pc lv hd => zfin_i C hr hd))
theorem dX10_is_0 : decode cX10_is 0 = .ok (.aload_n 0, 1) := by decide +kernel
theorem dX10_is_1 : decode cX10_is 1 = .ok (.iload_n 1, 1) := by decide +kernel
theorem dX10_is_2 : decode cX10_is 2 = .ok (.ifCond .eq 7, 3) := by decide +kernel
theorem dX10_is_5 : decode cX10_is 5 = .ok (.iconst 0, 1) := by decide +kernel
theorem dX10_is_6 : decode cX10_is 6 = .ok (.goto 4, 3) := by decide +kernel
theorem dX10_is_9 : decode cX10_is 9 = .ok (.iconst 1, 1) := by decide +kernel
theorem dX10_is_10 : decode cX10_is 10 = .ok (.putfield 92, 3) := by decide +kernel
theorem dX10_is_13 : decode cX10_is 13 = .ok (.iload_n 1, 1) := by decide +kernel
theorem dX10_is_14 : decode cX10_is 14 = .ok (.ireturn, 1) := by decide +kernel
theorem hyX10_is : yX10_is.cls ≠ "java/lang/invoke/MethodHandle" ∧ yX10_is.cls ≠ "java/lang/invoke/VarHandle" ∧ (parseMethodDescriptor yX10_is.desc).map (fun d => d.parameters.length) = some 1 := ⟨by decide +kernel, by decide +kernel, by decide +kernel⟩
set_option maxRecDepth 100000 in
set_option maxHeartbeats 4000000 in
theorem wfX10_is (C : zC p s m args meth c cX10_is RX10 2 D Ca B En) (hRm : zRm R 0 0 cells slots) (σ : zS) (x0 : Nat) (x1 : Int32) (τ : zS) (r : Int32) (hf : fX10_is σ x0 x1 = some (τ, r)) (hq : ∀ (pc : Nat) (lv : List (Nat × Value)), (r = 0 ∨ r = 1) → decode cX10_is pc = .ok (.ireturn, 1) → zW p l e R s m args below meth c cells slots Q D Ca B 2 τ N pc lv [.int r]) : zW p l e R s m args below meth c cells slots Q D Ca B 2 σ N 0 [(0, .ref x0), (1, .int x1)] [] := by
  unfold fX10_is at hf
  refine z_aload_n C dX10_is_0 rfl 0 rfl ?_
  refine z_iload_n C dX10_is_1 rfl 1 rfl ?_
  refine z_if_eq C 9 dX10_is_2 (by decide) (fun q3 => ?_) (fun q3 => ?_)
  · rw [if_pos q3] at hf
    refine z_iconst C (zi 1) dX10_is_9 (by decide) ?_
    obtain ⟨σ1, hσ1, hf⟩ := zbind hf
    refine gp_RX10_92 C hσ1 dX10_is_10 ?_
    refine z_iload_n C dX10_is_13 rfl 1 rfl ?_
    obtain ⟨e9, b9⟩ := zrZ_ok hf
    cases e9
    exact hq _ _ b9 dX10_is_14
  · rw [if_neg q3] at hf
    refine z_iconst C (zi 0) dX10_is_5 (by decide) ?_
    refine z_goto C 10 dX10_is_6 (by decide) ?_
    obtain ⟨σ2, hσ2, hf⟩ := zbind hf
    refine gp_RX10_92 C hσ2 dX10_is_10 ?_
    refine z_iload_n C dX10_is_13 rfl 1 rfl ?_
    obtain ⟨e9, b9⟩ := zrZ_ok hf
    cases e9
    exact hq _ _ b9 dX10_is_14

theorem mX10_is (l : Launch) (D : va_G) (Ca : Nat → ClassId) (B : Nat) (En : State → Prop) (hE : zEk B En) (σ : zS) (N : Nat) (x0 : Nat) (x1 : Int32) (X : zS × Int32) (hf : fX10_is σ x0 x1 = some X) : zMi l D Ca B En yX10_is cX10_is 2 (Option.some Jvm.ClassFile.FieldType.boolean) 0 0 [.ref x0, .int x1] σ N X.1 X.2 :=
  zMet_i (own := RX10) hE (by decide +kernel) rfl (Nat.le_of_ble_eq_true rfl) (fun p e s m args below meth c C hr hRm => wfX10_is C hRm σ x0 x1 X.1 X.2 hf (fun pc lv hb hd => zfin_z C hb hr hd))
theorem dX10_may_0 : decode cX10_may 0 = .ok (.aload_n 0, 1) := by decide +kernel
theorem dX10_may_1 : decode cX10_may 1 = .ok (.iload_n 1, 1) := by decide +kernel
theorem dX10_may_2 : decode cX10_may 2 = .ok (.ifCond .eq 7, 3) := by decide +kernel
theorem dX10_may_5 : decode cX10_may 5 = .ok (.iconst 0, 1) := by decide +kernel
theorem dX10_may_6 : decode cX10_may 6 = .ok (.goto 4, 3) := by decide +kernel
theorem dX10_may_9 : decode cX10_may 9 = .ok (.iload_n 2, 1) := by decide +kernel
theorem dX10_may_10 : decode cX10_may 10 = .ok (.putfield 92, 3) := by decide +kernel
theorem dX10_may_13 : decode cX10_may 13 = .ok (.iload_n 1, 1) := by decide +kernel
theorem dX10_may_14 : decode cX10_may 14 = .ok (.ireturn, 1) := by decide +kernel
theorem hyX10_may : yX10_may.cls ≠ "java/lang/invoke/MethodHandle" ∧ yX10_may.cls ≠ "java/lang/invoke/VarHandle" ∧ (parseMethodDescriptor yX10_may.desc).map (fun d => d.parameters.length) = some 2 := ⟨by decide +kernel, by decide +kernel, by decide +kernel⟩
set_option maxRecDepth 100000 in
set_option maxHeartbeats 4000000 in
theorem wfX10_may (C : zC p s m args meth c cX10_may RX10 3 D Ca B En) (hRm : zRm R 0 0 cells slots) (σ : zS) (x0 : Nat) (x1 : Int32) (x2 : Int32) (τ : zS) (r : Int32) (hf : fX10_may σ x0 x1 x2 = some (τ, r)) (hq : ∀ (pc : Nat) (lv : List (Nat × Value)), (r = 0 ∨ r = 1) → decode cX10_may pc = .ok (.ireturn, 1) → zW p l e R s m args below meth c cells slots Q D Ca B 3 τ N pc lv [.int r]) : zW p l e R s m args below meth c cells slots Q D Ca B 3 σ N 0 [(0, .ref x0), (1, .int x1), (2, .int x2)] [] := by
  unfold fX10_may at hf
  refine z_aload_n C dX10_may_0 rfl 0 rfl ?_
  refine z_iload_n C dX10_may_1 rfl 1 rfl ?_
  refine z_if_eq C 9 dX10_may_2 (by decide) (fun q3 => ?_) (fun q3 => ?_)
  · rw [if_pos q3] at hf
    refine z_iload_n C dX10_may_9 rfl 2 rfl ?_
    obtain ⟨σ1, hσ1, hf⟩ := zbind hf
    refine gp_RX10_92 C hσ1 dX10_may_10 ?_
    refine z_iload_n C dX10_may_13 rfl 1 rfl ?_
    obtain ⟨e9, b9⟩ := zrZ_ok hf
    cases e9
    exact hq _ _ b9 dX10_may_14
  · rw [if_neg q3] at hf
    refine z_iconst C (zi 0) dX10_may_5 (by decide) ?_
    refine z_goto C 10 dX10_may_6 (by decide) ?_
    obtain ⟨σ2, hσ2, hf⟩ := zbind hf
    refine gp_RX10_92 C hσ2 dX10_may_10 ?_
    refine z_iload_n C dX10_may_13 rfl 1 rfl ?_
    obtain ⟨e9, b9⟩ := zrZ_ok hf
    cases e9
    exact hq _ _ b9 dX10_may_14

theorem mX10_may (l : Launch) (D : va_G) (Ca : Nat → ClassId) (B : Nat) (En : State → Prop) (hE : zEk B En) (σ : zS) (N : Nat) (x0 : Nat) (x1 : Int32) (x2 : Int32) (X : zS × Int32) (hf : fX10_may σ x0 x1 x2 = some X) : zMi l D Ca B En yX10_may cX10_may 3 (Option.some Jvm.ClassFile.FieldType.boolean) 0 0 [.ref x0, .int x1, .int x2] σ N X.1 X.2 :=
  zMet_i (own := RX10) hE (by decide +kernel) rfl (Nat.le_of_ble_eq_true rfl) (fun p e s m args below meth c C hr hRm => wfX10_may C hRm σ x0 x1 x2 X.1 X.2 hf (fun pc lv hb hd => zfin_z C hb hr hd))
theorem dX10_isIn_0 : decode cX10_isIn 0 = .ok (.lload_n 0, 1) := by decide +kernel
theorem dX10_isIn_1 : decode cX10_isIn 1 = .ok (.lload_n 2, 1) := by decide +kernel
theorem dX10_isIn_2 : decode cX10_isIn 2 = .ok (.lcmp, 1) := by decide +kernel
theorem dX10_isIn_3 : decode cX10_isIn 3 = .ok (.ifCond .lt 14, 3) := by decide +kernel
theorem dX10_isIn_6 : decode cX10_isIn 6 = .ok (.lload_n 0, 1) := by decide +kernel
theorem dX10_isIn_7 : decode cX10_isIn 7 = .ok (.lload 4, 2) := by decide +kernel
theorem dX10_isIn_9 : decode cX10_isIn 9 = .ok (.lcmp, 1) := by decide +kernel
theorem dX10_isIn_10 : decode cX10_isIn 10 = .ok (.ifCond .gt 7, 3) := by decide +kernel
theorem dX10_isIn_13 : decode cX10_isIn 13 = .ok (.iconst 1, 1) := by decide +kernel
theorem dX10_isIn_14 : decode cX10_isIn 14 = .ok (.goto 4, 3) := by decide +kernel
theorem dX10_isIn_17 : decode cX10_isIn 17 = .ok (.iconst 0, 1) := by decide +kernel
theorem dX10_isIn_18 : decode cX10_isIn 18 = .ok (.ireturn, 1) := by decide +kernel
theorem hyX10_isIn : yX10_isIn.cls ≠ "java/lang/invoke/MethodHandle" ∧ yX10_isIn.cls ≠ "java/lang/invoke/VarHandle" ∧ (parseMethodDescriptor yX10_isIn.desc).map (fun d => d.parameters.length) = some 3 := ⟨by decide +kernel, by decide +kernel, by decide +kernel⟩
set_option maxRecDepth 100000 in
set_option maxHeartbeats 4000000 in
theorem wfX10_isIn (C : zC p s m args meth c cX10_isIn RX10 6 D Ca B En) (hRm : zRm R 0 0 cells slots) (σ : zS) (x0 : Int64) (x2 : Int64) (x4 : Int64) (τ : zS) (r : Int32) (hf : fX10_isIn σ x0 x2 x4 = some (τ, r)) (hq : ∀ (pc : Nat) (lv : List (Nat × Value)), (r = 0 ∨ r = 1) → decode cX10_isIn pc = .ok (.ireturn, 1) → zW p l e R s m args below meth c cells slots Q D Ca B 6 τ N pc lv [.int r]) : zW p l e R s m args below meth c cells slots Q D Ca B 6 σ N 0 [(0, .long x0), (2, .long x2), (4, .long x4)] [] := by
  unfold fX10_isIn at hf
  refine z_lload_n C dX10_isIn_0 rfl 0 rfl ?_
  refine z_lload_n C dX10_isIn_1 rfl 1 rfl ?_
  refine z_lcmp C dX10_isIn_2 ?_
  refine z_if_lt C 17 dX10_isIn_3 (by decide) (fun q2 => ?_) (fun q2 => ?_)
  · rw [if_pos q2] at hf
    refine z_iconst C (zi 0) dX10_isIn_17 (by decide) ?_
    obtain ⟨e9, b9⟩ := zrZ_ok hf
    cases e9
    exact hq _ _ b9 dX10_isIn_18
  · rw [if_neg q2] at hf
    refine z_lload_n C dX10_isIn_6 rfl 0 rfl ?_
    refine z_lload C dX10_isIn_7 2 rfl ?_
    refine z_lcmp C dX10_isIn_9 ?_
    refine z_if_gt C 17 dX10_isIn_10 (by decide) (fun q1 => ?_) (fun q1 => ?_)
    · rw [if_pos q1] at hf
      refine z_iconst C (zi 0) dX10_isIn_17 (by decide) ?_
      obtain ⟨e9, b9⟩ := zrZ_ok hf
      cases e9
      exact hq _ _ b9 dX10_isIn_18
    · rw [if_neg q1] at hf
      refine z_iconst C (zi 1) dX10_isIn_13 (by decide) ?_
      refine z_goto C 18 dX10_isIn_14 (by decide) ?_
      obtain ⟨e9, b9⟩ := zrZ_ok hf
      cases e9
      exact hq _ _ b9 dX10_isIn_18

theorem mX10_isIn (l : Launch) (D : va_G) (Ca : Nat → ClassId) (B : Nat) (En : State → Prop) (hE : zEk B En) (σ : zS) (N : Nat) (x0 : Int64) (x2 : Int64) (x4 : Int64) (X : zS × Int32) (hf : fX10_isIn σ x0 x2 x4 = some X) : zMi l D Ca B En yX10_isIn cX10_isIn 6 (Option.some Jvm.ClassFile.FieldType.boolean) 0 0 [.long x0, .long x2, .long x4] σ N X.1 X.2 :=
  zMet_i (own := RX10) hE (by decide +kernel) rfl (Nat.le_of_ble_eq_true rfl) (fun p e s m args below meth c C hr hRm => wfX10_isIn C hRm σ x0 x2 x4 X.1 X.2 hf (fun pc lv hb hd => zfin_z C hb hr hd))
theorem dX10_starts_0 : decode cX10_starts 0 = .ok (.aload_n 0, 1) := by decide +kernel
theorem dX10_starts_1 : decode cX10_starts 1 = .ok (.getfield 21, 3) := by decide +kernel
theorem dX10_starts_4 : decode cX10_starts 4 = .ok (.aload_n 0, 1) := by decide +kernel
theorem dX10_starts_5 : decode cX10_starts 5 = .ok (.getfield 27, 3) := by decide +kernel
theorem dX10_starts_8 : decode cX10_starts 8 = .ok (.invokestatic 81, 3) := by decide +kernel
theorem dX10_starts_11 : decode cX10_starts 11 = .ok (.return_, 1) := by decide +kernel
theorem hyX10_starts : yX10_starts.cls ≠ "java/lang/invoke/MethodHandle" ∧ yX10_starts.cls ≠ "java/lang/invoke/VarHandle" ∧ (parseMethodDescriptor yX10_starts.desc).map (fun d => d.parameters.length) = some 0 := ⟨by decide +kernel, by decide +kernel, by decide +kernel⟩
set_option maxRecDepth 100000 in
set_option maxHeartbeats 4000000 in
theorem wfX10_starts (C : zC p s m args meth c cX10_starts RX10 1 D Ca B En) (hRm : zRm R 1 22 cells slots) (σ : zS) (x0 : Nat) (τ : zS) (hf : fX10_starts σ x0 = some τ) (hq : ∀ (pc : Nat) (lv : List (Nat × Value)), decode cX10_starts pc = .ok (.return_, 1) → zW p l e R s m args below meth c cells slots Q D Ca B 1 τ N pc lv []) : zW p l e R s m args below meth c cells slots Q D Ca B 1 σ N 0 [(0, .ref x0)] [] := by
  unfold fX10_starts at hf
  refine z_aload_n C dX10_starts_0 rfl 0 rfl ?_
  obtain ⟨v1, hv1, hf⟩ := zbind hf
  refine gf_RX10_21 C hv1 dX10_starts_1 ?_
  refine z_aload_n C dX10_starts_4 rfl 0 rfl ?_
  obtain ⟨v2, hv2, hf⟩ := zbind hf
  refine gf_RX10_27 C hv2 dX10_starts_5 ?_
  obtain ⟨c3, hc3, hf⟩ := zbind hf
  refine z_callSv (As := [.ref v1, .ref v2]) (F0 := 1) (L0 := 22) C (mX10_copies l D Ca B En C.2.2.2.2.2.2.2.1 σ N v1 v2 _ hc3) hRm kw_1263 kw_14 kw_1261 kw_1262 hyX10_copies (Nat.le_of_ble_eq_true rfl) (Nat.le_of_ble_eq_true rfl) rfl rfl (Nat.le_of_ble_eq_true rfl) dX10_starts_8 ?_
  cases hf
  exact hq _ _ dX10_starts_11

theorem mX10_starts (l : Launch) (D : va_G) (Ca : Nat → ClassId) (B : Nat) (En : State → Prop) (hE : zEk B En) (σ : zS) (N : Nat) (x0 : Nat) (X : zS) (hf : fX10_starts σ x0 = some X) : zMv l D Ca B En yX10_starts cX10_starts 1 (Option.none : Option Jvm.ClassFile.FieldType) 1 22 [.ref x0] σ N X () :=
  zMet_v (own := RX10) hE (by decide +kernel) rfl (Nat.le_of_ble_eq_true rfl) (fun p e s m args below meth c C hr hRm => wfX10_starts C hRm σ x0 X hf (fun pc lv hd => zfin_v (r := ()) C hr hd))
theorem dX10_done_0 : decode cX10_done 0 = .ok (.aload_n 0, 1) := by decide +kernel
theorem dX10_done_1 : decode cX10_done 1 = .ok (.getfield 85, 3) := by decide +kernel
theorem dX10_done_4 : decode cX10_done 4 = .ok (.bipush 6, 2) := by decide +kernel
theorem dX10_done_6 : decode cX10_done 6 = .ok (.if_icmp .ne 42, 3) := by decide +kernel
theorem dX10_done_9 : decode cX10_done 9 = .ok (.iconst 0, 1) := by decide +kernel
theorem dX10_done_10 : decode cX10_done 10 = .ok (.istore_n 2, 1) := by decide +kernel
theorem dX10_done_11 : decode cX10_done 11 = .ok (.iload_n 2, 1) := by decide +kernel
theorem dX10_done_12 : decode cX10_done 12 = .ok (.ldc 95, 2) := by decide +kernel
theorem dX10_done_14 : decode cX10_done 14 = .ok (.if_icmp .ge 24, 3) := by decide +kernel
theorem dX10_done_17 : decode cX10_done 17 = .ok (.aload_n 0, 1) := by decide +kernel
theorem dX10_done_18 : decode cX10_done 18 = .ok (.getfield 37, 3) := by decide +kernel
theorem dX10_done_21 : decode cX10_done 21 = .ok (.iload_n 2, 1) := by decide +kernel
theorem dX10_done_22 : decode cX10_done 22 = .ok (.aload_n 0, 1) := by decide +kernel
theorem dX10_done_23 : decode cX10_done 23 = .ok (.getfield 37, 3) := by decide +kernel
theorem dX10_done_26 : decode cX10_done 26 = .ok (.iload_n 2, 1) := by decide +kernel
theorem dX10_done_27 : decode cX10_done 27 = .ok (.ldc 20, 2) := by decide +kernel
theorem dX10_done_29 : decode cX10_done 29 = .ok (.iadd, 1) := by decide +kernel
theorem dX10_done_30 : decode cX10_done 30 = .ok (.iaload, 1) := by decide +kernel
theorem dX10_done_31 : decode cX10_done 31 = .ok (.iastore, 1) := by decide +kernel
theorem dX10_done_32 : decode cX10_done 32 = .ok (.iinc 2 1, 3) := by decide +kernel
theorem dX10_done_35 : decode cX10_done 35 = .ok (.goto (-24), 3) := by decide +kernel
theorem dX10_done_38 : decode cX10_done 38 = .ok (.aload_n 0, 1) := by decide +kernel
theorem dX10_done_39 : decode cX10_done 39 = .ok (.aload_n 0, 1) := by decide +kernel
theorem dX10_done_40 : decode cX10_done 40 = .ok (.getfield 85, 3) := by decide +kernel
theorem dX10_done_43 : decode cX10_done 43 = .ok (.iconst 1, 1) := by decide +kernel
theorem dX10_done_44 : decode cX10_done 44 = .ok (.isub, 1) := by decide +kernel
theorem dX10_done_45 : decode cX10_done 45 = .ok (.putfield 85, 3) := by decide +kernel
theorem dX10_done_48 : decode cX10_done 48 = .ok (.iconst 0, 1) := by decide +kernel
theorem dX10_done_49 : decode cX10_done 49 = .ok (.istore_n 2, 1) := by decide +kernel
theorem dX10_done_50 : decode cX10_done 50 = .ok (.iload_n 2, 1) := by decide +kernel
theorem dX10_done_51 : decode cX10_done 51 = .ok (.ldc 20, 2) := by decide +kernel
theorem dX10_done_53 : decode cX10_done 53 = .ok (.if_icmp .ge 29, 3) := by decide +kernel
theorem dX10_done_56 : decode cX10_done 56 = .ok (.aload_n 0, 1) := by decide +kernel
theorem dX10_done_57 : decode cX10_done 57 = .ok (.getfield 37, 3) := by decide +kernel
theorem dX10_done_60 : decode cX10_done 60 = .ok (.ldc 20, 2) := by decide +kernel
theorem dX10_done_62 : decode cX10_done 62 = .ok (.aload_n 0, 1) := by decide +kernel
theorem dX10_done_63 : decode cX10_done 63 = .ok (.getfield 85, 3) := by decide +kernel
theorem dX10_done_66 : decode cX10_done 66 = .ok (.imul, 1) := by decide +kernel
theorem dX10_done_67 : decode cX10_done 67 = .ok (.iload_n 2, 1) := by decide +kernel
theorem dX10_done_68 : decode cX10_done 68 = .ok (.iadd, 1) := by decide +kernel
theorem dX10_done_69 : decode cX10_done 69 = .ok (.aload_n 0, 1) := by decide +kernel
theorem dX10_done_70 : decode cX10_done 70 = .ok (.getfield 27, 3) := by decide +kernel
theorem dX10_done_73 : decode cX10_done 73 = .ok (.iload_n 2, 1) := by decide +kernel
theorem dX10_done_74 : decode cX10_done 74 = .ok (.iaload, 1) := by decide +kernel
theorem dX10_done_75 : decode cX10_done 75 = .ok (.iastore, 1) := by decide +kernel
theorem dX10_done_76 : decode cX10_done 76 = .ok (.iinc 2 1, 3) := by decide +kernel
theorem dX10_done_79 : decode cX10_done 79 = .ok (.goto (-29), 3) := by decide +kernel
theorem dX10_done_82 : decode cX10_done 82 = .ok (.aload_n 0, 1) := by decide +kernel
theorem dX10_done_83 : decode cX10_done 83 = .ok (.aload_n 0, 1) := by decide +kernel
theorem dX10_done_84 : decode cX10_done 84 = .ok (.getfield 85, 3) := by decide +kernel
theorem dX10_done_87 : decode cX10_done 87 = .ok (.iconst 1, 1) := by decide +kernel
theorem dX10_done_88 : decode cX10_done 88 = .ok (.iadd, 1) := by decide +kernel
theorem dX10_done_89 : decode cX10_done 89 = .ok (.putfield 85, 3) := by decide +kernel
theorem dX10_done_92 : decode cX10_done 92 = .ok (.iload_n 1, 1) := by decide +kernel
theorem dX10_done_93 : decode cX10_done 93 = .ok (.ireturn, 1) := by decide +kernel
theorem hyX10_done : yX10_done.cls ≠ "java/lang/invoke/MethodHandle" ∧ yX10_done.cls ≠ "java/lang/invoke/VarHandle" ∧ (parseMethodDescriptor yX10_done.desc).map (fun d => d.parameters.length) = some 1 := ⟨by decide +kernel, by decide +kernel, by decide +kernel⟩
set_option maxRecDepth 100000 in
set_option maxHeartbeats 4000000 in
theorem wsX10_done_50b (C : zC p s m args meth c cX10_done RX10 3 D Ca B En) (hRm : zRm R 0 0 cells slots) (x0 : Nat) (x1 : Int32) (σ : zS) (u2 : Int32) (y : (zS × Int32) ⊕ zS) (hf : sX10_done_50b x0 x1 σ u2 = some y) (hk : (∀ z : (zS × Int32), y = .inl z → zW p l e R s m args below meth c cells slots Q D Ca B 3 z.1 N 50 [(0, .ref x0), (1, .int x1), (2, .int z.2)] []) ∧ (∀ z : zS, y = .inr z → zW p l e R s m args below meth c cells slots Q D Ca B 3 z N 82 [(0, .ref x0), (1, .int x1)] [])) : zW p l e R s m args below meth c cells slots Q D Ca B 3 σ N 50 [(0, .ref x0), (1, .int x1), (2, .int u2)] [] := by
  unfold sX10_done_50b at hf
  refine z_iload_n C dX10_done_50 rfl 2 rfl ?_
  refine z_ldc C kw_1251 (zi 33894) (by decide) dX10_done_51 ?_
  refine z_icmp_ge C 82 dX10_done_53 (by decide) (fun q7 => ?_) (fun q7 => ?_)
  · rw [if_pos q7] at hf
    cases hf
    refine z_sub [0, 1] rfl ?_
    exact hk.2 _ rfl
  · rw [if_neg q7] at hf
    refine z_aload_n C dX10_done_56 rfl 0 rfl ?_
    obtain ⟨v2, hv2, hf⟩ := zbind hf
    refine gf_RX10_37 C hv2 dX10_done_57 ?_
    refine z_ldc C kw_1251 (zi 33894) (by decide) dX10_done_60 ?_
    refine z_aload_n C dX10_done_62 rfl 0 rfl ?_
    obtain ⟨v3, hv3, hf⟩ := zbind hf
    refine gf_RX10_85 C hv3 dX10_done_63 ?_
    refine z_imul C dX10_done_66 ?_
    refine z_iload_n C dX10_done_67 rfl 2 rfl ?_
    refine z_iadd C dX10_done_68 ?_
    refine z_aload_n C dX10_done_69 rfl 0 rfl ?_
    obtain ⟨v4, hv4, hf⟩ := zbind hf
    refine gf_RX10_27 C hv4 dX10_done_70 ?_
    refine z_iload_n C dX10_done_73 rfl 2 rfl ?_
    obtain ⟨v5, hv5, hf⟩ := zbind hf
    refine z_aI C hv5 dX10_done_74 ?_
    obtain ⟨σ6, hσ6, hf⟩ := zbind hf
    refine z_sI C hσ6 dX10_done_75 ?_
    refine z_iinc (lv2 := [(2, .int (u2 + (zi 1))), (0, .ref x0), (1, .int x1)]) C (u2 + (zi 1)) dX10_done_76 2 rfl rfl (by decide) rfl ?_
    refine z_goto C 50 dX10_done_79 (by decide) ?_
    cases hf
    refine z_sub [1, 2, 0] rfl ?_
    exact hk.1 _ rfl

theorem wsX10_done_50 (C : zC p s m args meth c cX10_done RX10 3 D Ca B En) (hRm : zRm R 0 0 cells slots) (x0 : Nat) (x1 : Int32) (n : Nat) (z : (zS × Int32)) (x : zS) (hf : zloop (sX10_done_50 x0 x1) n z = some x) (hk : (∀ o : zS, x = o → zW p l e R s m args below meth c cells slots Q D Ca B 3 o N 82 [(0, .ref x0), (1, .int x1)] [])) : zW p l e R s m args below meth c cells slots Q D Ca B 3 z.1 N 50 [(0, .ref x0), (1, .int x1), (2, .int z.2)] [] := by
  refine zloop_W (P := fun z : (zS × Int32) => zW p l e R s m args below meth c cells slots Q D Ca B 3 z.1 N 50 [(0, .ref x0), (1, .int x1), (2, .int z.2)] []) (K := fun x : zS => (∀ o : zS, x = o → zW p l e R s m args below meth c cells slots Q D Ca B 3 o N 82 [(0, .ref x0), (1, .int x1)] [])) ?_ n z x hf hk
  intro z y hy h1 h2
  refine wsX10_done_50b C hRm x0 x1 z.1 z.2 y hy ⟨fun z2 e => h1 z2 e, fun o e => (h2 _ e) o rfl⟩
set_option maxRecDepth 100000 in
set_option maxHeartbeats 4000000 in
theorem wjX10_done_48 (C : zC p s m args meth c cX10_done RX10 3 D Ca B En) (hRm : zRm R 0 0 cells slots) (σ : zS) (x0 : Nat) (x1 : Int32)  (τ : zS) (r : Int32) (hf : jX10_done_48 σ x0 x1  = some (τ, r)) (hq : ∀ (pc : Nat) (lv : List (Nat × Value)), decode cX10_done pc = .ok (.ireturn, 1) → zW p l e R s m args below meth c cells slots Q D Ca B 3 τ N pc lv [.int r]) : zW p l e R s m args below meth c cells slots Q D Ca B 3 σ N 48 [(0, .ref x0), (1, .int x1)] [] := by
  unfold jX10_done_48 at hf
  refine z_iconst C (zi 0) dX10_done_48 (by decide) ?_
  refine z_istore_n (lv2 := [(2, .int ((zi 0))), (0, .ref x0), (1, .int x1)]) C dX10_done_49 rfl (by decide) rfl ?_
  obtain ⟨o8, ho8, hf⟩ := zbind hf
  refine z_sub [1, 2, 0] rfl ?_
  refine wsX10_done_50 C hRm _ _ zfuel (σ, (zi 0)) o8 ho8 ?_
  intro z9 e9
  subst e9
  refine z_aload_n C dX10_done_82 rfl 0 rfl ?_
  refine z_aload_n C dX10_done_83 rfl 0 rfl ?_
  obtain ⟨v9, hv9, hf⟩ := zbind hf
  refine gf_RX10_85 C hv9 dX10_done_84 ?_
  refine z_iconst C (zi 1) dX10_done_87 (by decide) ?_
  refine z_iadd C dX10_done_88 ?_
  obtain ⟨σ10, hσ10, hf⟩ := zbind hf
  refine gp_RX10_85 C hσ10 dX10_done_89 ?_
  refine z_iload_n C dX10_done_92 rfl 1 rfl ?_
  cases hf
  exact hq _ _ dX10_done_93

set_option maxRecDepth 100000 in
set_option maxHeartbeats 4000000 in
theorem wsX10_done_11b (C : zC p s m args meth c cX10_done RX10 3 D Ca B En) (hRm : zRm R 0 0 cells slots) (x0 : Nat) (x1 : Int32) (σ : zS) (u2 : Int32) (y : (zS × Int32) ⊕ zS) (hf : sX10_done_11b x0 x1 σ u2 = some y) (hk : (∀ z : (zS × Int32), y = .inl z → zW p l e R s m args below meth c cells slots Q D Ca B 3 z.1 N 11 [(0, .ref x0), (1, .int x1), (2, .int z.2)] []) ∧ (∀ z : zS, y = .inr z → zW p l e R s m args below meth c cells slots Q D Ca B 3 z N 38 [(0, .ref x0), (1, .int x1)] [])) : zW p l e R s m args below meth c cells slots Q D Ca B 3 σ N 11 [(0, .ref x0), (1, .int x1), (2, .int u2)] [] := by
  unfold sX10_done_11b at hf
  refine z_iload_n C dX10_done_11 rfl 2 rfl ?_
  refine z_ldc C kw_1579 (zi 169470) (by decide) dX10_done_12 ?_
  refine z_icmp_ge C 38 dX10_done_14 (by decide) (fun q15 => ?_) (fun q15 => ?_)
  · rw [if_pos q15] at hf
    cases hf
    refine z_sub [0, 1] rfl ?_
    exact hk.2 _ rfl
  · rw [if_neg q15] at hf
    refine z_aload_n C dX10_done_17 rfl 0 rfl ?_
    obtain ⟨v11, hv11, hf⟩ := zbind hf
    refine gf_RX10_37 C hv11 dX10_done_18 ?_
    refine z_iload_n C dX10_done_21 rfl 2 rfl ?_
    refine z_aload_n C dX10_done_22 rfl 0 rfl ?_
    obtain ⟨v12, hv12, hf⟩ := zbind hf
    refine gf_RX10_37 C hv12 dX10_done_23 ?_
    refine z_iload_n C dX10_done_26 rfl 2 rfl ?_
    refine z_ldc C kw_1251 (zi 33894) (by decide) dX10_done_27 ?_
    refine z_iadd C dX10_done_29 ?_
    obtain ⟨v13, hv13, hf⟩ := zbind hf
    refine z_aI C hv13 dX10_done_30 ?_
    obtain ⟨σ14, hσ14, hf⟩ := zbind hf
    refine z_sI C hσ14 dX10_done_31 ?_
    refine z_iinc (lv2 := [(2, .int (u2 + (zi 1))), (0, .ref x0), (1, .int x1)]) C (u2 + (zi 1)) dX10_done_32 2 rfl rfl (by decide) rfl ?_
    refine z_goto C 11 dX10_done_35 (by decide) ?_
    cases hf
    refine z_sub [1, 2, 0] rfl ?_
    exact hk.1 _ rfl

theorem wsX10_done_11 (C : zC p s m args meth c cX10_done RX10 3 D Ca B En) (hRm : zRm R 0 0 cells slots) (x0 : Nat) (x1 : Int32) (n : Nat) (z : (zS × Int32)) (x : zS) (hf : zloop (sX10_done_11 x0 x1) n z = some x) (hk : (∀ o : zS, x = o → zW p l e R s m args below meth c cells slots Q D Ca B 3 o N 38 [(0, .ref x0), (1, .int x1)] [])) : zW p l e R s m args below meth c cells slots Q D Ca B 3 z.1 N 11 [(0, .ref x0), (1, .int x1), (2, .int z.2)] [] := by
  refine zloop_W (P := fun z : (zS × Int32) => zW p l e R s m args below meth c cells slots Q D Ca B 3 z.1 N 11 [(0, .ref x0), (1, .int x1), (2, .int z.2)] []) (K := fun x : zS => (∀ o : zS, x = o → zW p l e R s m args below meth c cells slots Q D Ca B 3 o N 38 [(0, .ref x0), (1, .int x1)] [])) ?_ n z x hf hk
  intro z y hy h1 h2
  refine wsX10_done_11b C hRm x0 x1 z.1 z.2 y hy ⟨fun z2 e => h1 z2 e, fun o e => (h2 _ e) o rfl⟩
set_option maxRecDepth 100000 in
set_option maxHeartbeats 4000000 in
theorem wfX10_done (C : zC p s m args meth c cX10_done RX10 3 D Ca B En) (hRm : zRm R 0 0 cells slots) (σ : zS) (x0 : Nat) (x1 : Int32) (τ : zS) (r : Int32) (hf : fX10_done σ x0 x1 = some (τ, r)) (hq : ∀ (pc : Nat) (lv : List (Nat × Value)), decode cX10_done pc = .ok (.ireturn, 1) → zW p l e R s m args below meth c cells slots Q D Ca B 3 τ N pc lv [.int r]) : zW p l e R s m args below meth c cells slots Q D Ca B 3 σ N 0 [(0, .ref x0), (1, .int x1)] [] := by
  unfold fX10_done at hf
  refine z_aload_n C dX10_done_0 rfl 0 rfl ?_
  obtain ⟨v1, hv1, hf⟩ := zbind hf
  refine gf_RX10_85 C hv1 dX10_done_1 ?_
  refine z_bipush C (zi 6) dX10_done_4 (by decide) ?_
  refine z_icmp_ne C 48 dX10_done_6 (by decide) (fun q19 => ?_) (fun q19 => ?_)
  · rw [if_neg q19] at hf
    refine z_sub [0, 1] rfl ?_
    exact wjX10_done_48 C hRm _ _ _  _ _ hf hq
  · rw [if_pos q19] at hf
    refine z_iconst C (zi 0) dX10_done_9 (by decide) ?_
    refine z_istore_n (lv2 := [(2, .int ((zi 0))), (0, .ref x0), (1, .int x1)]) C dX10_done_10 rfl (by decide) rfl ?_
    obtain ⟨o16, ho16, hf⟩ := zbind hf
    refine z_sub [1, 2, 0] rfl ?_
    refine wsX10_done_11 C hRm _ _ zfuel (σ, (zi 0)) o16 ho16 ?_
    intro z9 e9
    subst e9
    refine z_aload_n C dX10_done_38 rfl 0 rfl ?_
    refine z_aload_n C dX10_done_39 rfl 0 rfl ?_
    obtain ⟨v17, hv17, hf⟩ := zbind hf
    refine gf_RX10_85 C hv17 dX10_done_40 ?_
    refine z_iconst C (zi 1) dX10_done_43 (by decide) ?_
    refine z_isub C dX10_done_44 ?_
    obtain ⟨σ18, hσ18, hf⟩ := zbind hf
    refine gp_RX10_85 C hσ18 dX10_done_45 ?_
    refine z_sub [0, 1] rfl ?_
    exact wjX10_done_48 C hRm _ _ _  _ _ hf hq

theorem mX10_done (l : Launch) (D : va_G) (Ca : Nat → ClassId) (B : Nat) (En : State → Prop) (hE : zEk B En) (σ : zS) (N : Nat) (x0 : Nat) (x1 : Int32) (X : zS × Int32) (hf : fX10_done σ x0 x1 = some X) : zMi l D Ca B En yX10_done cX10_done 3 (Option.some Jvm.ClassFile.FieldType.int) 0 0 [.ref x0, .int x1] σ N X.1 X.2 :=
  zMet_i (own := RX10) hE (by decide +kernel) rfl (Nat.le_of_ble_eq_true rfl) (fun p e s m args below meth c C hr hRm => wfX10_done C hRm σ x0 x1 X.1 X.2 hf (fun pc lv hd => zfin_i C hr hd))
theorem dX10_undo_0 : decode cX10_undo 0 = .ok (.aload_n 0, 1) := by decide +kernel
theorem dX10_undo_1 : decode cX10_undo 1 = .ok (.aload_n 0, 1) := by decide +kernel
theorem dX10_undo_2 : decode cX10_undo 2 = .ok (.getfield 85, 3) := by decide +kernel
theorem dX10_undo_5 : decode cX10_undo 5 = .ok (.ifCond .le 7, 3) := by decide +kernel
theorem dX10_undo_8 : decode cX10_undo 8 = .ok (.iconst 1, 1) := by decide +kernel
theorem dX10_undo_9 : decode cX10_undo 9 = .ok (.goto 4, 3) := by decide +kernel
theorem dX10_undo_12 : decode cX10_undo 12 = .ok (.iconst 0, 1) := by decide +kernel
theorem dX10_undo_13 : decode cX10_undo 13 = .ok (.invokevirtual 96, 3) := by decide +kernel
theorem dX10_undo_16 : decode cX10_undo 16 = .ok (.ifCond .ne 5, 3) := by decide +kernel
theorem dX10_undo_19 : decode cX10_undo 19 = .ok (.iconst 0, 1) := by decide +kernel
theorem dX10_undo_20 : decode cX10_undo 20 = .ok (.ireturn, 1) := by decide +kernel
theorem dX10_undo_21 : decode cX10_undo 21 = .ok (.aload_n 0, 1) := by decide +kernel
theorem dX10_undo_22 : decode cX10_undo 22 = .ok (.aload_n 0, 1) := by decide +kernel
theorem dX10_undo_23 : decode cX10_undo 23 = .ok (.getfield 85, 3) := by decide +kernel
theorem dX10_undo_26 : decode cX10_undo 26 = .ok (.iconst 1, 1) := by decide +kernel
theorem dX10_undo_27 : decode cX10_undo 27 = .ok (.isub, 1) := by decide +kernel
theorem dX10_undo_28 : decode cX10_undo 28 = .ok (.putfield 85, 3) := by decide +kernel
theorem dX10_undo_31 : decode cX10_undo 31 = .ok (.iconst 0, 1) := by decide +kernel
theorem dX10_undo_32 : decode cX10_undo 32 = .ok (.istore_n 1, 1) := by decide +kernel
theorem dX10_undo_33 : decode cX10_undo 33 = .ok (.iload_n 1, 1) := by decide +kernel
theorem dX10_undo_34 : decode cX10_undo 34 = .ok (.ldc 20, 2) := by decide +kernel
theorem dX10_undo_36 : decode cX10_undo 36 = .ok (.if_icmp .ge 29, 3) := by decide +kernel
theorem dX10_undo_39 : decode cX10_undo 39 = .ok (.aload_n 0, 1) := by decide +kernel
theorem dX10_undo_40 : decode cX10_undo 40 = .ok (.getfield 21, 3) := by decide +kernel
theorem dX10_undo_43 : decode cX10_undo 43 = .ok (.iload_n 1, 1) := by decide +kernel
theorem dX10_undo_44 : decode cX10_undo 44 = .ok (.aload_n 0, 1) := by decide +kernel
theorem dX10_undo_45 : decode cX10_undo 45 = .ok (.getfield 37, 3) := by decide +kernel
theorem dX10_undo_48 : decode cX10_undo 48 = .ok (.ldc 20, 2) := by decide +kernel
theorem dX10_undo_50 : decode cX10_undo 50 = .ok (.aload_n 0, 1) := by decide +kernel
theorem dX10_undo_51 : decode cX10_undo 51 = .ok (.getfield 85, 3) := by decide +kernel
theorem dX10_undo_54 : decode cX10_undo 54 = .ok (.imul, 1) := by decide +kernel
theorem dX10_undo_55 : decode cX10_undo 55 = .ok (.iload_n 1, 1) := by decide +kernel
theorem dX10_undo_56 : decode cX10_undo 56 = .ok (.iadd, 1) := by decide +kernel
theorem dX10_undo_57 : decode cX10_undo 57 = .ok (.iaload, 1) := by decide +kernel
theorem dX10_undo_58 : decode cX10_undo 58 = .ok (.iastore, 1) := by decide +kernel
theorem dX10_undo_59 : decode cX10_undo 59 = .ok (.iinc 1 1, 3) := by decide +kernel
theorem dX10_undo_62 : decode cX10_undo 62 = .ok (.goto (-29), 3) := by decide +kernel
theorem dX10_undo_65 : decode cX10_undo 65 = .ok (.aload_n 0, 1) := by decide +kernel
theorem dX10_undo_66 : decode cX10_undo 66 = .ok (.getfield 85, 3) := by decide +kernel
theorem dX10_undo_69 : decode cX10_undo 69 = .ok (.ireturn, 1) := by decide +kernel
theorem hyX10_undo : yX10_undo.cls ≠ "java/lang/invoke/MethodHandle" ∧ yX10_undo.cls ≠ "java/lang/invoke/VarHandle" ∧ (parseMethodDescriptor yX10_undo.desc).map (fun d => d.parameters.length) = some 0 := ⟨by decide +kernel, by decide +kernel, by decide +kernel⟩
set_option maxRecDepth 100000 in
set_option maxHeartbeats 4000000 in
theorem wsX10_undo_33b (C : zC p s m args meth c cX10_undo RX10 2 D Ca B En) (hRm : zRm R 1 21 cells slots) (x0 : Nat) (σ : zS) (u1 : Int32) (y : (zS × Int32) ⊕ zS) (hf : sX10_undo_33b x0 σ u1 = some y) (hk : (∀ z : (zS × Int32), y = .inl z → zW p l e R s m args below meth c cells slots Q D Ca B 2 z.1 N 33 [(0, .ref x0), (1, .int z.2)] []) ∧ (∀ z : zS, y = .inr z → zW p l e R s m args below meth c cells slots Q D Ca B 2 z N 65 [(0, .ref x0)] [])) : zW p l e R s m args below meth c cells slots Q D Ca B 2 σ N 33 [(0, .ref x0), (1, .int u1)] [] := by
  unfold sX10_undo_33b at hf
  refine z_iload_n C dX10_undo_33 rfl 1 rfl ?_
  refine z_ldc C kw_1251 (zi 33894) (by decide) dX10_undo_34 ?_
  refine z_icmp_ge C 65 dX10_undo_36 (by decide) (fun q10 => ?_) (fun q10 => ?_)
  · rw [if_pos q10] at hf
    cases hf
    refine z_sub [0] rfl ?_
    exact hk.2 _ rfl
  · rw [if_neg q10] at hf
    refine z_aload_n C dX10_undo_39 rfl 0 rfl ?_
    obtain ⟨v5, hv5, hf⟩ := zbind hf
    refine gf_RX10_21 C hv5 dX10_undo_40 ?_
    refine z_iload_n C dX10_undo_43 rfl 1 rfl ?_
    refine z_aload_n C dX10_undo_44 rfl 0 rfl ?_
    obtain ⟨v6, hv6, hf⟩ := zbind hf
    refine gf_RX10_37 C hv6 dX10_undo_45 ?_
    refine z_ldc C kw_1251 (zi 33894) (by decide) dX10_undo_48 ?_
    refine z_aload_n C dX10_undo_50 rfl 0 rfl ?_
    obtain ⟨v7, hv7, hf⟩ := zbind hf
    refine gf_RX10_85 C hv7 dX10_undo_51 ?_
    refine z_imul C dX10_undo_54 ?_
    refine z_iload_n C dX10_undo_55 rfl 1 rfl ?_
    refine z_iadd C dX10_undo_56 ?_
    obtain ⟨v8, hv8, hf⟩ := zbind hf
    refine z_aI C hv8 dX10_undo_57 ?_
    obtain ⟨σ9, hσ9, hf⟩ := zbind hf
    refine z_sI C hσ9 dX10_undo_58 ?_
    refine z_iinc (lv2 := [(1, .int (u1 + (zi 1))), (0, .ref x0)]) C (u1 + (zi 1)) dX10_undo_59 1 rfl rfl (by decide) rfl ?_
    refine z_goto C 33 dX10_undo_62 (by decide) ?_
    cases hf
    refine z_sub [1, 0] rfl ?_
    exact hk.1 _ rfl

theorem wsX10_undo_33 (C : zC p s m args meth c cX10_undo RX10 2 D Ca B En) (hRm : zRm R 1 21 cells slots) (x0 : Nat) (n : Nat) (z : (zS × Int32)) (x : zS) (hf : zloop (sX10_undo_33 x0) n z = some x) (hk : (∀ o : zS, x = o → zW p l e R s m args below meth c cells slots Q D Ca B 2 o N 65 [(0, .ref x0)] [])) : zW p l e R s m args below meth c cells slots Q D Ca B 2 z.1 N 33 [(0, .ref x0), (1, .int z.2)] [] := by
  refine zloop_W (P := fun z : (zS × Int32) => zW p l e R s m args below meth c cells slots Q D Ca B 2 z.1 N 33 [(0, .ref x0), (1, .int z.2)] []) (K := fun x : zS => (∀ o : zS, x = o → zW p l e R s m args below meth c cells slots Q D Ca B 2 o N 65 [(0, .ref x0)] [])) ?_ n z x hf hk
  intro z y hy h1 h2
  refine wsX10_undo_33b C hRm x0 z.1 z.2 y hy ⟨fun z2 e => h1 z2 e, fun o e => (h2 _ e) o rfl⟩
set_option maxRecDepth 100000 in
set_option maxHeartbeats 4000000 in
theorem wjX10_undo_13 (C : zC p s m args meth c cX10_undo RX10 2 D Ca B En) (hRm : zRm R 1 21 cells slots) (σ : zS) (x0 : Nat) (y0 : Int32) (y1 : Nat) (τ : zS) (r : Int32) (hf : jX10_undo_13 σ x0 y0 y1 = some (τ, r)) (hq : ∀ (pc : Nat) (lv : List (Nat × Value)), decode cX10_undo pc = .ok (.ireturn, 1) → zW p l e R s m args below meth c cells slots Q D Ca B 2 τ N pc lv [.int r]) : zW p l e R s m args below meth c cells slots Q D Ca B 2 σ N 13 [(0, .ref x0)] [.int y0, .ref y1] := by
  unfold jX10_undo_13 at hf
  obtain ⟨c2, hc2, hf⟩ := zbind hf
  obtain ⟨kc2, hc2⟩ := zck_ok hc2
  refine z_callVi (As := [.int y0]) (F0 := 1) (L0 := 21) C (mX10_is l D Ca B En C.2.2.2.2.2.2.2.1 σ N y1 y0 _ hc2) hRm kc2 rfl kw_1373 kw_14 kw_1370 kw_1372 kp_37 hyX10_is (Nat.le_of_ble_eq_true rfl) (Nat.le_of_ble_eq_true rfl) rfl rfl (Nat.le_of_ble_eq_true rfl) dX10_undo_13 ?_
  refine z_if_ne C 21 dX10_undo_16 (by decide) (fun q13 => ?_) (fun q13 => ?_)
  · rw [if_neg q13] at hf
    refine z_aload_n C dX10_undo_21 rfl 0 rfl ?_
    refine z_aload_n C dX10_undo_22 rfl 0 rfl ?_
    obtain ⟨v3, hv3, hf⟩ := zbind hf
    refine gf_RX10_85 C hv3 dX10_undo_23 ?_
    refine z_iconst C (zi 1) dX10_undo_26 (by decide) ?_
    refine z_isub C dX10_undo_27 ?_
    obtain ⟨σ4, hσ4, hf⟩ := zbind hf
    refine gp_RX10_85 C hσ4 dX10_undo_28 ?_
    refine z_iconst C (zi 0) dX10_undo_31 (by decide) ?_
    refine z_istore_n (lv2 := [(1, .int ((zi 0))), (0, .ref x0)]) C dX10_undo_32 rfl (by decide) rfl ?_
    obtain ⟨o11, ho11, hf⟩ := zbind hf
    refine z_sub [1, 0] rfl ?_
    refine wsX10_undo_33 C hRm _ zfuel (σ4, (zi 0)) o11 ho11 ?_
    intro z9 e9
    subst e9
    refine z_aload_n C dX10_undo_65 rfl 0 rfl ?_
    obtain ⟨v12, hv12, hf⟩ := zbind hf
    refine gf_RX10_85 C hv12 dX10_undo_66 ?_
    cases hf
    exact hq _ _ dX10_undo_69
  · rw [if_pos q13] at hf
    refine z_iconst C (zi 0) dX10_undo_19 (by decide) ?_
    cases hf
    exact hq _ _ dX10_undo_20

set_option maxRecDepth 100000 in
set_option maxHeartbeats 4000000 in
theorem wfX10_undo (C : zC p s m args meth c cX10_undo RX10 2 D Ca B En) (hRm : zRm R 1 21 cells slots) (σ : zS) (x0 : Nat) (τ : zS) (r : Int32) (hf : fX10_undo σ x0 = some (τ, r)) (hq : ∀ (pc : Nat) (lv : List (Nat × Value)), decode cX10_undo pc = .ok (.ireturn, 1) → zW p l e R s m args below meth c cells slots Q D Ca B 2 τ N pc lv [.int r]) : zW p l e R s m args below meth c cells slots Q D Ca B 2 σ N 0 [(0, .ref x0)] [] := by
  unfold fX10_undo at hf
  refine z_aload_n C dX10_undo_0 rfl 0 rfl ?_
  refine z_aload_n C dX10_undo_1 rfl 0 rfl ?_
  obtain ⟨v1, hv1, hf⟩ := zbind hf
  refine gf_RX10_85 C hv1 dX10_undo_2 ?_
  refine z_if_le C 12 dX10_undo_5 (by decide) (fun q14 => ?_) (fun q14 => ?_)
  · rw [if_pos q14] at hf
    refine z_iconst C (zi 0) dX10_undo_12 (by decide) ?_
    refine z_sub [0] rfl ?_
    exact wjX10_undo_13 C hRm _ _ _ _ _ _ hf hq
  · rw [if_neg q14] at hf
    refine z_iconst C (zi 1) dX10_undo_8 (by decide) ?_
    refine z_goto C 13 dX10_undo_9 (by decide) ?_
    refine z_sub [0] rfl ?_
    exact wjX10_undo_13 C hRm _ _ _ _ _ _ hf hq

theorem mX10_undo (l : Launch) (D : va_G) (Ca : Nat → ClassId) (B : Nat) (En : State → Prop) (hE : zEk B En) (σ : zS) (N : Nat) (x0 : Nat) (X : zS × Int32) (hf : fX10_undo σ x0 = some X) : zMi l D Ca B En yX10_undo cX10_undo 2 (Option.some Jvm.ClassFile.FieldType.int) 1 21 [.ref x0] σ N X.1 X.2 :=
  zMet_i (own := RX10) hE (by decide +kernel) rfl (Nat.le_of_ble_eq_true rfl) (fun p e s m args below meth c C hr hRm => wfX10_undo C hRm σ x0 X.1 X.2 hf (fun pc lv hd => zfin_i C hr hd))
theorem dX10_saveState_0 : decode cX10_saveState 0 = .ok (.aload_n 0, 1) := by decide +kernel
theorem dX10_saveState_1 : decode cX10_saveState 1 = .ok (.iconst 0, 1) := by decide +kernel
theorem dX10_saveState_2 : decode cX10_saveState 2 = .ok (.putfield 92, 3) := by decide +kernel
theorem dX10_saveState_5 : decode cX10_saveState 5 = .ok (.aload_n 0, 1) := by decide +kernel
theorem dX10_saveState_6 : decode cX10_saveState 6 = .ok (.getfield 21, 3) := by decide +kernel
theorem dX10_saveState_9 : decode cX10_saveState 9 = .ok (.aload_n 0, 1) := by decide +kernel
theorem dX10_saveState_10 : decode cX10_saveState 10 = .ok (.getfield 33, 3) := by decide +kernel
theorem dX10_saveState_13 : decode cX10_saveState 13 = .ok (.invokestatic 81, 3) := by decide +kernel
theorem dX10_saveState_16 : decode cX10_saveState 16 = .ok (.aload_n 0, 1) := by decide +kernel
theorem dX10_saveState_17 : decode cX10_saveState 17 = .ok (.iconst 1, 1) := by decide +kernel
theorem dX10_saveState_18 : decode cX10_saveState 18 = .ok (.putfield 88, 3) := by decide +kernel
theorem dX10_saveState_21 : decode cX10_saveState 21 = .ok (.aload_n 0, 1) := by decide +kernel
theorem dX10_saveState_22 : decode cX10_saveState 22 = .ok (.getfield 21, 3) := by decide +kernel
theorem dX10_saveState_25 : decode cX10_saveState 25 = .ok (.iconst 0, 1) := by decide +kernel
theorem dX10_saveState_26 : decode cX10_saveState 26 = .ok (.iaload, 1) := by decide +kernel
theorem dX10_saveState_27 : decode cX10_saveState 27 = .ok (.ireturn, 1) := by decide +kernel
theorem hyX10_saveState : yX10_saveState.cls ≠ "java/lang/invoke/MethodHandle" ∧ yX10_saveState.cls ≠ "java/lang/invoke/VarHandle" ∧ (parseMethodDescriptor yX10_saveState.desc).map (fun d => d.parameters.length) = some 0 := ⟨by decide +kernel, by decide +kernel, by decide +kernel⟩
set_option maxRecDepth 100000 in
set_option maxHeartbeats 4000000 in
theorem wfX10_saveState (C : zC p s m args meth c cX10_saveState RX10 1 D Ca B En) (hRm : zRm R 1 22 cells slots) (σ : zS) (x0 : Nat) (τ : zS) (r : Int32) (hf : fX10_saveState σ x0 = some (τ, r)) (hq : ∀ (pc : Nat) (lv : List (Nat × Value)), decode cX10_saveState pc = .ok (.ireturn, 1) → zW p l e R s m args below meth c cells slots Q D Ca B 1 τ N pc lv [.int r]) : zW p l e R s m args below meth c cells slots Q D Ca B 1 σ N 0 [(0, .ref x0)] [] := by
  unfold fX10_saveState at hf
  refine z_aload_n C dX10_saveState_0 rfl 0 rfl ?_
  refine z_iconst C (zi 0) dX10_saveState_1 (by decide) ?_
  obtain ⟨σ1, hσ1, hf⟩ := zbind hf
  refine gp_RX10_92 C hσ1 dX10_saveState_2 ?_
  refine z_aload_n C dX10_saveState_5 rfl 0 rfl ?_
  obtain ⟨v2, hv2, hf⟩ := zbind hf
  refine gf_RX10_21 C hv2 dX10_saveState_6 ?_
  refine z_aload_n C dX10_saveState_9 rfl 0 rfl ?_
  obtain ⟨v3, hv3, hf⟩ := zbind hf
  refine gf_RX10_33 C hv3 dX10_saveState_10 ?_
  obtain ⟨c4, hc4, hf⟩ := zbind hf
  refine z_callSv (As := [.ref v2, .ref v3]) (F0 := 1) (L0 := 22) C (mX10_copies l D Ca B En C.2.2.2.2.2.2.2.1 σ1 N v2 v3 _ hc4) hRm kw_1263 kw_14 kw_1261 kw_1262 hyX10_copies (Nat.le_of_ble_eq_true rfl) (Nat.le_of_ble_eq_true rfl) rfl rfl (Nat.le_of_ble_eq_true rfl) dX10_saveState_13 ?_
  refine z_aload_n C dX10_saveState_16 rfl 0 rfl ?_
  refine z_iconst C (zi 1) dX10_saveState_17 (by decide) ?_
  obtain ⟨σ5, hσ5, hf⟩ := zbind hf
  refine gp_RX10_88 C hσ5 dX10_saveState_18 ?_
  refine z_aload_n C dX10_saveState_21 rfl 0 rfl ?_
  obtain ⟨v6, hv6, hf⟩ := zbind hf
  refine gf_RX10_21 C hv6 dX10_saveState_22 ?_
  refine z_iconst C (zi 0) dX10_saveState_25 (by decide) ?_
  obtain ⟨v7, hv7, hf⟩ := zbind hf
  refine z_aI C hv7 dX10_saveState_26 ?_
  cases hf
  exact hq _ _ dX10_saveState_27

theorem mX10_saveState (l : Launch) (D : va_G) (Ca : Nat → ClassId) (B : Nat) (En : State → Prop) (hE : zEk B En) (σ : zS) (N : Nat) (x0 : Nat) (X : zS × Int32) (hf : fX10_saveState σ x0 = some X) : zMi l D Ca B En yX10_saveState cX10_saveState 1 (Option.some Jvm.ClassFile.FieldType.int) 1 22 [.ref x0] σ N X.1 X.2 :=
  zMet_i (own := RX10) hE (by decide +kernel) rfl (Nat.le_of_ble_eq_true rfl) (fun p e s m args below meth c C hr hRm => wfX10_saveState C hRm σ x0 X.1 X.2 hf (fun pc lv hd => zfin_i C hr hd))
theorem dX10_restoreState_0 : decode cX10_restoreState 0 = .ok (.aload_n 0, 1) := by decide +kernel
theorem dX10_restoreState_1 : decode cX10_restoreState 1 = .ok (.aload_n 0, 1) := by decide +kernel
theorem dX10_restoreState_2 : decode cX10_restoreState 2 = .ok (.getfield 88, 3) := by decide +kernel
theorem dX10_restoreState_5 : decode cX10_restoreState 5 = .ok (.invokevirtual 96, 3) := by decide +kernel
theorem dX10_restoreState_8 : decode cX10_restoreState 8 = .ok (.ifCond .ne 5, 3) := by decide +kernel
theorem dX10_restoreState_11 : decode cX10_restoreState 11 = .ok (.iconst 0, 1) := by decide +kernel
theorem dX10_restoreState_12 : decode cX10_restoreState 12 = .ok (.ireturn, 1) := by decide +kernel
theorem dX10_restoreState_13 : decode cX10_restoreState 13 = .ok (.aload_n 0, 1) := by decide +kernel
theorem dX10_restoreState_14 : decode cX10_restoreState 14 = .ok (.getfield 33, 3) := by decide +kernel
theorem dX10_restoreState_17 : decode cX10_restoreState 17 = .ok (.aload_n 0, 1) := by decide +kernel
theorem dX10_restoreState_18 : decode cX10_restoreState 18 = .ok (.getfield 21, 3) := by decide +kernel
theorem dX10_restoreState_21 : decode cX10_restoreState 21 = .ok (.invokestatic 81, 3) := by decide +kernel
theorem dX10_restoreState_24 : decode cX10_restoreState 24 = .ok (.aload_n 0, 1) := by decide +kernel
theorem dX10_restoreState_25 : decode cX10_restoreState 25 = .ok (.iconst 0, 1) := by decide +kernel
theorem dX10_restoreState_26 : decode cX10_restoreState 26 = .ok (.putfield 85, 3) := by decide +kernel
theorem dX10_restoreState_29 : decode cX10_restoreState 29 = .ok (.aload_n 0, 1) := by decide +kernel
theorem dX10_restoreState_30 : decode cX10_restoreState 30 = .ok (.getfield 21, 3) := by decide +kernel
theorem dX10_restoreState_33 : decode cX10_restoreState 33 = .ok (.iconst 0, 1) := by decide +kernel
theorem dX10_restoreState_34 : decode cX10_restoreState 34 = .ok (.iaload, 1) := by decide +kernel
theorem dX10_restoreState_35 : decode cX10_restoreState 35 = .ok (.ireturn, 1) := by decide +kernel
theorem hyX10_restoreState : yX10_restoreState.cls ≠ "java/lang/invoke/MethodHandle" ∧ yX10_restoreState.cls ≠ "java/lang/invoke/VarHandle" ∧ (parseMethodDescriptor yX10_restoreState.desc).map (fun d => d.parameters.length) = some 0 := ⟨by decide +kernel, by decide +kernel, by decide +kernel⟩
set_option maxRecDepth 100000 in
set_option maxHeartbeats 4000000 in
theorem wfX10_restoreState (C : zC p s m args meth c cX10_restoreState RX10 1 D Ca B En) (hRm : zRm R 1 22 cells slots) (σ : zS) (x0 : Nat) (τ : zS) (r : Int32) (hf : fX10_restoreState σ x0 = some (τ, r)) (hq : ∀ (pc : Nat) (lv : List (Nat × Value)), decode cX10_restoreState pc = .ok (.ireturn, 1) → zW p l e R s m args below meth c cells slots Q D Ca B 1 τ N pc lv [.int r]) : zW p l e R s m args below meth c cells slots Q D Ca B 1 σ N 0 [(0, .ref x0)] [] := by
  unfold fX10_restoreState at hf
  refine z_aload_n C dX10_restoreState_0 rfl 0 rfl ?_
  refine z_aload_n C dX10_restoreState_1 rfl 0 rfl ?_
  obtain ⟨v1, hv1, hf⟩ := zbind hf
  refine gf_RX10_88 C hv1 dX10_restoreState_2 ?_
  obtain ⟨c2, hc2, hf⟩ := zbind hf
  obtain ⟨kc2, hc2⟩ := zck_ok hc2
  refine z_callVi (As := [.int v1]) (F0 := 1) (L0 := 22) C (mX10_is l D Ca B En C.2.2.2.2.2.2.2.1 σ N x0 v1 _ hc2) hRm kc2 rfl kw_1373 kw_14 kw_1370 kw_1372 kp_37 hyX10_is (Nat.le_of_ble_eq_true rfl) (Nat.le_of_ble_eq_true rfl) rfl rfl (Nat.le_of_ble_eq_true rfl) dX10_restoreState_5 ?_
  refine z_if_ne C 13 dX10_restoreState_8 (by decide) (fun q9 => ?_) (fun q9 => ?_)
  · rw [if_neg q9] at hf
    refine z_aload_n C dX10_restoreState_13 rfl 0 rfl ?_
    obtain ⟨v3, hv3, hf⟩ := zbind hf
    refine gf_RX10_33 C hv3 dX10_restoreState_14 ?_
    refine z_aload_n C dX10_restoreState_17 rfl 0 rfl ?_
    obtain ⟨v4, hv4, hf⟩ := zbind hf
    refine gf_RX10_21 C hv4 dX10_restoreState_18 ?_
    obtain ⟨c5, hc5, hf⟩ := zbind hf
    refine z_callSv (As := [.ref v3, .ref v4]) (F0 := 1) (L0 := 22) C (mX10_copies l D Ca B En C.2.2.2.2.2.2.2.1 c2.1 N v3 v4 _ hc5) hRm kw_1263 kw_14 kw_1261 kw_1262 hyX10_copies (Nat.le_of_ble_eq_true rfl) (Nat.le_of_ble_eq_true rfl) rfl rfl (Nat.le_of_ble_eq_true rfl) dX10_restoreState_21 ?_
    refine z_aload_n C dX10_restoreState_24 rfl 0 rfl ?_
    refine z_iconst C (zi 0) dX10_restoreState_25 (by decide) ?_
    obtain ⟨σ6, hσ6, hf⟩ := zbind hf
    refine gp_RX10_85 C hσ6 dX10_restoreState_26 ?_
    refine z_aload_n C dX10_restoreState_29 rfl 0 rfl ?_
    obtain ⟨v7, hv7, hf⟩ := zbind hf
    refine gf_RX10_21 C hv7 dX10_restoreState_30 ?_
    refine z_iconst C (zi 0) dX10_restoreState_33 (by decide) ?_
    obtain ⟨v8, hv8, hf⟩ := zbind hf
    refine z_aI C hv8 dX10_restoreState_34 ?_
    cases hf
    exact hq _ _ dX10_restoreState_35
  · rw [if_pos q9] at hf
    refine z_iconst C (zi 0) dX10_restoreState_11 (by decide) ?_
    cases hf
    exact hq _ _ dX10_restoreState_12

theorem mX10_restoreState (l : Launch) (D : va_G) (Ca : Nat → ClassId) (B : Nat) (En : State → Prop) (hE : zEk B En) (σ : zS) (N : Nat) (x0 : Nat) (X : zS × Int32) (hf : fX10_restoreState σ x0 = some X) : zMi l D Ca B En yX10_restoreState cX10_restoreState 1 (Option.some Jvm.ClassFile.FieldType.int) 1 22 [.ref x0] σ N X.1 X.2 :=
  zMet_i (own := RX10) hE (by decide +kernel) rfl (Nat.le_of_ble_eq_true rfl) (fun p e s m args below meth c C hr hRm => wfX10_restoreState C hRm σ x0 X.1 X.2 hf (fun pc lv hd => zfin_i C hr hd))
theorem dX10_tries_0 : decode cX10_tries 0 = .ok (.aload_n 0, 1) := by decide +kernel
theorem dX10_tries_1 : decode cX10_tries 1 = .ok (.getfield 21, 3) := by decide +kernel
theorem dX10_tries_4 : decode cX10_tries 4 = .ok (.aload_n 0, 1) := by decide +kernel
theorem dX10_tries_5 : decode cX10_tries 5 = .ok (.getfield 30, 3) := by decide +kernel
theorem dX10_tries_8 : decode cX10_tries 8 = .ok (.invokestatic 81, 3) := by decide +kernel
theorem dX10_tries_11 : decode cX10_tries 11 = .ok (.return_, 1) := by decide +kernel
theorem hyX10_tries : yX10_tries.cls ≠ "java/lang/invoke/MethodHandle" ∧ yX10_tries.cls ≠ "java/lang/invoke/VarHandle" ∧ (parseMethodDescriptor yX10_tries.desc).map (fun d => d.parameters.length) = some 0 := ⟨by decide +kernel, by decide +kernel, by decide +kernel⟩
set_option maxRecDepth 100000 in
set_option maxHeartbeats 4000000 in
theorem wfX10_tries (C : zC p s m args meth c cX10_tries RX10 1 D Ca B En) (hRm : zRm R 1 22 cells slots) (σ : zS) (x0 : Nat) (τ : zS) (hf : fX10_tries σ x0 = some τ) (hq : ∀ (pc : Nat) (lv : List (Nat × Value)), decode cX10_tries pc = .ok (.return_, 1) → zW p l e R s m args below meth c cells slots Q D Ca B 1 τ N pc lv []) : zW p l e R s m args below meth c cells slots Q D Ca B 1 σ N 0 [(0, .ref x0)] [] := by
  unfold fX10_tries at hf
  refine z_aload_n C dX10_tries_0 rfl 0 rfl ?_
  obtain ⟨v1, hv1, hf⟩ := zbind hf
  refine gf_RX10_21 C hv1 dX10_tries_1 ?_
  refine z_aload_n C dX10_tries_4 rfl 0 rfl ?_
  obtain ⟨v2, hv2, hf⟩ := zbind hf
  refine gf_RX10_30 C hv2 dX10_tries_5 ?_
  obtain ⟨c3, hc3, hf⟩ := zbind hf
  refine z_callSv (As := [.ref v1, .ref v2]) (F0 := 1) (L0 := 22) C (mX10_copies l D Ca B En C.2.2.2.2.2.2.2.1 σ N v1 v2 _ hc3) hRm kw_1263 kw_14 kw_1261 kw_1262 hyX10_copies (Nat.le_of_ble_eq_true rfl) (Nat.le_of_ble_eq_true rfl) rfl rfl (Nat.le_of_ble_eq_true rfl) dX10_tries_8 ?_
  cases hf
  exact hq _ _ dX10_tries_11

theorem mX10_tries (l : Launch) (D : va_G) (Ca : Nat → ClassId) (B : Nat) (En : State → Prop) (hE : zEk B En) (σ : zS) (N : Nat) (x0 : Nat) (X : zS) (hf : fX10_tries σ x0 = some X) : zMv l D Ca B En yX10_tries cX10_tries 1 (Option.none : Option Jvm.ClassFile.FieldType) 1 22 [.ref x0] σ N X () :=
  zMet_v (own := RX10) hE (by decide +kernel) rfl (Nat.le_of_ble_eq_true rfl) (fun p e s m args below meth c C hr hRm => wfX10_tries C hRm σ x0 X hf (fun pc lv hd => zfin_v (r := ()) C hr hd))
theorem dX10_laysBack_0 : decode cX10_laysBack 0 = .ok (.aload_n 0, 1) := by decide +kernel
theorem dX10_laysBack_1 : decode cX10_laysBack 1 = .ok (.getfield 30, 3) := by decide +kernel
theorem dX10_laysBack_4 : decode cX10_laysBack 4 = .ok (.aload_n 0, 1) := by decide +kernel
theorem dX10_laysBack_5 : decode cX10_laysBack 5 = .ok (.getfield 21, 3) := by decide +kernel
theorem dX10_laysBack_8 : decode cX10_laysBack 8 = .ok (.invokestatic 81, 3) := by decide +kernel
theorem dX10_laysBack_11 : decode cX10_laysBack 11 = .ok (.iload_n 1, 1) := by decide +kernel
theorem dX10_laysBack_12 : decode cX10_laysBack 12 = .ok (.ireturn, 1) := by decide +kernel
theorem hyX10_laysBack : yX10_laysBack.cls ≠ "java/lang/invoke/MethodHandle" ∧ yX10_laysBack.cls ≠ "java/lang/invoke/VarHandle" ∧ (parseMethodDescriptor yX10_laysBack.desc).map (fun d => d.parameters.length) = some 1 := ⟨by decide +kernel, by decide +kernel, by decide +kernel⟩
set_option maxRecDepth 100000 in
set_option maxHeartbeats 4000000 in
theorem wfX10_laysBack (C : zC p s m args meth c cX10_laysBack RX10 2 D Ca B En) (hRm : zRm R 1 22 cells slots) (σ : zS) (x0 : Nat) (x1 : Int32) (τ : zS) (r : Int32) (hf : fX10_laysBack σ x0 x1 = some (τ, r)) (hq : ∀ (pc : Nat) (lv : List (Nat × Value)), decode cX10_laysBack pc = .ok (.ireturn, 1) → zW p l e R s m args below meth c cells slots Q D Ca B 2 τ N pc lv [.int r]) : zW p l e R s m args below meth c cells slots Q D Ca B 2 σ N 0 [(0, .ref x0), (1, .int x1)] [] := by
  unfold fX10_laysBack at hf
  refine z_aload_n C dX10_laysBack_0 rfl 0 rfl ?_
  obtain ⟨v1, hv1, hf⟩ := zbind hf
  refine gf_RX10_30 C hv1 dX10_laysBack_1 ?_
  refine z_aload_n C dX10_laysBack_4 rfl 0 rfl ?_
  obtain ⟨v2, hv2, hf⟩ := zbind hf
  refine gf_RX10_21 C hv2 dX10_laysBack_5 ?_
  obtain ⟨c3, hc3, hf⟩ := zbind hf
  refine z_callSv (As := [.ref v1, .ref v2]) (F0 := 1) (L0 := 22) C (mX10_copies l D Ca B En C.2.2.2.2.2.2.2.1 σ N v1 v2 _ hc3) hRm kw_1263 kw_14 kw_1261 kw_1262 hyX10_copies (Nat.le_of_ble_eq_true rfl) (Nat.le_of_ble_eq_true rfl) rfl rfl (Nat.le_of_ble_eq_true rfl) dX10_laysBack_8 ?_
  refine z_iload_n C dX10_laysBack_11 rfl 1 rfl ?_
  cases hf
  exact hq _ _ dX10_laysBack_12

theorem mX10_laysBack (l : Launch) (D : va_G) (Ca : Nat → ClassId) (B : Nat) (En : State → Prop) (hE : zEk B En) (σ : zS) (N : Nat) (x0 : Nat) (x1 : Int32) (X : zS × Int32) (hf : fX10_laysBack σ x0 x1 = some X) : zMi l D Ca B En yX10_laysBack cX10_laysBack 2 (Option.some Jvm.ClassFile.FieldType.int) 1 22 [.ref x0, .int x1] σ N X.1 X.2 :=
  zMet_i (own := RX10) hE (by decide +kernel) rfl (Nat.le_of_ble_eq_true rfl) (fun p e s m args below meth c C hr hRm => wfX10_laysBack C hRm σ x0 x1 X.1 X.2 hf (fun pc lv hd => zfin_i C hr hd))
theorem dX10_adds_0 : decode cX10_adds 0 = .ok (.aload_n 0, 1) := by decide +kernel
theorem dX10_adds_1 : decode cX10_adds 1 = .ok (.getfield 21, 3) := by decide +kernel
theorem dX10_adds_4 : decode cX10_adds 4 = .ok (.iload_n 1, 1) := by decide +kernel
theorem dX10_adds_5 : decode cX10_adds 5 = .ok (.aload_n 0, 1) := by decide +kernel
theorem dX10_adds_6 : decode cX10_adds 6 = .ok (.getfield 21, 3) := by decide +kernel
theorem dX10_adds_9 : decode cX10_adds 9 = .ok (.iload_n 1, 1) := by decide +kernel
theorem dX10_adds_10 : decode cX10_adds 10 = .ok (.iaload, 1) := by decide +kernel
theorem dX10_adds_11 : decode cX10_adds 11 = .ok (.iconst 1, 1) := by decide +kernel
theorem dX10_adds_12 : decode cX10_adds 12 = .ok (.iadd, 1) := by decide +kernel
theorem dX10_adds_13 : decode cX10_adds 13 = .ok (.iastore, 1) := by decide +kernel
theorem dX10_adds_14 : decode cX10_adds 14 = .ok (.aload_n 0, 1) := by decide +kernel
theorem dX10_adds_15 : decode cX10_adds 15 = .ok (.getfield 21, 3) := by decide +kernel
theorem dX10_adds_18 : decode cX10_adds 18 = .ok (.iload_n 1, 1) := by decide +kernel
theorem dX10_adds_19 : decode cX10_adds 19 = .ok (.aload_n 0, 1) := by decide +kernel
theorem dX10_adds_20 : decode cX10_adds 20 = .ok (.getfield 21, 3) := by decide +kernel
theorem dX10_adds_23 : decode cX10_adds 23 = .ok (.iload_n 1, 1) := by decide +kernel
theorem dX10_adds_24 : decode cX10_adds 24 = .ok (.iaload, 1) := by decide +kernel
theorem dX10_adds_25 : decode cX10_adds 25 = .ok (.iadd, 1) := by decide +kernel
theorem dX10_adds_26 : decode cX10_adds 26 = .ok (.iload_n 2, 1) := by decide +kernel
theorem dX10_adds_27 : decode cX10_adds 27 = .ok (.iastore, 1) := by decide +kernel
theorem dX10_adds_28 : decode cX10_adds 28 = .ok (.return_, 1) := by decide +kernel
theorem hyX10_adds : yX10_adds.cls ≠ "java/lang/invoke/MethodHandle" ∧ yX10_adds.cls ≠ "java/lang/invoke/VarHandle" ∧ (parseMethodDescriptor yX10_adds.desc).map (fun d => d.parameters.length) = some 2 := ⟨by decide +kernel, by decide +kernel, by decide +kernel⟩
set_option maxRecDepth 100000 in
set_option maxHeartbeats 4000000 in
theorem wfX10_adds (C : zC p s m args meth c cX10_adds RX10 3 D Ca B En) (hRm : zRm R 0 0 cells slots) (σ : zS) (x0 : Nat) (x1 : Int32) (x2 : Int32) (τ : zS) (hf : fX10_adds σ x0 x1 x2 = some τ) (hq : ∀ (pc : Nat) (lv : List (Nat × Value)), decode cX10_adds pc = .ok (.return_, 1) → zW p l e R s m args below meth c cells slots Q D Ca B 3 τ N pc lv []) : zW p l e R s m args below meth c cells slots Q D Ca B 3 σ N 0 [(0, .ref x0), (1, .int x1), (2, .int x2)] [] := by
  unfold fX10_adds at hf
  refine z_aload_n C dX10_adds_0 rfl 0 rfl ?_
  obtain ⟨v1, hv1, hf⟩ := zbind hf
  refine gf_RX10_21 C hv1 dX10_adds_1 ?_
  refine z_iload_n C dX10_adds_4 rfl 1 rfl ?_
  refine z_aload_n C dX10_adds_5 rfl 0 rfl ?_
  obtain ⟨v2, hv2, hf⟩ := zbind hf
  refine gf_RX10_21 C hv2 dX10_adds_6 ?_
  refine z_iload_n C dX10_adds_9 rfl 1 rfl ?_
  obtain ⟨v3, hv3, hf⟩ := zbind hf
  refine z_aI C hv3 dX10_adds_10 ?_
  refine z_iconst C (zi 1) dX10_adds_11 (by decide) ?_
  refine z_iadd C dX10_adds_12 ?_
  obtain ⟨σ4, hσ4, hf⟩ := zbind hf
  refine z_sI C hσ4 dX10_adds_13 ?_
  refine z_aload_n C dX10_adds_14 rfl 0 rfl ?_
  obtain ⟨v5, hv5, hf⟩ := zbind hf
  refine gf_RX10_21 C hv5 dX10_adds_15 ?_
  refine z_iload_n C dX10_adds_18 rfl 1 rfl ?_
  refine z_aload_n C dX10_adds_19 rfl 0 rfl ?_
  obtain ⟨v6, hv6, hf⟩ := zbind hf
  refine gf_RX10_21 C hv6 dX10_adds_20 ?_
  refine z_iload_n C dX10_adds_23 rfl 1 rfl ?_
  obtain ⟨v7, hv7, hf⟩ := zbind hf
  refine z_aI C hv7 dX10_adds_24 ?_
  refine z_iadd C dX10_adds_25 ?_
  refine z_iload_n C dX10_adds_26 rfl 2 rfl ?_
  obtain ⟨σ8, hσ8, hf⟩ := zbind hf
  refine z_sI C hσ8 dX10_adds_27 ?_
  cases hf
  exact hq _ _ dX10_adds_28

theorem mX10_adds (l : Launch) (D : va_G) (Ca : Nat → ClassId) (B : Nat) (En : State → Prop) (hE : zEk B En) (σ : zS) (N : Nat) (x0 : Nat) (x1 : Int32) (x2 : Int32) (X : zS) (hf : fX10_adds σ x0 x1 x2 = some X) : zMv l D Ca B En yX10_adds cX10_adds 3 (Option.none : Option Jvm.ClassFile.FieldType) 0 0 [.ref x0, .int x1, .int x2] σ N X () :=
  zMet_v (own := RX10) hE (by decide +kernel) rfl (Nat.le_of_ble_eq_true rfl) (fun p e s m args below meth c C hr hRm => wfX10_adds C hRm σ x0 x1 x2 X hf (fun pc lv hd => zfin_v (r := ()) C hr hd))
theorem dX10_at_0 : decode cX10_at 0 = .ok (.aload_n 0, 1) := by decide +kernel
theorem dX10_at_1 : decode cX10_at 1 = .ok (.getfield 21, 3) := by decide +kernel
theorem dX10_at_4 : decode cX10_at 4 = .ok (.iload_n 1, 1) := by decide +kernel
theorem dX10_at_5 : decode cX10_at 5 = .ok (.iconst 1, 1) := by decide +kernel
theorem dX10_at_6 : decode cX10_at 6 = .ok (.iadd, 1) := by decide +kernel
theorem dX10_at_7 : decode cX10_at 7 = .ok (.iload_n 2, 1) := by decide +kernel
theorem dX10_at_8 : decode cX10_at 8 = .ok (.iadd, 1) := by decide +kernel
theorem dX10_at_9 : decode cX10_at 9 = .ok (.iaload, 1) := by decide +kernel
theorem dX10_at_10 : decode cX10_at 10 = .ok (.ireturn, 1) := by decide +kernel
theorem hyX10_at : yX10_at.cls ≠ "java/lang/invoke/MethodHandle" ∧ yX10_at.cls ≠ "java/lang/invoke/VarHandle" ∧ (parseMethodDescriptor yX10_at.desc).map (fun d => d.parameters.length) = some 2 := ⟨by decide +kernel, by decide +kernel, by decide +kernel⟩
set_option maxRecDepth 100000 in
set_option maxHeartbeats 4000000 in
theorem wfX10_at (C : zC p s m args meth c cX10_at RX10 3 D Ca B En) (hRm : zRm R 0 0 cells slots) (σ : zS) (x0 : Nat) (x1 : Int32) (x2 : Int32) (τ : zS) (r : Int32) (hf : fX10_at σ x0 x1 x2 = some (τ, r)) (hq : ∀ (pc : Nat) (lv : List (Nat × Value)), decode cX10_at pc = .ok (.ireturn, 1) → zW p l e R s m args below meth c cells slots Q D Ca B 3 τ N pc lv [.int r]) : zW p l e R s m args below meth c cells slots Q D Ca B 3 σ N 0 [(0, .ref x0), (1, .int x1), (2, .int x2)] [] := by
  unfold fX10_at at hf
  refine z_aload_n C dX10_at_0 rfl 0 rfl ?_
  obtain ⟨v1, hv1, hf⟩ := zbind hf
  refine gf_RX10_21 C hv1 dX10_at_1 ?_
  refine z_iload_n C dX10_at_4 rfl 1 rfl ?_
  refine z_iconst C (zi 1) dX10_at_5 (by decide) ?_
  refine z_iadd C dX10_at_6 ?_
  refine z_iload_n C dX10_at_7 rfl 2 rfl ?_
  refine z_iadd C dX10_at_8 ?_
  obtain ⟨v2, hv2, hf⟩ := zbind hf
  refine z_aI C hv2 dX10_at_9 ?_
  cases hf
  exact hq _ _ dX10_at_10

theorem mX10_at (l : Launch) (D : va_G) (Ca : Nat → ClassId) (B : Nat) (En : State → Prop) (hE : zEk B En) (σ : zS) (N : Nat) (x0 : Nat) (x1 : Int32) (x2 : Int32) (X : zS × Int32) (hf : fX10_at σ x0 x1 x2 = some X) : zMi l D Ca B En yX10_at cX10_at 3 (Option.some Jvm.ClassFile.FieldType.int) 0 0 [.ref x0, .int x1, .int x2] σ N X.1 X.2 :=
  zMet_i (own := RX10) hE (by decide +kernel) rfl (Nat.le_of_ble_eq_true rfl) (fun p e s m args below meth c C hr hRm => wfX10_at C hRm σ x0 x1 x2 X.1 X.2 hf (fun pc lv hd => zfin_i C hr hd))
end ZM
