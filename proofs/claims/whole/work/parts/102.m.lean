/-! Methods: X1_tick, X1_ticksToCompletion, X1_recoverWith, X1_isQuiet, X1_thingsIn, X1_recordsTo, X1_resultsFrom, X1_handledInAll, X1_positionsInAll, X1_recordsAtRisk, X2_addByte, X2_addFourBytes, X2_byteAt, X3_at, X4_add, X4_addNumber, X7_clear, X5_kindAt, X5_advance, J0_coder_7d493, J0_length_8abf5, J0_isLatin1_aae02, J3_checkIndex_8e157, J0_checkIndex_df160, J1_charAt_3b067, J2_length_9d52b, J2_checkIndex_2214a, J2_charAt_3b067, J0_charAt_5068e, X5_isToken, X5_quotedWord, X5_refuse -/
section ZM
variable {p : Program} {l : Launch} {e : Env} {R : Room} {s : State} {m : MethodId} {args : Array Value} {below : List Frame} {meth : Method} {c : Code} {cells slots : Nat} {Q : State → Prop} {D : va_G} {Ca : Nat → ClassId} {B : Nat} {En : State → Prop} {N : Nat}
theorem dX1_tick_0 : decode cX1_tick 0 = .ok (.aload_n 0, 1) := by decide +kernel
theorem dX1_tick_1 : decode cX1_tick 1 = .ok (.getfield 83, 3) := by decide +kernel
theorem dX1_tick_4 : decode cX1_tick 4 = .ok (.ifCond .eq 33, 3) := by decide +kernel
theorem dX1_tick_7 : decode cX1_tick 7 = .ok (.aload_n 0, 1) := by decide +kernel
theorem dX1_tick_8 : decode cX1_tick 8 = .ok (.getfield 93, 3) := by decide +kernel
theorem dX1_tick_11 : decode cX1_tick 11 = .ok (.aload_n 0, 1) := by decide +kernel
theorem dX1_tick_12 : decode cX1_tick 12 = .ok (.getfield 83, 3) := by decide +kernel
theorem dX1_tick_15 : decode cX1_tick 15 = .ok (.irem, 1) := by decide +kernel
theorem dX1_tick_16 : decode cX1_tick 16 = .ok (.ifCond .ne 21, 3) := by decide +kernel
theorem dX1_tick_19 : decode cX1_tick 19 = .ok (.aload_n 0, 1) := by decide +kernel
theorem dX1_tick_20 : decode cX1_tick 20 = .ok (.getfield 37, 3) := by decide +kernel
theorem dX1_tick_23 : decode cX1_tick 23 = .ok (.invokevirtual 129, 3) := by decide +kernel
theorem dX1_tick_26 : decode cX1_tick 26 = .ok (.ifCond .ne 11, 3) := by decide +kernel
theorem dX1_tick_29 : decode cX1_tick 29 = .ok (.aload_n 0, 1) := by decide +kernel
theorem dX1_tick_30 : decode cX1_tick 30 = .ok (.aload_n 0, 1) := by decide +kernel
theorem dX1_tick_31 : decode cX1_tick 31 = .ok (.getfield 89, 3) := by decide +kernel
theorem dX1_tick_34 : decode cX1_tick 34 = .ok (.invokevirtual 133, 3) := by decide +kernel
theorem dX1_tick_37 : decode cX1_tick 37 = .ok (.aload_n 0, 1) := by decide +kernel
theorem dX1_tick_38 : decode cX1_tick 38 = .ok (.invokevirtual 137, 3) := by decide +kernel
theorem dX1_tick_41 : decode cX1_tick 41 = .ok (.iconst 0, 1) := by decide +kernel
theorem dX1_tick_42 : decode cX1_tick 42 = .ok (.istore_n 1, 1) := by decide +kernel
theorem dX1_tick_43 : decode cX1_tick 43 = .ok (.iload_n 1, 1) := by decide +kernel
theorem dX1_tick_44 : decode cX1_tick 44 = .ok (.aload_n 0, 1) := by decide +kernel
theorem dX1_tick_45 : decode cX1_tick 45 = .ok (.getfield 54, 3) := by decide +kernel
theorem dX1_tick_48 : decode cX1_tick 48 = .ok (.getfield 140, 3) := by decide +kernel
theorem dX1_tick_51 : decode cX1_tick 51 = .ok (.if_icmp .ge 19, 3) := by decide +kernel
theorem dX1_tick_54 : decode cX1_tick 54 = .ok (.aload_n 0, 1) := by decide +kernel
theorem dX1_tick_55 : decode cX1_tick 55 = .ok (.iload_n 1, 1) := by decide +kernel
theorem dX1_tick_56 : decode cX1_tick 56 = .ok (.invokevirtual 143, 3) := by decide +kernel
theorem dX1_tick_59 : decode cX1_tick 59 = .ok (.aload_n 0, 1) := by decide +kernel
theorem dX1_tick_60 : decode cX1_tick 60 = .ok (.iload_n 1, 1) := by decide +kernel
theorem dX1_tick_61 : decode cX1_tick 61 = .ok (.invokevirtual 147, 3) := by decide +kernel
theorem dX1_tick_64 : decode cX1_tick 64 = .ok (.iinc 1 1, 3) := by decide +kernel
theorem dX1_tick_67 : decode cX1_tick 67 = .ok (.goto (-24), 3) := by decide +kernel
theorem dX1_tick_70 : decode cX1_tick 70 = .ok (.aload_n 0, 1) := by decide +kernel
theorem dX1_tick_71 : decode cX1_tick 71 = .ok (.iconst 0, 1) := by decide +kernel
theorem dX1_tick_72 : decode cX1_tick 72 = .ok (.aload_n 0, 1) := by decide +kernel
theorem dX1_tick_73 : decode cX1_tick 73 = .ok (.getfield 70, 3) := by decide +kernel
theorem dX1_tick_76 : decode cX1_tick 76 = .ok (.invokevirtual 150, 3) := by decide +kernel
theorem dX1_tick_79 : decode cX1_tick 79 = .ok (.iconst 0, 1) := by decide +kernel
theorem dX1_tick_80 : decode cX1_tick 80 = .ok (.istore_n 1, 1) := by decide +kernel
theorem dX1_tick_81 : decode cX1_tick 81 = .ok (.iload_n 1, 1) := by decide +kernel
theorem dX1_tick_82 : decode cX1_tick 82 = .ok (.aload_n 0, 1) := by decide +kernel
theorem dX1_tick_83 : decode cX1_tick 83 = .ok (.getfield 70, 3) := by decide +kernel
theorem dX1_tick_86 : decode cX1_tick 86 = .ok (.if_icmp .ge 19, 3) := by decide +kernel
theorem dX1_tick_89 : decode cX1_tick 89 = .ok (.aload_n 0, 1) := by decide +kernel
theorem dX1_tick_90 : decode cX1_tick 90 = .ok (.iload_n 1, 1) := by decide +kernel
theorem dX1_tick_91 : decode cX1_tick 91 = .ok (.aload_n 0, 1) := by decide +kernel
theorem dX1_tick_92 : decode cX1_tick 92 = .ok (.iload_n 1, 1) := by decide +kernel
theorem dX1_tick_93 : decode cX1_tick 93 = .ok (.invokevirtual 154, 3) := by decide +kernel
theorem dX1_tick_96 : decode cX1_tick 96 = .ok (.invokevirtual 158, 3) := by decide +kernel
theorem dX1_tick_99 : decode cX1_tick 99 = .ok (.iinc 1 1, 3) := by decide +kernel
theorem dX1_tick_102 : decode cX1_tick 102 = .ok (.goto (-21), 3) := by decide +kernel
theorem dX1_tick_105 : decode cX1_tick 105 = .ok (.aload_n 0, 1) := by decide +kernel
theorem dX1_tick_106 : decode cX1_tick 106 = .ok (.iconst 4, 1) := by decide +kernel
theorem dX1_tick_107 : decode cX1_tick 107 = .ok (.aload_n 0, 1) := by decide +kernel
theorem dX1_tick_108 : decode cX1_tick 108 = .ok (.getfield 54, 3) := by decide +kernel
theorem dX1_tick_111 : decode cX1_tick 111 = .ok (.getfield 161, 3) := by decide +kernel
theorem dX1_tick_114 : decode cX1_tick 114 = .ok (.invokevirtual 150, 3) := by decide +kernel
theorem dX1_tick_117 : decode cX1_tick 117 = .ok (.iconst 0, 1) := by decide +kernel
theorem dX1_tick_118 : decode cX1_tick 118 = .ok (.istore_n 1, 1) := by decide +kernel
theorem dX1_tick_119 : decode cX1_tick 119 = .ok (.iload_n 1, 1) := by decide +kernel
theorem dX1_tick_120 : decode cX1_tick 120 = .ok (.aload_n 0, 1) := by decide +kernel
theorem dX1_tick_121 : decode cX1_tick 121 = .ok (.getfield 54, 3) := by decide +kernel
theorem dX1_tick_124 : decode cX1_tick 124 = .ok (.getfield 161, 3) := by decide +kernel
theorem dX1_tick_127 : decode cX1_tick 127 = .ok (.if_icmp .ge 23, 3) := by decide +kernel
theorem dX1_tick_130 : decode cX1_tick 130 = .ok (.aload_n 0, 1) := by decide +kernel
theorem dX1_tick_131 : decode cX1_tick 131 = .ok (.iconst 4, 1) := by decide +kernel
theorem dX1_tick_132 : decode cX1_tick 132 = .ok (.iload_n 1, 1) := by decide +kernel
theorem dX1_tick_133 : decode cX1_tick 133 = .ok (.iadd, 1) := by decide +kernel
theorem dX1_tick_134 : decode cX1_tick 134 = .ok (.aload_n 0, 1) := by decide +kernel
theorem dX1_tick_135 : decode cX1_tick 135 = .ok (.iconst 4, 1) := by decide +kernel
theorem dX1_tick_136 : decode cX1_tick 136 = .ok (.iload_n 1, 1) := by decide +kernel
theorem dX1_tick_137 : decode cX1_tick 137 = .ok (.iadd, 1) := by decide +kernel
theorem dX1_tick_138 : decode cX1_tick 138 = .ok (.invokevirtual 154, 3) := by decide +kernel
theorem dX1_tick_141 : decode cX1_tick 141 = .ok (.invokevirtual 158, 3) := by decide +kernel
theorem dX1_tick_144 : decode cX1_tick 144 = .ok (.iinc 1 1, 3) := by decide +kernel
theorem dX1_tick_147 : decode cX1_tick 147 = .ok (.goto (-28), 3) := by decide +kernel
theorem dX1_tick_150 : decode cX1_tick 150 = .ok (.aload_n 0, 1) := by decide +kernel
theorem dX1_tick_151 : decode cX1_tick 151 = .ok (.invokevirtual 164, 3) := by decide +kernel
theorem dX1_tick_154 : decode cX1_tick 154 = .ok (.aload_n 0, 1) := by decide +kernel
theorem dX1_tick_155 : decode cX1_tick 155 = .ok (.dup, 1) := by decide +kernel
theorem dX1_tick_156 : decode cX1_tick 156 = .ok (.getfield 93, 3) := by decide +kernel
theorem dX1_tick_159 : decode cX1_tick 159 = .ok (.iconst 1, 1) := by decide +kernel
theorem dX1_tick_160 : decode cX1_tick 160 = .ok (.iadd, 1) := by decide +kernel
theorem dX1_tick_161 : decode cX1_tick 161 = .ok (.putfield 93, 3) := by decide +kernel
theorem dX1_tick_164 : decode cX1_tick 164 = .ok (.return_, 1) := by decide +kernel
theorem hyX1_tick : yX1_tick.cls ≠ "java/lang/invoke/MethodHandle" ∧ yX1_tick.cls ≠ "java/lang/invoke/VarHandle" ∧ (parseMethodDescriptor yX1_tick.desc).map (fun d => d.parameters.length) = some 0 := ⟨by decide +kernel, by decide +kernel, by decide +kernel⟩
def sX1_tick_43b (x0 : Nat) (σ : zS) (u1 : Int32) : Option ((zS × Int32) ⊕ zS) :=
  (zgR 1 17 σ x0).bind fun v3 => (zgI 7 0 σ v3).bind fun v4 => (if v4 ≤ u1 then some (.inr σ) else (zck 1 σ x0 (fX1_putBarriers σ x0 u1)).bind fun c5 => (zck 1 c5 x0 (fX1_sendRecord c5 x0 u1)).bind fun c6 => some (.inl (c6, u1 + 1)))
def sX1_tick_43 (x0 : Nat) (z : (zS × Int32)) : Option ((zS × Int32) ⊕ zS) := sX1_tick_43b x0 z.1 z.2
set_option maxRecDepth 100000 in
set_option maxHeartbeats 4000000 in
theorem wsX1_tick_43b (C : zC p s m args meth c cX1_tick RX1 2 D Ca B En) (hRm : zRm R 5 116 cells slots) (x0 : Nat) (σ : zS) (u1 : Int32) (y : (zS × Int32) ⊕ zS) (hf : sX1_tick_43b x0 σ u1 = some y) (hk : (∀ z : (zS × Int32), y = .inl z → zW p l e R s m args below meth c cells slots Q D Ca B 2 z.1 N 43 [(0, .ref x0), (1, .int z.2)] []) ∧ (∀ z : zS, y = .inr z → zW p l e R s m args below meth c cells slots Q D Ca B 2 z N 70 [(0, .ref x0)] [])) : zW p l e R s m args below meth c cells slots Q D Ca B 2 σ N 43 [(0, .ref x0), (1, .int u1)] [] := by
  unfold sX1_tick_43b at hf
  refine z_iload_n C dX1_tick_43 rfl 1 rfl ?_
  refine z_aload_n C dX1_tick_44 rfl 0 rfl ?_
  obtain ⟨v3, hv3, hf⟩ := zbind hf
  refine gf_RX1_54 C hv3 dX1_tick_45 ?_
  obtain ⟨v4, hv4, hf⟩ := zbind hf
  refine gf_RX1_140 C hv4 dX1_tick_48 ?_
  refine z_icmp_ge C 70 dX1_tick_51 (by decide) (fun q7 => ?_) (fun q7 => ?_)
  · rw [if_pos q7] at hf
    cases hf
    refine z_sub [0] rfl ?_
    exact hk.2 _ rfl
  · rw [if_neg q7] at hf
    refine z_aload_n C dX1_tick_54 rfl 0 rfl ?_
    refine z_iload_n C dX1_tick_55 rfl 1 rfl ?_
    obtain ⟨c5, hc5, hf⟩ := zbind hf
    obtain ⟨kc5, hc5⟩ := zck_ok hc5
    refine z_callVv (As := [.int u1]) (F0 := 5) (L0 := 116) C (mX1_putBarriers l D Ca B En C.2.2.2.2.2.2.2.1 σ N x0 u1 _ hc5) hRm kc5 rfl kw_741 kw_8 kw_738 kw_740 kp_18 hyX1_putBarriers (Nat.le_of_ble_eq_true rfl) (Nat.le_of_ble_eq_true rfl) rfl rfl (Nat.le_of_ble_eq_true rfl) dX1_tick_56 ?_
    refine z_aload_n C dX1_tick_59 rfl 0 rfl ?_
    refine z_iload_n C dX1_tick_60 rfl 1 rfl ?_
    obtain ⟨c6, hc6, hf⟩ := zbind hf
    obtain ⟨kc6, hc6⟩ := zck_ok hc6
    refine z_callVv (As := [.int u1]) (F0 := 5) (L0 := 116) C (mX1_sendRecord l D Ca B En C.2.2.2.2.2.2.2.1 c5 N x0 u1 _ hc6) hRm kc6 rfl kw_750 kw_8 kw_747 kw_749 kp_19 hyX1_sendRecord (Nat.le_of_ble_eq_true rfl) (Nat.le_of_ble_eq_true rfl) rfl rfl (Nat.le_of_ble_eq_true rfl) dX1_tick_61 ?_
    refine z_iinc (lv2 := [(1, .int (u1 + 1)), (0, .ref x0)]) C (u1 + 1) dX1_tick_64 1 rfl rfl (by decide) rfl ?_
    refine z_goto C 43 dX1_tick_67 (by decide) ?_
    cases hf
    refine z_sub [1, 0] rfl ?_
    exact hk.1 _ rfl

theorem wsX1_tick_43 (C : zC p s m args meth c cX1_tick RX1 2 D Ca B En) (hRm : zRm R 5 116 cells slots) (x0 : Nat) (n : Nat) (z : (zS × Int32)) (x : zS) (hf : zloop (sX1_tick_43 x0) n z = some x) (hk : (∀ o : zS, x = o → zW p l e R s m args below meth c cells slots Q D Ca B 2 o N 70 [(0, .ref x0)] [])) : zW p l e R s m args below meth c cells slots Q D Ca B 2 z.1 N 43 [(0, .ref x0), (1, .int z.2)] [] := by
  refine zloop_W (P := fun z : (zS × Int32) => zW p l e R s m args below meth c cells slots Q D Ca B 2 z.1 N 43 [(0, .ref x0), (1, .int z.2)] []) (K := fun x : zS => (∀ o : zS, x = o → zW p l e R s m args below meth c cells slots Q D Ca B 2 o N 70 [(0, .ref x0)] [])) ?_ n z x hf hk
  intro z y hy h1 h2
  refine wsX1_tick_43b C hRm x0 z.1 z.2 y hy ⟨fun z2 e => h1 z2 e, fun o e => (h2 _ e) o rfl⟩
def sX1_tick_81b (x0 : Nat) (σ : zS) (u1 : Int32) : Option ((zS × Int32) ⊕ zS) :=
  (zgI 1 0 σ x0).bind fun v11 => (if v11 ≤ u1 then some (.inr σ) else (zck 1 σ x0 (fX1_senderInTurn σ x0 u1)).bind fun c12 => (zck 1 c12.1 x0 (fX1_take c12.1 x0 u1 c12.2)).bind fun c13 => some (.inl (c13, u1 + 1)))
def sX1_tick_81 (x0 : Nat) (z : (zS × Int32)) : Option ((zS × Int32) ⊕ zS) := sX1_tick_81b x0 z.1 z.2
set_option maxRecDepth 100000 in
set_option maxHeartbeats 4000000 in
theorem wsX1_tick_81b (C : zC p s m args meth c cX1_tick RX1 2 D Ca B En) (hRm : zRm R 5 116 cells slots) (x0 : Nat) (σ : zS) (u1 : Int32) (y : (zS × Int32) ⊕ zS) (hf : sX1_tick_81b x0 σ u1 = some y) (hk : (∀ z : (zS × Int32), y = .inl z → zW p l e R s m args below meth c cells slots Q D Ca B 2 z.1 N 81 [(0, .ref x0), (1, .int z.2)] []) ∧ (∀ z : zS, y = .inr z → zW p l e R s m args below meth c cells slots Q D Ca B 2 z N 105 [(0, .ref x0)] [])) : zW p l e R s m args below meth c cells slots Q D Ca B 2 σ N 81 [(0, .ref x0), (1, .int u1)] [] := by
  unfold sX1_tick_81b at hf
  refine z_iload_n C dX1_tick_81 rfl 1 rfl ?_
  refine z_aload_n C dX1_tick_82 rfl 0 rfl ?_
  obtain ⟨v11, hv11, hf⟩ := zbind hf
  refine gf_RX1_70 C hv11 dX1_tick_83 ?_
  refine z_icmp_ge C 105 dX1_tick_86 (by decide) (fun q14 => ?_) (fun q14 => ?_)
  · rw [if_pos q14] at hf
    cases hf
    refine z_sub [0] rfl ?_
    exact hk.2 _ rfl
  · rw [if_neg q14] at hf
    refine z_aload_n C dX1_tick_89 rfl 0 rfl ?_
    refine z_iload_n C dX1_tick_90 rfl 1 rfl ?_
    refine z_aload_n C dX1_tick_91 rfl 0 rfl ?_
    refine z_iload_n C dX1_tick_92 rfl 1 rfl ?_
    obtain ⟨c12, hc12, hf⟩ := zbind hf
    obtain ⟨kc12, hc12⟩ := zck_ok hc12
    refine z_callVi (As := [.int u1]) (F0 := 5) (L0 := 116) C (mX1_senderInTurn l D Ca B En C.2.2.2.2.2.2.2.1 σ N x0 u1 _ hc12) hRm kc12 rfl kw_793 kw_8 kw_790 kw_792 kp_25 hyX1_senderInTurn (Nat.le_of_ble_eq_true rfl) (Nat.le_of_ble_eq_true rfl) rfl rfl (Nat.le_of_ble_eq_true rfl) dX1_tick_93 ?_
    obtain ⟨c13, hc13, hf⟩ := zbind hf
    obtain ⟨kc13, hc13⟩ := zck_ok hc13
    refine z_callVv (As := [.int u1, .int c12.2]) (F0 := 5) (L0 := 116) C (mX1_take l D Ca B En C.2.2.2.2.2.2.2.1 c12.1 N x0 u1 c12.2 _ hc13) hRm kc13 rfl kw_809 kw_8 kw_806 kw_808 kp_28 hyX1_take (Nat.le_of_ble_eq_true rfl) (Nat.le_of_ble_eq_true rfl) rfl rfl (Nat.le_of_ble_eq_true rfl) dX1_tick_96 ?_
    refine z_iinc (lv2 := [(1, .int (u1 + 1)), (0, .ref x0)]) C (u1 + 1) dX1_tick_99 1 rfl rfl (by decide) rfl ?_
    refine z_goto C 81 dX1_tick_102 (by decide) ?_
    cases hf
    refine z_sub [1, 0] rfl ?_
    exact hk.1 _ rfl

theorem wsX1_tick_81 (C : zC p s m args meth c cX1_tick RX1 2 D Ca B En) (hRm : zRm R 5 116 cells slots) (x0 : Nat) (n : Nat) (z : (zS × Int32)) (x : zS) (hf : zloop (sX1_tick_81 x0) n z = some x) (hk : (∀ o : zS, x = o → zW p l e R s m args below meth c cells slots Q D Ca B 2 o N 105 [(0, .ref x0)] [])) : zW p l e R s m args below meth c cells slots Q D Ca B 2 z.1 N 81 [(0, .ref x0), (1, .int z.2)] [] := by
  refine zloop_W (P := fun z : (zS × Int32) => zW p l e R s m args below meth c cells slots Q D Ca B 2 z.1 N 81 [(0, .ref x0), (1, .int z.2)] []) (K := fun x : zS => (∀ o : zS, x = o → zW p l e R s m args below meth c cells slots Q D Ca B 2 o N 105 [(0, .ref x0)] [])) ?_ n z x hf hk
  intro z y hy h1 h2
  refine wsX1_tick_81b C hRm x0 z.1 z.2 y hy ⟨fun z2 e => h1 z2 e, fun o e => (h2 _ e) o rfl⟩
def sX1_tick_119b (x0 : Nat) (σ : zS) (u1 : Int32) : Option ((zS × Int32) ⊕ zS) :=
  (zgR 1 17 σ x0).bind fun v19 => (zgI 7 1 σ v19).bind fun v20 => (if v20 ≤ u1 then some (.inr σ) else (zck 1 σ x0 (fX1_senderInTurn σ x0 (4 + u1))).bind fun c21 => (zck 1 c21.1 x0 (fX1_take c21.1 x0 (4 + u1) c21.2)).bind fun c22 => some (.inl (c22, u1 + 1)))
def sX1_tick_119 (x0 : Nat) (z : (zS × Int32)) : Option ((zS × Int32) ⊕ zS) := sX1_tick_119b x0 z.1 z.2
set_option maxRecDepth 100000 in
set_option maxHeartbeats 4000000 in
theorem wsX1_tick_119b (C : zC p s m args meth c cX1_tick RX1 2 D Ca B En) (hRm : zRm R 5 116 cells slots) (x0 : Nat) (σ : zS) (u1 : Int32) (y : (zS × Int32) ⊕ zS) (hf : sX1_tick_119b x0 σ u1 = some y) (hk : (∀ z : (zS × Int32), y = .inl z → zW p l e R s m args below meth c cells slots Q D Ca B 2 z.1 N 119 [(0, .ref x0), (1, .int z.2)] []) ∧ (∀ z : zS, y = .inr z → zW p l e R s m args below meth c cells slots Q D Ca B 2 z N 150 [(0, .ref x0)] [])) : zW p l e R s m args below meth c cells slots Q D Ca B 2 σ N 119 [(0, .ref x0), (1, .int u1)] [] := by
  unfold sX1_tick_119b at hf
  refine z_iload_n C dX1_tick_119 rfl 1 rfl ?_
  refine z_aload_n C dX1_tick_120 rfl 0 rfl ?_
  obtain ⟨v19, hv19, hf⟩ := zbind hf
  refine gf_RX1_54 C hv19 dX1_tick_121 ?_
  obtain ⟨v20, hv20, hf⟩ := zbind hf
  refine gf_RX1_161 C hv20 dX1_tick_124 ?_
  refine z_icmp_ge C 150 dX1_tick_127 (by decide) (fun q23 => ?_) (fun q23 => ?_)
  · rw [if_pos q23] at hf
    cases hf
    refine z_sub [0] rfl ?_
    exact hk.2 _ rfl
  · rw [if_neg q23] at hf
    refine z_aload_n C dX1_tick_130 rfl 0 rfl ?_
    refine z_iconst C 4 dX1_tick_131 (by decide) ?_
    refine z_iload_n C dX1_tick_132 rfl 1 rfl ?_
    refine z_iadd C dX1_tick_133 ?_
    refine z_aload_n C dX1_tick_134 rfl 0 rfl ?_
    refine z_iconst C 4 dX1_tick_135 (by decide) ?_
    refine z_iload_n C dX1_tick_136 rfl 1 rfl ?_
    refine z_iadd C dX1_tick_137 ?_
    obtain ⟨c21, hc21, hf⟩ := zbind hf
    obtain ⟨kc21, hc21⟩ := zck_ok hc21
    refine z_callVi (As := [.int (4 + u1)]) (F0 := 5) (L0 := 116) C (mX1_senderInTurn l D Ca B En C.2.2.2.2.2.2.2.1 σ N x0 (4 + u1) _ hc21) hRm kc21 rfl kw_793 kw_8 kw_790 kw_792 kp_25 hyX1_senderInTurn (Nat.le_of_ble_eq_true rfl) (Nat.le_of_ble_eq_true rfl) rfl rfl (Nat.le_of_ble_eq_true rfl) dX1_tick_138 ?_
    obtain ⟨c22, hc22, hf⟩ := zbind hf
    obtain ⟨kc22, hc22⟩ := zck_ok hc22
    refine z_callVv (As := [.int (4 + u1), .int c21.2]) (F0 := 5) (L0 := 116) C (mX1_take l D Ca B En C.2.2.2.2.2.2.2.1 c21.1 N x0 (4 + u1) c21.2 _ hc22) hRm kc22 rfl kw_809 kw_8 kw_806 kw_808 kp_28 hyX1_take (Nat.le_of_ble_eq_true rfl) (Nat.le_of_ble_eq_true rfl) rfl rfl (Nat.le_of_ble_eq_true rfl) dX1_tick_141 ?_
    refine z_iinc (lv2 := [(1, .int (u1 + 1)), (0, .ref x0)]) C (u1 + 1) dX1_tick_144 1 rfl rfl (by decide) rfl ?_
    refine z_goto C 119 dX1_tick_147 (by decide) ?_
    cases hf
    refine z_sub [1, 0] rfl ?_
    exact hk.1 _ rfl

theorem wsX1_tick_119 (C : zC p s m args meth c cX1_tick RX1 2 D Ca B En) (hRm : zRm R 5 116 cells slots) (x0 : Nat) (n : Nat) (z : (zS × Int32)) (x : zS) (hf : zloop (sX1_tick_119 x0) n z = some x) (hk : (∀ o : zS, x = o → zW p l e R s m args below meth c cells slots Q D Ca B 2 o N 150 [(0, .ref x0)] [])) : zW p l e R s m args below meth c cells slots Q D Ca B 2 z.1 N 119 [(0, .ref x0), (1, .int z.2)] [] := by
  refine zloop_W (P := fun z : (zS × Int32) => zW p l e R s m args below meth c cells slots Q D Ca B 2 z.1 N 119 [(0, .ref x0), (1, .int z.2)] []) (K := fun x : zS => (∀ o : zS, x = o → zW p l e R s m args below meth c cells slots Q D Ca B 2 o N 150 [(0, .ref x0)] [])) ?_ n z x hf hk
  intro z y hy h1 h2
  refine wsX1_tick_119b C hRm x0 z.1 z.2 y hy ⟨fun z2 e => h1 z2 e, fun o e => (h2 _ e) o rfl⟩
def jX1_tick_37 (σ : zS) (x0 : Nat)  : Option zS :=
  (zck 1 σ x0 (fX1_showLatest σ x0 )).bind fun c2 => (zloop (sX1_tick_43 x0) zfuel (c2, 0)).bind fun o8 => (zgI 1 0 o8 x0).bind fun v9 => (zck 1 o8 x0 (fX1_letBarriersOvertake o8 x0 0 v9)).bind fun c10 => (zloop (sX1_tick_81 x0) zfuel (c10, 0)).bind fun o15 => (zgR 1 17 o15 x0).bind fun v16 => (zgI 7 1 o15 v16).bind fun v17 => (zck 1 o15 x0 (fX1_letBarriersOvertake o15 x0 4 v17)).bind fun c18 => (zloop (sX1_tick_119 x0) zfuel (c18, 0)).bind fun o24 => (zck 1 o24 x0 (fX1_completeIfAllArrived o24 x0 )).bind fun c25 => (zgI 1 4 c25 x0).bind fun v26 => (zpI 1 4 c25 x0 (v26 + 1)).bind fun σ27 => some σ27
set_option maxRecDepth 100000 in
set_option maxHeartbeats 4000000 in
theorem wjX1_tick_37 (C : zC p s m args meth c cX1_tick RX1 2 D Ca B En) (hRm : zRm R 5 116 cells slots) (σ : zS) (x0 : Nat)  (τ : zS) (hf : jX1_tick_37 σ x0  = some τ) (hq : ∀ (pc : Nat) (lv : List (Nat × Value)), decode cX1_tick pc = .ok (.return_, 1) → zW p l e R s m args below meth c cells slots Q D Ca B 2 τ N pc lv []) : zW p l e R s m args below meth c cells slots Q D Ca B 2 σ N 37 [(0, .ref x0)] [] := by
  unfold jX1_tick_37 at hf
  refine z_aload_n C dX1_tick_37 rfl 0 rfl ?_
  obtain ⟨c2, hc2, hf⟩ := zbind hf
  obtain ⟨kc2, hc2⟩ := zck_ok hc2
  refine z_callVv (As := []) (F0 := 5) (L0 := 116) C (mX1_showLatest l D Ca B En C.2.2.2.2.2.2.2.1 σ N x0  _ hc2) hRm kc2 rfl kw_314 kw_8 kw_311 kw_313 kp_2 hyX1_showLatest (Nat.le_of_ble_eq_true rfl) (Nat.le_of_ble_eq_true rfl) rfl rfl (Nat.le_of_ble_eq_true rfl) dX1_tick_38 ?_
  refine z_iconst C 0 dX1_tick_41 (by decide) ?_
  refine z_istore_n (lv2 := [(1, .int 0), (0, .ref x0)]) C dX1_tick_42 rfl (by decide) rfl ?_
  obtain ⟨o8, ho8, hf⟩ := zbind hf
  refine z_sub [1, 0] rfl ?_
  refine wsX1_tick_43 C hRm _ zfuel (c2, 0) o8 ho8 ?_
  intro z9 e9
  subst e9
  refine z_aload_n C dX1_tick_70 rfl 0 rfl ?_
  refine z_iconst C 0 dX1_tick_71 (by decide) ?_
  refine z_aload_n C dX1_tick_72 rfl 0 rfl ?_
  obtain ⟨v9, hv9, hf⟩ := zbind hf
  refine gf_RX1_70 C hv9 dX1_tick_73 ?_
  obtain ⟨c10, hc10, hf⟩ := zbind hf
  obtain ⟨kc10, hc10⟩ := zck_ok hc10
  refine z_callVv (As := [.int 0, .int v9]) (F0 := 5) (L0 := 116) C (mX1_letBarriersOvertake l D Ca B En C.2.2.2.2.2.2.2.1 o8 N x0 0 v9 _ hc10) hRm kc10 rfl kw_762 kw_8 kw_759 kw_761 kp_20 hyX1_letBarriersOvertake (Nat.le_of_ble_eq_true rfl) (Nat.le_of_ble_eq_true rfl) rfl rfl (Nat.le_of_ble_eq_true rfl) dX1_tick_76 ?_
  refine z_iconst C 0 dX1_tick_79 (by decide) ?_
  refine z_istore_n (lv2 := [(1, .int 0), (0, .ref x0)]) C dX1_tick_80 rfl (by decide) rfl ?_
  obtain ⟨o15, ho15, hf⟩ := zbind hf
  refine z_sub [1, 0] rfl ?_
  refine wsX1_tick_81 C hRm _ zfuel (c10, 0) o15 ho15 ?_
  intro z9 e9
  subst e9
  refine z_aload_n C dX1_tick_105 rfl 0 rfl ?_
  refine z_iconst C 4 dX1_tick_106 (by decide) ?_
  refine z_aload_n C dX1_tick_107 rfl 0 rfl ?_
  obtain ⟨v16, hv16, hf⟩ := zbind hf
  refine gf_RX1_54 C hv16 dX1_tick_108 ?_
  obtain ⟨v17, hv17, hf⟩ := zbind hf
  refine gf_RX1_161 C hv17 dX1_tick_111 ?_
  obtain ⟨c18, hc18, hf⟩ := zbind hf
  obtain ⟨kc18, hc18⟩ := zck_ok hc18
  refine z_callVv (As := [.int 4, .int v17]) (F0 := 5) (L0 := 116) C (mX1_letBarriersOvertake l D Ca B En C.2.2.2.2.2.2.2.1 o15 N x0 4 v17 _ hc18) hRm kc18 rfl kw_762 kw_8 kw_759 kw_761 kp_20 hyX1_letBarriersOvertake (Nat.le_of_ble_eq_true rfl) (Nat.le_of_ble_eq_true rfl) rfl rfl (Nat.le_of_ble_eq_true rfl) dX1_tick_114 ?_
  refine z_iconst C 0 dX1_tick_117 (by decide) ?_
  refine z_istore_n (lv2 := [(1, .int 0), (0, .ref x0)]) C dX1_tick_118 rfl (by decide) rfl ?_
  obtain ⟨o24, ho24, hf⟩ := zbind hf
  refine z_sub [1, 0] rfl ?_
  refine wsX1_tick_119 C hRm _ zfuel (c18, 0) o24 ho24 ?_
  intro z9 e9
  subst e9
  refine z_aload_n C dX1_tick_150 rfl 0 rfl ?_
  obtain ⟨c25, hc25, hf⟩ := zbind hf
  obtain ⟨kc25, hc25⟩ := zck_ok hc25
  refine z_callVv (As := []) (F0 := 5) (L0 := 116) C (mX1_completeIfAllArrived l D Ca B En C.2.2.2.2.2.2.2.1 o24 N x0  _ hc25) hRm kc25 rfl kw_835 kw_8 kw_832 kw_834 kp_30 hyX1_completeIfAllArrived (Nat.le_of_ble_eq_true rfl) (Nat.le_of_ble_eq_true rfl) rfl rfl (Nat.le_of_ble_eq_true rfl) dX1_tick_151 ?_
  refine z_aload_n C dX1_tick_154 rfl 0 rfl ?_
  refine z_dup C dX1_tick_155 rfl ?_
  obtain ⟨v26, hv26, hf⟩ := zbind hf
  refine gf_RX1_93 C hv26 dX1_tick_156 ?_
  refine z_iconst C 1 dX1_tick_159 (by decide) ?_
  refine z_iadd C dX1_tick_160 ?_
  obtain ⟨σ27, hσ27, hf⟩ := zbind hf
  refine gp_RX1_93 C hσ27 dX1_tick_161 ?_
  cases hf
  exact hq _ _ dX1_tick_164

def fX1_tick (σ : zS) (x0 : Nat) : Option zS :=
  (zgI 1 2 σ x0).bind fun v1 => (if v1 = 0 then jX1_tick_37 σ x0 else (zgI 1 4 σ x0).bind fun v28 => (zgI 1 2 σ x0).bind fun v29 => (znz v29).bind fun d30 => (if (v28 - v28 / v29 * v29) = 0 then (zgR 1 15 σ x0).bind fun v31 => (zck 0 σ v31 (fX0_exists σ v31 )).bind fun c32 => (if c32.2 = 0 then (zgI 1 3 c32.1 x0).bind fun v33 => (zck 1 c32.1 x0 (fX1_startCheckpoint c32.1 x0 v33)).bind fun c34 => jX1_tick_37 c34 x0 else jX1_tick_37 c32.1 x0) else jX1_tick_37 σ x0))
set_option maxRecDepth 100000 in
set_option maxHeartbeats 4000000 in
theorem wfX1_tick (C : zC p s m args meth c cX1_tick RX1 2 D Ca B En) (hRm : zRm R 5 116 cells slots) (σ : zS) (x0 : Nat) (τ : zS) (hf : fX1_tick σ x0 = some τ) (hq : ∀ (pc : Nat) (lv : List (Nat × Value)), decode cX1_tick pc = .ok (.return_, 1) → zW p l e R s m args below meth c cells slots Q D Ca B 2 τ N pc lv []) : zW p l e R s m args below meth c cells slots Q D Ca B 2 σ N 0 [(0, .ref x0)] [] := by
  unfold fX1_tick at hf
  refine z_aload_n C dX1_tick_0 rfl 0 rfl ?_
  obtain ⟨v1, hv1, hf⟩ := zbind hf
  refine gf_RX1_83 C hv1 dX1_tick_1 ?_
  refine z_if_eq C 37 dX1_tick_4 (by decide) (fun q37 => ?_) (fun q37 => ?_)
  · rw [if_pos q37] at hf
    refine z_sub [0] rfl ?_
    exact wjX1_tick_37 C hRm _ _  _ hf hq
  · rw [if_neg q37] at hf
    refine z_aload_n C dX1_tick_7 rfl 0 rfl ?_
    obtain ⟨v28, hv28, hf⟩ := zbind hf
    refine gf_RX1_93 C hv28 dX1_tick_8 ?_
    refine z_aload_n C dX1_tick_11 rfl 0 rfl ?_
    obtain ⟨v29, hv29, hf⟩ := zbind hf
    refine gf_RX1_83 C hv29 dX1_tick_12 ?_
    obtain ⟨d30, hd30, hf⟩ := zbind hf
    refine z_irem C dX1_tick_15 (znz_ok hd30) ?_
    refine z_if_ne C 37 dX1_tick_16 (by decide) (fun q36 => ?_) (fun q36 => ?_)
    · rw [if_neg q36] at hf
      refine z_sub [0] rfl ?_
      exact wjX1_tick_37 C hRm _ _  _ hf hq
    · rw [if_pos q36] at hf
      refine z_aload_n C dX1_tick_19 rfl 0 rfl ?_
      obtain ⟨v31, hv31, hf⟩ := zbind hf
      refine gf_RX1_37 C hv31 dX1_tick_20 ?_
      obtain ⟨c32, hc32, hf⟩ := zbind hf
      obtain ⟨kc32, hc32⟩ := zck_ok hc32
      refine z_callVi (As := []) (F0 := 5) (L0 := 116) C (mX0_exists l D Ca B En C.2.2.2.2.2.2.2.1 σ N v31  _ hc32) hRm kc32 rfl kw_318 kw_10 kw_315 kw_316 kw_317 hyX0_exists (Nat.le_of_ble_eq_true rfl) (Nat.le_of_ble_eq_true rfl) rfl rfl (Nat.le_of_ble_eq_true rfl) dX1_tick_23 ?_
      refine z_if_ne C 37 dX1_tick_26 (by decide) (fun q35 => ?_) (fun q35 => ?_)
      · rw [if_neg q35] at hf
        refine z_sub [0] rfl ?_
        exact wjX1_tick_37 C hRm _ _  _ hf hq
      · rw [if_pos q35] at hf
        refine z_aload_n C dX1_tick_29 rfl 0 rfl ?_
        refine z_aload_n C dX1_tick_30 rfl 0 rfl ?_
        obtain ⟨v33, hv33, hf⟩ := zbind hf
        refine gf_RX1_89 C hv33 dX1_tick_31 ?_
        obtain ⟨c34, hc34, hf⟩ := zbind hf
        obtain ⟨kc34, hc34⟩ := zck_ok hc34
        refine z_callVv (As := [.int v33]) (F0 := 5) (L0 := 116) C (mX1_startCheckpoint l D Ca B En C.2.2.2.2.2.2.2.1 c32.1 N x0 v33 _ hc34) hRm kc34 rfl kw_722 kw_8 kw_737 kw_720 kw_721 hyX1_startCheckpoint (Nat.le_of_ble_eq_true rfl) (Nat.le_of_ble_eq_true rfl) rfl rfl (Nat.le_of_ble_eq_true rfl) dX1_tick_34 ?_
        refine z_sub [0] rfl ?_
        exact wjX1_tick_37 C hRm _ _  _ hf hq

theorem mX1_tick (l : Launch) (D : va_G) (Ca : Nat → ClassId) (B : Nat) (En : State → Prop) (hE : zEk B En) (σ : zS) (N : Nat) (x0 : Nat) (X : zS) (hf : fX1_tick σ x0 = some X) : zMv l D Ca B En yX1_tick cX1_tick 2 (Option.none : Option Jvm.ClassFile.FieldType) 5 116 [.ref x0] σ N X () :=
  zMet_v (own := RX1) hE (by decide +kernel) rfl (Nat.le_of_ble_eq_true rfl) (fun p e s m args below meth c C hr hRm => wfX1_tick C hRm σ x0 X hf (fun pc lv hd => zfin_v (r := ()) C hr hd))
theorem dX1_ticksToCompletion_0 : decode cX1_ticksToCompletion 0 = .ok (.aload_n 0, 1) := by decide +kernel
theorem dX1_ticksToCompletion_1 : decode cX1_ticksToCompletion 1 = .ok (.getfield 99, 3) := by decide +kernel
theorem dX1_ticksToCompletion_4 : decode cX1_ticksToCompletion 4 = .ok (.istore_n 2, 1) := by decide +kernel
theorem dX1_ticksToCompletion_5 : decode cX1_ticksToCompletion 5 = .ok (.iconst 1, 1) := by decide +kernel
theorem dX1_ticksToCompletion_6 : decode cX1_ticksToCompletion 6 = .ok (.istore_n 3, 1) := by decide +kernel
theorem dX1_ticksToCompletion_7 : decode cX1_ticksToCompletion 7 = .ok (.iload_n 3, 1) := by decide +kernel
theorem dX1_ticksToCompletion_8 : decode cX1_ticksToCompletion 8 = .ok (.iload_n 1, 1) := by decide +kernel
theorem dX1_ticksToCompletion_9 : decode cX1_ticksToCompletion 9 = .ok (.if_icmp .gt 23, 3) := by decide +kernel
theorem dX1_ticksToCompletion_12 : decode cX1_ticksToCompletion 12 = .ok (.aload_n 0, 1) := by decide +kernel
theorem dX1_ticksToCompletion_13 : decode cX1_ticksToCompletion 13 = .ok (.invokevirtual 167, 3) := by decide +kernel
theorem dX1_ticksToCompletion_16 : decode cX1_ticksToCompletion 16 = .ok (.aload_n 0, 1) := by decide +kernel
theorem dX1_ticksToCompletion_17 : decode cX1_ticksToCompletion 17 = .ok (.getfield 99, 3) := by decide +kernel
theorem dX1_ticksToCompletion_20 : decode cX1_ticksToCompletion 20 = .ok (.iload_n 2, 1) := by decide +kernel
theorem dX1_ticksToCompletion_21 : decode cX1_ticksToCompletion 21 = .ok (.if_icmp .le 5, 3) := by decide +kernel
theorem dX1_ticksToCompletion_24 : decode cX1_ticksToCompletion 24 = .ok (.iload_n 3, 1) := by decide +kernel
theorem dX1_ticksToCompletion_25 : decode cX1_ticksToCompletion 25 = .ok (.ireturn, 1) := by decide +kernel
theorem dX1_ticksToCompletion_26 : decode cX1_ticksToCompletion 26 = .ok (.iinc 3 1, 3) := by decide +kernel
theorem dX1_ticksToCompletion_29 : decode cX1_ticksToCompletion 29 = .ok (.goto (-22), 3) := by decide +kernel
theorem dX1_ticksToCompletion_32 : decode cX1_ticksToCompletion 32 = .ok (.iconst (-1), 1) := by decide +kernel
theorem dX1_ticksToCompletion_33 : decode cX1_ticksToCompletion 33 = .ok (.ireturn, 1) := by decide +kernel
theorem hyX1_ticksToCompletion : yX1_ticksToCompletion.cls ≠ "java/lang/invoke/MethodHandle" ∧ yX1_ticksToCompletion.cls ≠ "java/lang/invoke/VarHandle" ∧ (parseMethodDescriptor yX1_ticksToCompletion.desc).map (fun d => d.parameters.length) = some 1 := ⟨by decide +kernel, by decide +kernel, by decide +kernel⟩
def sX1_ticksToCompletion_7b (x0 : Nat) (x1 : Int32) (x2 : Int32) (σ : zS) (u3 : Int32) : Option ((zS × Int32) ⊕ ((zS × Int32) ⊕ zS)) :=
  (if x1 < u3 then some (.inr (.inr σ)) else (zck 1 σ x0 (fX1_tick σ x0 )).bind fun c2 => (zgI 1 6 c2 x0).bind fun v3 => (if v3 ≤ x2 then some (.inl (c2, u3 + 1)) else some (.inr (.inl (c2, u3)))))
def sX1_ticksToCompletion_7 (x0 : Nat) (x1 : Int32) (x2 : Int32) (z : (zS × Int32)) : Option ((zS × Int32) ⊕ ((zS × Int32) ⊕ zS)) := sX1_ticksToCompletion_7b x0 x1 x2 z.1 z.2
set_option maxRecDepth 100000 in
set_option maxHeartbeats 4000000 in
theorem wsX1_ticksToCompletion_7b (C : zC p s m args meth c cX1_ticksToCompletion RX1 4 D Ca B En) (hRm : zRm R 6 137 cells slots) (x0 : Nat) (x1 : Int32) (x2 : Int32) (σ : zS) (u3 : Int32) (y : (zS × Int32) ⊕ ((zS × Int32) ⊕ zS)) (hf : sX1_ticksToCompletion_7b x0 x1 x2 σ u3 = some y) (hk : (∀ z : (zS × Int32), y = .inl z → zW p l e R s m args below meth c cells slots Q D Ca B 4 z.1 N 7 [(0, .ref x0), (1, .int x1), (2, .int x2), (3, .int z.2)] []) ∧ (∀ z : (zS × Int32), y = .inr (.inl z) → zW p l e R s m args below meth c cells slots Q D Ca B 4 z.1 N 24 [(3, .int z.2)] []) ∧ (∀ z : zS, y = .inr (.inr z) → zW p l e R s m args below meth c cells slots Q D Ca B 4 z N 32 [] [])) : zW p l e R s m args below meth c cells slots Q D Ca B 4 σ N 7 [(0, .ref x0), (1, .int x1), (2, .int x2), (3, .int u3)] [] := by
  unfold sX1_ticksToCompletion_7b at hf
  refine z_iload_n C dX1_ticksToCompletion_7 rfl 3 rfl ?_
  refine z_iload_n C dX1_ticksToCompletion_8 rfl 1 rfl ?_
  refine z_icmp_gt C 32 dX1_ticksToCompletion_9 (by decide) (fun q5 => ?_) (fun q5 => ?_)
  · rw [if_pos q5] at hf
    cases hf
    refine z_sub [] rfl ?_
    exact hk.2.2 _ rfl
  · rw [if_neg q5] at hf
    refine z_aload_n C dX1_ticksToCompletion_12 rfl 0 rfl ?_
    obtain ⟨c2, hc2, hf⟩ := zbind hf
    obtain ⟨kc2, hc2⟩ := zck_ok hc2
    refine z_callVv (As := []) (F0 := 6) (L0 := 137) C (mX1_tick l D Ca B En C.2.2.2.2.2.2.2.1 σ N x0  _ hc2) hRm kc2 rfl kw_736 kw_8 kw_733 kw_734 kw_735 hyX1_tick (Nat.le_of_ble_eq_true rfl) (Nat.le_of_ble_eq_true rfl) rfl rfl (Nat.le_of_ble_eq_true rfl) dX1_ticksToCompletion_13 ?_
    refine z_aload_n C dX1_ticksToCompletion_16 rfl 0 rfl ?_
    obtain ⟨v3, hv3, hf⟩ := zbind hf
    refine gf_RX1_99 C hv3 dX1_ticksToCompletion_17 ?_
    refine z_iload_n C dX1_ticksToCompletion_20 rfl 2 rfl ?_
    refine z_icmp_le C 26 dX1_ticksToCompletion_21 (by decide) (fun q4 => ?_) (fun q4 => ?_)
    · rw [if_pos q4] at hf
      refine z_iinc (lv2 := [(3, .int (u3 + 1)), (0, .ref x0), (1, .int x1), (2, .int x2)]) C (u3 + 1) dX1_ticksToCompletion_26 3 rfl rfl (by decide) rfl ?_
      refine z_goto C 7 dX1_ticksToCompletion_29 (by decide) ?_
      cases hf
      refine z_sub [1, 2, 3, 0] rfl ?_
      exact hk.1 _ rfl
    · rw [if_neg q4] at hf
      cases hf
      refine z_sub [3] rfl ?_
      exact hk.2.1 _ rfl

theorem wsX1_ticksToCompletion_7 (C : zC p s m args meth c cX1_ticksToCompletion RX1 4 D Ca B En) (hRm : zRm R 6 137 cells slots) (x0 : Nat) (x1 : Int32) (x2 : Int32) (n : Nat) (z : (zS × Int32)) (x : ((zS × Int32) ⊕ zS)) (hf : zloop (sX1_ticksToCompletion_7 x0 x1 x2) n z = some x) (hk : (∀ o : (zS × Int32), x = (.inl o) → zW p l e R s m args below meth c cells slots Q D Ca B 4 o.1 N 24 [(3, .int o.2)] []) ∧ (∀ o : zS, x = (.inr o) → zW p l e R s m args below meth c cells slots Q D Ca B 4 o N 32 [] [])) : zW p l e R s m args below meth c cells slots Q D Ca B 4 z.1 N 7 [(0, .ref x0), (1, .int x1), (2, .int x2), (3, .int z.2)] [] := by
  refine zloop_W (P := fun z : (zS × Int32) => zW p l e R s m args below meth c cells slots Q D Ca B 4 z.1 N 7 [(0, .ref x0), (1, .int x1), (2, .int x2), (3, .int z.2)] []) (K := fun x : ((zS × Int32) ⊕ zS) => (∀ o : (zS × Int32), x = (.inl o) → zW p l e R s m args below meth c cells slots Q D Ca B 4 o.1 N 24 [(3, .int o.2)] []) ∧ (∀ o : zS, x = (.inr o) → zW p l e R s m args below meth c cells slots Q D Ca B 4 o N 32 [] [])) ?_ n z x hf hk
  intro z y hy h1 h2
  refine wsX1_ticksToCompletion_7b C hRm x0 x1 x2 z.1 z.2 y hy ⟨fun z2 e => h1 z2 e, fun o e => (h2 _ e).1 o rfl, fun o e => (h2 _ e).2 o rfl⟩
def fX1_ticksToCompletion (σ : zS) (x0 : Nat) (x1 : Int32) : Option (zS × Int32) :=
  (zgI 1 6 σ x0).bind fun v1 => (zloop (sX1_ticksToCompletion_7 x0 x1 v1) zfuel (σ, 1)).bind fun o6 => (match o6 with | (.inl z7) => some (z7.1, z7.2) | (.inr z8) => some (z8, (-1)))
set_option maxRecDepth 100000 in
set_option maxHeartbeats 4000000 in
theorem wfX1_ticksToCompletion (C : zC p s m args meth c cX1_ticksToCompletion RX1 4 D Ca B En) (hRm : zRm R 6 137 cells slots) (σ : zS) (x0 : Nat) (x1 : Int32) (τ : zS) (r : Int32) (hf : fX1_ticksToCompletion σ x0 x1 = some (τ, r)) (hq : ∀ (pc : Nat) (lv : List (Nat × Value)), decode cX1_ticksToCompletion pc = .ok (.ireturn, 1) → zW p l e R s m args below meth c cells slots Q D Ca B 4 τ N pc lv [.int r]) : zW p l e R s m args below meth c cells slots Q D Ca B 4 σ N 0 [(0, .ref x0), (1, .int x1)] [] := by
  unfold fX1_ticksToCompletion at hf
  refine z_aload_n C dX1_ticksToCompletion_0 rfl 0 rfl ?_
  obtain ⟨v1, hv1, hf⟩ := zbind hf
  refine gf_RX1_99 C hv1 dX1_ticksToCompletion_1 ?_
  refine z_istore_n (lv2 := [(2, .int v1), (0, .ref x0), (1, .int x1)]) C dX1_ticksToCompletion_4 rfl (by decide) rfl ?_
  refine z_iconst C 1 dX1_ticksToCompletion_5 (by decide) ?_
  refine z_istore_n (lv2 := [(3, .int 1), (2, .int v1), (0, .ref x0), (1, .int x1)]) C dX1_ticksToCompletion_6 rfl (by decide) rfl ?_
  obtain ⟨o6, ho6, hf⟩ := zbind hf
  refine z_sub [2, 3, 1, 0] rfl ?_
  refine wsX1_ticksToCompletion_7 C hRm _ _ _ zfuel (σ, 1) o6 ho6 ⟨?_, ?_⟩
  · intro z7 e9
    subst e9
    dsimp only at hf
    refine z_iload_n C dX1_ticksToCompletion_24 rfl 0 rfl ?_
    cases hf
    exact hq _ _ dX1_ticksToCompletion_25
  · intro z8 e9
    subst e9
    dsimp only at hf
    refine z_iconst C (-1) dX1_ticksToCompletion_32 (by decide) ?_
    cases hf
    exact hq _ _ dX1_ticksToCompletion_33

theorem mX1_ticksToCompletion (l : Launch) (D : va_G) (Ca : Nat → ClassId) (B : Nat) (En : State → Prop) (hE : zEk B En) (σ : zS) (N : Nat) (x0 : Nat) (x1 : Int32) (X : zS × Int32) (hf : fX1_ticksToCompletion σ x0 x1 = some X) : zMi l D Ca B En yX1_ticksToCompletion cX1_ticksToCompletion 4 (Option.some Jvm.ClassFile.FieldType.int) 6 137 [.ref x0, .int x1] σ N X.1 X.2 :=
  zMet_i (own := RX1) hE (by decide +kernel) rfl (Nat.le_of_ble_eq_true rfl) (fun p e s m args below meth c C hr hRm => wfX1_ticksToCompletion C hRm σ x0 x1 X.1 X.2 hf (fun pc lv hd => zfin_i C hr hd))
theorem dX1_recoverWith_0 : decode cX1_recoverWith 0 = .ok (.aload_n 0, 1) := by decide +kernel
theorem dX1_recoverWith_1 : decode cX1_recoverWith 1 = .ok (.getfield 41, 3) := by decide +kernel
theorem dX1_recoverWith_4 : decode cX1_recoverWith 4 = .ok (.invokevirtual 129, 3) := by decide +kernel
theorem dX1_recoverWith_7 : decode cX1_recoverWith 7 = .ok (.ifCond .eq 19, 3) := by decide +kernel
theorem dX1_recoverWith_10 : decode cX1_recoverWith 10 = .ok (.aload_n 0, 1) := by decide +kernel
theorem dX1_recoverWith_11 : decode cX1_recoverWith 11 = .ok (.getfield 41, 3) := by decide +kernel
theorem dX1_recoverWith_14 : decode cX1_recoverWith 14 = .ok (.aload_n 0, 1) := by decide +kernel
theorem dX1_recoverWith_15 : decode cX1_recoverWith 15 = .ok (.getfield 54, 3) := by decide +kernel
theorem dX1_recoverWith_18 : decode cX1_recoverWith 18 = .ok (.aload_n 0, 1) := by decide +kernel
theorem dX1_recoverWith_19 : decode cX1_recoverWith 19 = .ok (.getfield 70, 3) := by decide +kernel
theorem dX1_recoverWith_22 : decode cX1_recoverWith 22 = .ok (.iload_n 1, 1) := by decide +kernel
theorem dX1_recoverWith_23 : decode cX1_recoverWith 23 = .ok (.invokevirtual 290, 3) := by decide +kernel
theorem dX1_recoverWith_26 : decode cX1_recoverWith 26 = .ok (.aload_n 0, 1) := by decide +kernel
theorem dX1_recoverWith_27 : decode cX1_recoverWith 27 = .ok (.iload_n 1, 1) := by decide +kernel
theorem dX1_recoverWith_28 : decode cX1_recoverWith 28 = .ok (.putfield 70, 3) := by decide +kernel
theorem dX1_recoverWith_31 : decode cX1_recoverWith 31 = .ok (.aload_n 0, 1) := by decide +kernel
theorem dX1_recoverWith_32 : decode cX1_recoverWith 32 = .ok (.invokevirtual 116, 3) := by decide +kernel
theorem dX1_recoverWith_35 : decode cX1_recoverWith 35 = .ok (.return_, 1) := by decide +kernel
theorem hyX1_recoverWith : yX1_recoverWith.cls ≠ "java/lang/invoke/MethodHandle" ∧ yX1_recoverWith.cls ≠ "java/lang/invoke/VarHandle" ∧ (parseMethodDescriptor yX1_recoverWith.desc).map (fun d => d.parameters.length) = some 1 := ⟨by decide +kernel, by decide +kernel, by decide +kernel⟩
def jX1_recoverWith_26 (σ : zS) (x0 : Nat) (x1 : Int32)  : Option zS :=
  (zpI 1 0 σ x0 x1).bind fun σ3 => (zck 1 σ3 x0 (fX1_recover σ3 x0 )).bind fun c4 => some c4
set_option maxRecDepth 100000 in
set_option maxHeartbeats 4000000 in
theorem wjX1_recoverWith_26 (C : zC p s m args meth c cX1_recoverWith RX1 2 D Ca B En) (hRm : zRm R 4 129 cells slots) (σ : zS) (x0 : Nat) (x1 : Int32)  (τ : zS) (hf : jX1_recoverWith_26 σ x0 x1  = some τ) (hq : ∀ (pc : Nat) (lv : List (Nat × Value)), decode cX1_recoverWith pc = .ok (.return_, 1) → zW p l e R s m args below meth c cells slots Q D Ca B 2 τ N pc lv []) : zW p l e R s m args below meth c cells slots Q D Ca B 2 σ N 26 [(0, .ref x0), (1, .int x1)] [] := by
  unfold jX1_recoverWith_26 at hf
  refine z_aload_n C dX1_recoverWith_26 rfl 0 rfl ?_
  refine z_iload_n C dX1_recoverWith_27 rfl 1 rfl ?_
  obtain ⟨σ3, hσ3, hf⟩ := zbind hf
  refine gp_RX1_70 C hσ3 dX1_recoverWith_28 ?_
  refine z_aload_n C dX1_recoverWith_31 rfl 0 rfl ?_
  obtain ⟨c4, hc4, hf⟩ := zbind hf
  obtain ⟨kc4, hc4⟩ := zck_ok hc4
  refine z_callVv (As := []) (F0 := 4) (L0 := 129) C (mX1_recover l D Ca B En C.2.2.2.2.2.2.2.1 σ3 N x0  _ hc4) hRm kc4 rfl kw_310 kw_8 kw_307 kw_308 kw_309 hyX1_recover (Nat.le_of_ble_eq_true rfl) (Nat.le_of_ble_eq_true rfl) rfl rfl (Nat.le_of_ble_eq_true rfl) dX1_recoverWith_32 ?_
  cases hf
  exact hq _ _ dX1_recoverWith_35

def fX1_recoverWith (σ : zS) (x0 : Nat) (x1 : Int32) : Option zS :=
  (zgR 1 16 σ x0).bind fun v1 => (zck 0 σ v1 (fX0_exists σ v1 )).bind fun c2 => (if c2.2 = 0 then jX1_recoverWith_26 c2.1 x0 x1 else (zgR 1 16 c2.1 x0).bind fun v5 => (zgR 1 17 c2.1 x0).bind fun v6 => (zgI 1 0 c2.1 x0).bind fun v7 => (zck 0 c2.1 v5 (fX0_spread c2.1 v5 v6 v7 x1)).bind fun c8 => jX1_recoverWith_26 c8 x0 x1)
set_option maxRecDepth 100000 in
set_option maxHeartbeats 4000000 in
theorem wfX1_recoverWith (C : zC p s m args meth c cX1_recoverWith RX1 2 D Ca B En) (hRm : zRm R 4 129 cells slots) (σ : zS) (x0 : Nat) (x1 : Int32) (τ : zS) (hf : fX1_recoverWith σ x0 x1 = some τ) (hq : ∀ (pc : Nat) (lv : List (Nat × Value)), decode cX1_recoverWith pc = .ok (.return_, 1) → zW p l e R s m args below meth c cells slots Q D Ca B 2 τ N pc lv []) : zW p l e R s m args below meth c cells slots Q D Ca B 2 σ N 0 [(0, .ref x0), (1, .int x1)] [] := by
  unfold fX1_recoverWith at hf
  refine z_aload_n C dX1_recoverWith_0 rfl 0 rfl ?_
  obtain ⟨v1, hv1, hf⟩ := zbind hf
  refine gf_RX1_41 C hv1 dX1_recoverWith_1 ?_
  obtain ⟨c2, hc2, hf⟩ := zbind hf
  obtain ⟨kc2, hc2⟩ := zck_ok hc2
  refine z_callVi (As := []) (F0 := 4) (L0 := 129) C (mX0_exists l D Ca B En C.2.2.2.2.2.2.2.1 σ N v1  _ hc2) hRm kc2 rfl kw_318 kw_10 kw_315 kw_316 kw_317 hyX0_exists (Nat.le_of_ble_eq_true rfl) (Nat.le_of_ble_eq_true rfl) rfl rfl (Nat.le_of_ble_eq_true rfl) dX1_recoverWith_4 ?_
  refine z_if_eq C 26 dX1_recoverWith_7 (by decide) (fun q9 => ?_) (fun q9 => ?_)
  · rw [if_pos q9] at hf
    refine z_sub [0, 1] rfl ?_
    exact wjX1_recoverWith_26 C hRm _ _ _  _ hf hq
  · rw [if_neg q9] at hf
    refine z_aload_n C dX1_recoverWith_10 rfl 0 rfl ?_
    obtain ⟨v5, hv5, hf⟩ := zbind hf
    refine gf_RX1_41 C hv5 dX1_recoverWith_11 ?_
    refine z_aload_n C dX1_recoverWith_14 rfl 0 rfl ?_
    obtain ⟨v6, hv6, hf⟩ := zbind hf
    refine gf_RX1_54 C hv6 dX1_recoverWith_15 ?_
    refine z_aload_n C dX1_recoverWith_18 rfl 0 rfl ?_
    obtain ⟨v7, hv7, hf⟩ := zbind hf
    refine gf_RX1_70 C hv7 dX1_recoverWith_19 ?_
    refine z_iload_n C dX1_recoverWith_22 rfl 1 rfl ?_
    obtain ⟨c8, hc8, hf⟩ := zbind hf
    obtain ⟨kc8, hc8⟩ := zck_ok hc8
    refine z_callVv (As := [.ref v6, .int v7, .int x1]) (F0 := 4) (L0 := 129) C (mX0_spread l D Ca B En C.2.2.2.2.2.2.2.1 c2.1 N v5 v6 v7 x1 _ hc8) hRm kc8 rfl kw_1169 kw_10 kw_1166 kw_1167 kw_1168 hyX0_spread (Nat.le_of_ble_eq_true rfl) (Nat.le_of_ble_eq_true rfl) rfl rfl (Nat.le_of_ble_eq_true rfl) dX1_recoverWith_23 ?_
    refine z_sub [0, 1] rfl ?_
    exact wjX1_recoverWith_26 C hRm _ _ _  _ hf hq

theorem mX1_recoverWith (l : Launch) (D : va_G) (Ca : Nat → ClassId) (B : Nat) (En : State → Prop) (hE : zEk B En) (σ : zS) (N : Nat) (x0 : Nat) (x1 : Int32) (X : zS) (hf : fX1_recoverWith σ x0 x1 = some X) : zMv l D Ca B En yX1_recoverWith cX1_recoverWith 2 (Option.none : Option Jvm.ClassFile.FieldType) 4 129 [.ref x0, .int x1] σ N X () :=
  zMet_v (own := RX1) hE (by decide +kernel) rfl (Nat.le_of_ble_eq_true rfl) (fun p e s m args below meth c C hr hRm => wfX1_recoverWith C hRm σ x0 x1 X hf (fun pc lv hd => zfin_v (r := ()) C hr hd))
theorem dX1_isQuiet_0 : decode cX1_isQuiet 0 = .ok (.iconst 0, 1) := by decide +kernel
theorem dX1_isQuiet_1 : decode cX1_isQuiet 1 = .ok (.istore_n 1, 1) := by decide +kernel
theorem dX1_isQuiet_2 : decode cX1_isQuiet 2 = .ok (.iload_n 1, 1) := by decide +kernel
theorem dX1_isQuiet_3 : decode cX1_isQuiet 3 = .ok (.aload_n 0, 1) := by decide +kernel
theorem dX1_isQuiet_4 : decode cX1_isQuiet 4 = .ok (.getfield 54, 3) := by decide +kernel
theorem dX1_isQuiet_7 : decode cX1_isQuiet 7 = .ok (.getfield 140, 3) := by decide +kernel
theorem dX1_isQuiet_10 : decode cX1_isQuiet 10 = .ok (.if_icmp .ge 29, 3) := by decide +kernel
theorem dX1_isQuiet_13 : decode cX1_isQuiet 13 = .ok (.aload_n 0, 1) := by decide +kernel
theorem dX1_isQuiet_14 : decode cX1_isQuiet 14 = .ok (.getfield 15, 3) := by decide +kernel
theorem dX1_isQuiet_17 : decode cX1_isQuiet 17 = .ok (.iload_n 1, 1) := by decide +kernel
theorem dX1_isQuiet_18 : decode cX1_isQuiet 18 = .ok (.iaload, 1) := by decide +kernel
theorem dX1_isQuiet_19 : decode cX1_isQuiet 19 = .ok (.aload_n 0, 1) := by decide +kernel
theorem dX1_isQuiet_20 : decode cX1_isQuiet 20 = .ok (.getfield 54, 3) := by decide +kernel
theorem dX1_isQuiet_23 : decode cX1_isQuiet 23 = .ok (.getfield 197, 3) := by decide +kernel
theorem dX1_isQuiet_26 : decode cX1_isQuiet 26 = .ok (.iload_n 1, 1) := by decide +kernel
theorem dX1_isQuiet_27 : decode cX1_isQuiet 27 = .ok (.iaload, 1) := by decide +kernel
theorem dX1_isQuiet_28 : decode cX1_isQuiet 28 = .ok (.if_icmp .ge 5, 3) := by decide +kernel
theorem dX1_isQuiet_31 : decode cX1_isQuiet 31 = .ok (.iconst 0, 1) := by decide +kernel
theorem dX1_isQuiet_32 : decode cX1_isQuiet 32 = .ok (.ireturn, 1) := by decide +kernel
theorem dX1_isQuiet_33 : decode cX1_isQuiet 33 = .ok (.iinc 1 1, 3) := by decide +kernel
theorem dX1_isQuiet_36 : decode cX1_isQuiet 36 = .ok (.goto (-34), 3) := by decide +kernel
theorem dX1_isQuiet_39 : decode cX1_isQuiet 39 = .ok (.iconst 0, 1) := by decide +kernel
theorem dX1_isQuiet_40 : decode cX1_isQuiet 40 = .ok (.istore_n 1, 1) := by decide +kernel
theorem dX1_isQuiet_41 : decode cX1_isQuiet 41 = .ok (.iload_n 1, 1) := by decide +kernel
theorem dX1_isQuiet_42 : decode cX1_isQuiet 42 = .ok (.bipush 28, 2) := by decide +kernel
theorem dX1_isQuiet_44 : decode cX1_isQuiet 44 = .ok (.if_icmp .ge 22, 3) := by decide +kernel
theorem dX1_isQuiet_47 : decode cX1_isQuiet 47 = .ok (.aload_n 0, 1) := by decide +kernel
theorem dX1_isQuiet_48 : decode cX1_isQuiet 48 = .ok (.getfield 30, 3) := by decide +kernel
theorem dX1_isQuiet_51 : decode cX1_isQuiet 51 = .ok (.iload_n 1, 1) := by decide +kernel
theorem dX1_isQuiet_52 : decode cX1_isQuiet 52 = .ok (.invokevirtual 194, 3) := by decide +kernel
theorem dX1_isQuiet_55 : decode cX1_isQuiet 55 = .ok (.ifCond .le 5, 3) := by decide +kernel
theorem dX1_isQuiet_58 : decode cX1_isQuiet 58 = .ok (.iconst 0, 1) := by decide +kernel
theorem dX1_isQuiet_59 : decode cX1_isQuiet 59 = .ok (.ireturn, 1) := by decide +kernel
theorem dX1_isQuiet_60 : decode cX1_isQuiet 60 = .ok (.iinc 1 1, 3) := by decide +kernel
theorem dX1_isQuiet_63 : decode cX1_isQuiet 63 = .ok (.goto (-22), 3) := by decide +kernel
theorem dX1_isQuiet_66 : decode cX1_isQuiet 66 = .ok (.iconst 1, 1) := by decide +kernel
theorem dX1_isQuiet_67 : decode cX1_isQuiet 67 = .ok (.ireturn, 1) := by decide +kernel
theorem hyX1_isQuiet : yX1_isQuiet.cls ≠ "java/lang/invoke/MethodHandle" ∧ yX1_isQuiet.cls ≠ "java/lang/invoke/VarHandle" ∧ (parseMethodDescriptor yX1_isQuiet.desc).map (fun d => d.parameters.length) = some 0 := ⟨by decide +kernel, by decide +kernel, by decide +kernel⟩
def sX1_isQuiet_2b (x0 : Nat) (σ : zS) (u1 : Int32) : Option ((zS × Int32) ⊕ (zS ⊕ zS)) :=
  (zgR 1 17 σ x0).bind fun v1 => (zgI 7 0 σ v1).bind fun v2 => (if v2 ≤ u1 then some (.inr (.inr σ)) else (zgR 1 10 σ x0).bind fun v3 => (zaI σ v3 u1).bind fun v4 => (zgR 1 17 σ x0).bind fun v5 => (zgR 7 2 σ v5).bind fun v6 => (zaI σ v6 u1).bind fun v7 => (if v7 ≤ v4 then some (.inl (σ, u1 + 1)) else some (.inr (.inl σ))))
def sX1_isQuiet_2 (x0 : Nat) (z : (zS × Int32)) : Option ((zS × Int32) ⊕ (zS ⊕ zS)) := sX1_isQuiet_2b x0 z.1 z.2
set_option maxRecDepth 100000 in
set_option maxHeartbeats 4000000 in
theorem wsX1_isQuiet_2b (C : zC p s m args meth c cX1_isQuiet RX1 2 D Ca B En) (hRm : zRm R 2 41 cells slots) (x0 : Nat) (σ : zS) (u1 : Int32) (y : (zS × Int32) ⊕ (zS ⊕ zS)) (hf : sX1_isQuiet_2b x0 σ u1 = some y) (hk : (∀ z : (zS × Int32), y = .inl z → zW p l e R s m args below meth c cells slots Q D Ca B 2 z.1 N 2 [(0, .ref x0), (1, .int z.2)] []) ∧ (∀ z : zS, y = .inr (.inl z) → zW p l e R s m args below meth c cells slots Q D Ca B 2 z N 31 [] []) ∧ (∀ z : zS, y = .inr (.inr z) → zW p l e R s m args below meth c cells slots Q D Ca B 2 z N 39 [(0, .ref x0)] [])) : zW p l e R s m args below meth c cells slots Q D Ca B 2 σ N 2 [(0, .ref x0), (1, .int u1)] [] := by
  unfold sX1_isQuiet_2b at hf
  refine z_iload_n C dX1_isQuiet_2 rfl 1 rfl ?_
  refine z_aload_n C dX1_isQuiet_3 rfl 0 rfl ?_
  obtain ⟨v1, hv1, hf⟩ := zbind hf
  refine gf_RX1_54 C hv1 dX1_isQuiet_4 ?_
  obtain ⟨v2, hv2, hf⟩ := zbind hf
  refine gf_RX1_140 C hv2 dX1_isQuiet_7 ?_
  refine z_icmp_ge C 39 dX1_isQuiet_10 (by decide) (fun q9 => ?_) (fun q9 => ?_)
  · rw [if_pos q9] at hf
    cases hf
    refine z_sub [0] rfl ?_
    exact hk.2.2 _ rfl
  · rw [if_neg q9] at hf
    refine z_aload_n C dX1_isQuiet_13 rfl 0 rfl ?_
    obtain ⟨v3, hv3, hf⟩ := zbind hf
    refine gf_RX1_15 C hv3 dX1_isQuiet_14 ?_
    refine z_iload_n C dX1_isQuiet_17 rfl 1 rfl ?_
    obtain ⟨v4, hv4, hf⟩ := zbind hf
    refine z_aI C hv4 dX1_isQuiet_18 ?_
    refine z_aload_n C dX1_isQuiet_19 rfl 0 rfl ?_
    obtain ⟨v5, hv5, hf⟩ := zbind hf
    refine gf_RX1_54 C hv5 dX1_isQuiet_20 ?_
    obtain ⟨v6, hv6, hf⟩ := zbind hf
    refine gf_RX1_197 C hv6 dX1_isQuiet_23 ?_
    refine z_iload_n C dX1_isQuiet_26 rfl 1 rfl ?_
    obtain ⟨v7, hv7, hf⟩ := zbind hf
    refine z_aI C hv7 dX1_isQuiet_27 ?_
    refine z_icmp_ge C 33 dX1_isQuiet_28 (by decide) (fun q8 => ?_) (fun q8 => ?_)
    · rw [if_pos q8] at hf
      refine z_iinc (lv2 := [(1, .int (u1 + 1)), (0, .ref x0)]) C (u1 + 1) dX1_isQuiet_33 1 rfl rfl (by decide) rfl ?_
      refine z_goto C 2 dX1_isQuiet_36 (by decide) ?_
      cases hf
      refine z_sub [1, 0] rfl ?_
      exact hk.1 _ rfl
    · rw [if_neg q8] at hf
      cases hf
      refine z_sub [] rfl ?_
      exact hk.2.1 _ rfl

theorem wsX1_isQuiet_2 (C : zC p s m args meth c cX1_isQuiet RX1 2 D Ca B En) (hRm : zRm R 2 41 cells slots) (x0 : Nat) (n : Nat) (z : (zS × Int32)) (x : (zS ⊕ zS)) (hf : zloop (sX1_isQuiet_2 x0) n z = some x) (hk : (∀ o : zS, x = (.inl o) → zW p l e R s m args below meth c cells slots Q D Ca B 2 o N 31 [] []) ∧ (∀ o : zS, x = (.inr o) → zW p l e R s m args below meth c cells slots Q D Ca B 2 o N 39 [(0, .ref x0)] [])) : zW p l e R s m args below meth c cells slots Q D Ca B 2 z.1 N 2 [(0, .ref x0), (1, .int z.2)] [] := by
  refine zloop_W (P := fun z : (zS × Int32) => zW p l e R s m args below meth c cells slots Q D Ca B 2 z.1 N 2 [(0, .ref x0), (1, .int z.2)] []) (K := fun x : (zS ⊕ zS) => (∀ o : zS, x = (.inl o) → zW p l e R s m args below meth c cells slots Q D Ca B 2 o N 31 [] []) ∧ (∀ o : zS, x = (.inr o) → zW p l e R s m args below meth c cells slots Q D Ca B 2 o N 39 [(0, .ref x0)] [])) ?_ n z x hf hk
  intro z y hy h1 h2
  refine wsX1_isQuiet_2b C hRm x0 z.1 z.2 y hy ⟨fun z2 e => h1 z2 e, fun o e => (h2 _ e).1 o rfl, fun o e => (h2 _ e).2 o rfl⟩
def sX1_isQuiet_41b (x0 : Nat) (σ : zS) (u1 : Int32) : Option ((zS × Int32) ⊕ (zS ⊕ zS)) :=
  (if 28 ≤ u1 then some (.inr (.inr σ)) else (zgR 1 14 σ x0).bind fun v13 => (zck 3 σ v13 (fX3_sizeOf σ v13 u1)).bind fun c14 => (if c14.2 ≤ 0 then some (.inl (c14.1, u1 + 1)) else some (.inr (.inl c14.1))))
def sX1_isQuiet_41 (x0 : Nat) (z : (zS × Int32)) : Option ((zS × Int32) ⊕ (zS ⊕ zS)) := sX1_isQuiet_41b x0 z.1 z.2
set_option maxRecDepth 100000 in
set_option maxHeartbeats 4000000 in
theorem wsX1_isQuiet_41b (C : zC p s m args meth c cX1_isQuiet RX1 2 D Ca B En) (hRm : zRm R 2 41 cells slots) (x0 : Nat) (σ : zS) (u1 : Int32) (y : (zS × Int32) ⊕ (zS ⊕ zS)) (hf : sX1_isQuiet_41b x0 σ u1 = some y) (hk : (∀ z : (zS × Int32), y = .inl z → zW p l e R s m args below meth c cells slots Q D Ca B 2 z.1 N 41 [(0, .ref x0), (1, .int z.2)] []) ∧ (∀ z : zS, y = .inr (.inl z) → zW p l e R s m args below meth c cells slots Q D Ca B 2 z N 58 [] []) ∧ (∀ z : zS, y = .inr (.inr z) → zW p l e R s m args below meth c cells slots Q D Ca B 2 z N 66 [] [])) : zW p l e R s m args below meth c cells slots Q D Ca B 2 σ N 41 [(0, .ref x0), (1, .int u1)] [] := by
  unfold sX1_isQuiet_41b at hf
  refine z_iload_n C dX1_isQuiet_41 rfl 1 rfl ?_
  refine z_bipush C 28 dX1_isQuiet_42 (by decide) ?_
  refine z_icmp_ge C 66 dX1_isQuiet_44 (by decide) (fun q16 => ?_) (fun q16 => ?_)
  · rw [if_pos q16] at hf
    cases hf
    refine z_sub [] rfl ?_
    exact hk.2.2 _ rfl
  · rw [if_neg q16] at hf
    refine z_aload_n C dX1_isQuiet_47 rfl 0 rfl ?_
    obtain ⟨v13, hv13, hf⟩ := zbind hf
    refine gf_RX1_30 C hv13 dX1_isQuiet_48 ?_
    refine z_iload_n C dX1_isQuiet_51 rfl 1 rfl ?_
    obtain ⟨c14, hc14, hf⟩ := zbind hf
    obtain ⟨kc14, hc14⟩ := zck_ok hc14
    refine z_callVi (As := [.int u1]) (F0 := 2) (L0 := 41) C (mX3_sizeOf l D Ca B En C.2.2.2.2.2.2.2.1 σ N v13 u1 _ hc14) hRm kc14 rfl kw_342 kw_9 kw_339 kw_340 kw_341 hyX3_sizeOf (Nat.le_of_ble_eq_true rfl) (Nat.le_of_ble_eq_true rfl) rfl rfl (Nat.le_of_ble_eq_true rfl) dX1_isQuiet_52 ?_
    refine z_if_le C 60 dX1_isQuiet_55 (by decide) (fun q15 => ?_) (fun q15 => ?_)
    · rw [if_pos q15] at hf
      refine z_iinc (lv2 := [(1, .int (u1 + 1)), (0, .ref x0)]) C (u1 + 1) dX1_isQuiet_60 1 rfl rfl (by decide) rfl ?_
      refine z_goto C 41 dX1_isQuiet_63 (by decide) ?_
      cases hf
      refine z_sub [1, 0] rfl ?_
      exact hk.1 _ rfl
    · rw [if_neg q15] at hf
      cases hf
      refine z_sub [] rfl ?_
      exact hk.2.1 _ rfl

theorem wsX1_isQuiet_41 (C : zC p s m args meth c cX1_isQuiet RX1 2 D Ca B En) (hRm : zRm R 2 41 cells slots) (x0 : Nat) (n : Nat) (z : (zS × Int32)) (x : (zS ⊕ zS)) (hf : zloop (sX1_isQuiet_41 x0) n z = some x) (hk : (∀ o : zS, x = (.inl o) → zW p l e R s m args below meth c cells slots Q D Ca B 2 o N 58 [] []) ∧ (∀ o : zS, x = (.inr o) → zW p l e R s m args below meth c cells slots Q D Ca B 2 o N 66 [] [])) : zW p l e R s m args below meth c cells slots Q D Ca B 2 z.1 N 41 [(0, .ref x0), (1, .int z.2)] [] := by
  refine zloop_W (P := fun z : (zS × Int32) => zW p l e R s m args below meth c cells slots Q D Ca B 2 z.1 N 41 [(0, .ref x0), (1, .int z.2)] []) (K := fun x : (zS ⊕ zS) => (∀ o : zS, x = (.inl o) → zW p l e R s m args below meth c cells slots Q D Ca B 2 o N 58 [] []) ∧ (∀ o : zS, x = (.inr o) → zW p l e R s m args below meth c cells slots Q D Ca B 2 o N 66 [] [])) ?_ n z x hf hk
  intro z y hy h1 h2
  refine wsX1_isQuiet_41b C hRm x0 z.1 z.2 y hy ⟨fun z2 e => h1 z2 e, fun o e => (h2 _ e).1 o rfl, fun o e => (h2 _ e).2 o rfl⟩
def fX1_isQuiet (σ : zS) (x0 : Nat) : Option (zS × Int32) :=
  (zloop (sX1_isQuiet_2 x0) zfuel (σ, 0)).bind fun o10 => (match o10 with | (.inl z11) => zrZ z11 0 | (.inr z12) => (zloop (sX1_isQuiet_41 x0) zfuel (z12, 0)).bind fun o17 => (match o17 with | (.inl z18) => zrZ z18 0 | (.inr z19) => zrZ z19 1))
set_option maxRecDepth 100000 in
set_option maxHeartbeats 4000000 in
theorem wfX1_isQuiet (C : zC p s m args meth c cX1_isQuiet RX1 2 D Ca B En) (hRm : zRm R 2 41 cells slots) (σ : zS) (x0 : Nat) (τ : zS) (r : Int32) (hf : fX1_isQuiet σ x0 = some (τ, r)) (hq : ∀ (pc : Nat) (lv : List (Nat × Value)), (r = 0 ∨ r = 1) → decode cX1_isQuiet pc = .ok (.ireturn, 1) → zW p l e R s m args below meth c cells slots Q D Ca B 2 τ N pc lv [.int r]) : zW p l e R s m args below meth c cells slots Q D Ca B 2 σ N 0 [(0, .ref x0)] [] := by
  unfold fX1_isQuiet at hf
  refine z_iconst C 0 dX1_isQuiet_0 (by decide) ?_
  refine z_istore_n (lv2 := [(1, .int 0), (0, .ref x0)]) C dX1_isQuiet_1 rfl (by decide) rfl ?_
  obtain ⟨o10, ho10, hf⟩ := zbind hf
  refine z_sub [1, 0] rfl ?_
  refine wsX1_isQuiet_2 C hRm _ zfuel (σ, 0) o10 ho10 ⟨?_, ?_⟩
  · intro z11 e9
    subst e9
    dsimp only at hf
    refine z_iconst C 0 dX1_isQuiet_31 (by decide) ?_
    obtain ⟨e9, b9⟩ := zrZ_ok hf
    cases e9
    exact hq _ _ b9 dX1_isQuiet_32
  · intro z12 e9
    subst e9
    dsimp only at hf
    refine z_iconst C 0 dX1_isQuiet_39 (by decide) ?_
    refine z_istore_n (lv2 := [(1, .int 0), (0, .ref x0)]) C dX1_isQuiet_40 rfl (by decide) rfl ?_
    obtain ⟨o17, ho17, hf⟩ := zbind hf
    refine z_sub [1, 0] rfl ?_
    refine wsX1_isQuiet_41 C hRm _ zfuel (z12, 0) o17 ho17 ⟨?_, ?_⟩
    · intro z18 e9
      subst e9
      dsimp only at hf
      refine z_iconst C 0 dX1_isQuiet_58 (by decide) ?_
      obtain ⟨e9, b9⟩ := zrZ_ok hf
      cases e9
      exact hq _ _ b9 dX1_isQuiet_59
    · intro z19 e9
      subst e9
      dsimp only at hf
      refine z_iconst C 1 dX1_isQuiet_66 (by decide) ?_
      obtain ⟨e9, b9⟩ := zrZ_ok hf
      cases e9
      exact hq _ _ b9 dX1_isQuiet_67

theorem mX1_isQuiet (l : Launch) (D : va_G) (Ca : Nat → ClassId) (B : Nat) (En : State → Prop) (hE : zEk B En) (σ : zS) (N : Nat) (x0 : Nat) (X : zS × Int32) (hf : fX1_isQuiet σ x0 = some X) : zMi l D Ca B En yX1_isQuiet cX1_isQuiet 2 (Option.some Jvm.ClassFile.FieldType.boolean) 2 41 [.ref x0] σ N X.1 X.2 :=
  zMet_i (own := RX1) hE (by decide +kernel) rfl (Nat.le_of_ble_eq_true rfl) (fun p e s m args below meth c C hr hRm => wfX1_isQuiet C hRm σ x0 X.1 X.2 hf (fun pc lv hb hd => zfin_z C hb hr hd))
theorem dX1_thingsIn_0 : decode cX1_thingsIn 0 = .ok (.iload_n 2, 1) := by decide +kernel
theorem dX1_thingsIn_1 : decode cX1_thingsIn 1 = .ok (.ifCond .ne 12, 3) := by decide +kernel
theorem dX1_thingsIn_4 : decode cX1_thingsIn 4 = .ok (.aload_n 0, 1) := by decide +kernel
theorem dX1_thingsIn_5 : decode cX1_thingsIn 5 = .ok (.getfield 30, 3) := by decide +kernel
theorem dX1_thingsIn_8 : decode cX1_thingsIn 8 = .ok (.iload_n 1, 1) := by decide +kernel
theorem dX1_thingsIn_9 : decode cX1_thingsIn 9 = .ok (.invokevirtual 194, 3) := by decide +kernel
theorem dX1_thingsIn_12 : decode cX1_thingsIn 12 = .ok (.ireturn, 1) := by decide +kernel
theorem dX1_thingsIn_13 : decode cX1_thingsIn 13 = .ok (.iload_n 1, 1) := by decide +kernel
theorem dX1_thingsIn_14 : decode cX1_thingsIn 14 = .ok (.ifCond .lt 23, 3) := by decide +kernel
theorem dX1_thingsIn_17 : decode cX1_thingsIn 17 = .ok (.iload_n 1, 1) := by decide +kernel
theorem dX1_thingsIn_18 : decode cX1_thingsIn 18 = .ok (.bipush 24, 2) := by decide +kernel
theorem dX1_thingsIn_20 : decode cX1_thingsIn 20 = .ok (.if_icmp .ge 17, 3) := by decide +kernel
theorem dX1_thingsIn_23 : decode cX1_thingsIn 23 = .ok (.aload_n 0, 1) := by decide +kernel
theorem dX1_thingsIn_24 : decode cX1_thingsIn 24 = .ok (.getfield 47, 3) := by decide +kernel
theorem dX1_thingsIn_27 : decode cX1_thingsIn 27 = .ok (.iload_n 1, 1) := by decide +kernel
theorem dX1_thingsIn_28 : decode cX1_thingsIn 28 = .ok (.iaload, 1) := by decide +kernel
theorem dX1_thingsIn_29 : decode cX1_thingsIn 29 = .ok (.iconst (-1), 1) := by decide +kernel
theorem dX1_thingsIn_30 : decode cX1_thingsIn 30 = .ok (.if_icmp .eq 7, 3) := by decide +kernel
theorem dX1_thingsIn_33 : decode cX1_thingsIn 33 = .ok (.iconst 1, 1) := by decide +kernel
theorem dX1_thingsIn_34 : decode cX1_thingsIn 34 = .ok (.goto 4, 3) := by decide +kernel
theorem dX1_thingsIn_37 : decode cX1_thingsIn 37 = .ok (.iconst 0, 1) := by decide +kernel
theorem dX1_thingsIn_38 : decode cX1_thingsIn 38 = .ok (.ireturn, 1) := by decide +kernel
theorem hyX1_thingsIn : yX1_thingsIn.cls ≠ "java/lang/invoke/MethodHandle" ∧ yX1_thingsIn.cls ≠ "java/lang/invoke/VarHandle" ∧ (parseMethodDescriptor yX1_thingsIn.desc).map (fun d => d.parameters.length) = some 2 := ⟨by decide +kernel, by decide +kernel, by decide +kernel⟩
def fX1_thingsIn (σ : zS) (x0 : Nat) (x1 : Int32) (x2 : Int32) : Option (zS × Int32) :=
  (if x2 = 0 then (zgR 1 14 σ x0).bind fun v6 => (zck 3 σ v6 (fX3_sizeOf σ v6 x1)).bind fun c7 => some (c7.1, c7.2) else (if x1 < 0 then some (σ, 0) else (if 24 ≤ x1 then some (σ, 0) else (zgR 1 19 σ x0).bind fun v1 => (zaI σ v1 x1).bind fun v2 => (if v2 = ((-1)) then some (σ, 0) else some (σ, 1)))))
set_option maxRecDepth 100000 in
set_option maxHeartbeats 4000000 in
theorem wfX1_thingsIn (C : zC p s m args meth c cX1_thingsIn RX1 3 D Ca B En) (hRm : zRm R 2 41 cells slots) (σ : zS) (x0 : Nat) (x1 : Int32) (x2 : Int32) (τ : zS) (r : Int32) (hf : fX1_thingsIn σ x0 x1 x2 = some (τ, r)) (hq : ∀ (pc : Nat) (lv : List (Nat × Value)), decode cX1_thingsIn pc = .ok (.ireturn, 1) → zW p l e R s m args below meth c cells slots Q D Ca B 3 τ N pc lv [.int r]) : zW p l e R s m args below meth c cells slots Q D Ca B 3 σ N 0 [(0, .ref x0), (1, .int x1), (2, .int x2)] [] := by
  unfold fX1_thingsIn at hf
  refine z_iload_n C dX1_thingsIn_0 rfl 2 rfl ?_
  refine z_if_ne C 13 dX1_thingsIn_1 (by decide) (fun q8 => ?_) (fun q8 => ?_)
  · rw [if_neg q8] at hf
    refine z_iload_n C dX1_thingsIn_13 rfl 1 rfl ?_
    refine z_if_lt C 37 dX1_thingsIn_14 (by decide) (fun q5 => ?_) (fun q5 => ?_)
    · rw [if_pos q5] at hf
      refine z_iconst C 0 dX1_thingsIn_37 (by decide) ?_
      cases hf
      exact hq _ _ dX1_thingsIn_38
    · rw [if_neg q5] at hf
      refine z_iload_n C dX1_thingsIn_17 rfl 1 rfl ?_
      refine z_bipush C 24 dX1_thingsIn_18 (by decide) ?_
      refine z_icmp_ge C 37 dX1_thingsIn_20 (by decide) (fun q4 => ?_) (fun q4 => ?_)
      · rw [if_pos q4] at hf
        refine z_iconst C 0 dX1_thingsIn_37 (by decide) ?_
        cases hf
        exact hq _ _ dX1_thingsIn_38
      · rw [if_neg q4] at hf
        refine z_aload_n C dX1_thingsIn_23 rfl 0 rfl ?_
        obtain ⟨v1, hv1, hf⟩ := zbind hf
        refine gf_RX1_47 C hv1 dX1_thingsIn_24 ?_
        refine z_iload_n C dX1_thingsIn_27 rfl 1 rfl ?_
        obtain ⟨v2, hv2, hf⟩ := zbind hf
        refine z_aI C hv2 dX1_thingsIn_28 ?_
        refine z_iconst C (-1) dX1_thingsIn_29 (by decide) ?_
        refine z_icmp_eq C 37 dX1_thingsIn_30 (by decide) (fun q3 => ?_) (fun q3 => ?_)
        · rw [if_pos q3] at hf
          refine z_iconst C 0 dX1_thingsIn_37 (by decide) ?_
          cases hf
          exact hq _ _ dX1_thingsIn_38
        · rw [if_neg q3] at hf
          refine z_iconst C 1 dX1_thingsIn_33 (by decide) ?_
          refine z_goto C 38 dX1_thingsIn_34 (by decide) ?_
          cases hf
          exact hq _ _ dX1_thingsIn_38
  · rw [if_pos q8] at hf
    refine z_aload_n C dX1_thingsIn_4 rfl 0 rfl ?_
    obtain ⟨v6, hv6, hf⟩ := zbind hf
    refine gf_RX1_30 C hv6 dX1_thingsIn_5 ?_
    refine z_iload_n C dX1_thingsIn_8 rfl 1 rfl ?_
    obtain ⟨c7, hc7, hf⟩ := zbind hf
    obtain ⟨kc7, hc7⟩ := zck_ok hc7
    refine z_callVi (As := [.int x1]) (F0 := 2) (L0 := 41) C (mX3_sizeOf l D Ca B En C.2.2.2.2.2.2.2.1 σ N v6 x1 _ hc7) hRm kc7 rfl kw_342 kw_9 kw_339 kw_340 kw_341 hyX3_sizeOf (Nat.le_of_ble_eq_true rfl) (Nat.le_of_ble_eq_true rfl) rfl rfl (Nat.le_of_ble_eq_true rfl) dX1_thingsIn_9 ?_
    cases hf
    exact hq _ _ dX1_thingsIn_12

theorem mX1_thingsIn (l : Launch) (D : va_G) (Ca : Nat → ClassId) (B : Nat) (En : State → Prop) (hE : zEk B En) (σ : zS) (N : Nat) (x0 : Nat) (x1 : Int32) (x2 : Int32) (X : zS × Int32) (hf : fX1_thingsIn σ x0 x1 x2 = some X) : zMi l D Ca B En yX1_thingsIn cX1_thingsIn 3 (Option.some Jvm.ClassFile.FieldType.int) 2 41 [.ref x0, .int x1, .int x2] σ N X.1 X.2 :=
  zMet_i (own := RX1) hE (by decide +kernel) rfl (Nat.le_of_ble_eq_true rfl) (fun p e s m args below meth c C hr hRm => wfX1_thingsIn C hRm σ x0 x1 x2 X.1 X.2 hf (fun pc lv hd => zfin_i C hr hd))
theorem dX1_recordsTo_0 : decode cX1_recordsTo 0 = .ok (.iconst 0, 1) := by decide +kernel
theorem dX1_recordsTo_1 : decode cX1_recordsTo 1 = .ok (.istore_n 2, 1) := by decide +kernel
theorem dX1_recordsTo_2 : decode cX1_recordsTo 2 = .ok (.iconst 0, 1) := by decide +kernel
theorem dX1_recordsTo_3 : decode cX1_recordsTo 3 = .ok (.istore_n 3, 1) := by decide +kernel
theorem dX1_recordsTo_4 : decode cX1_recordsTo 4 = .ok (.iload_n 3, 1) := by decide +kernel
theorem dX1_recordsTo_5 : decode cX1_recordsTo 5 = .ok (.aload_n 0, 1) := by decide +kernel
theorem dX1_recordsTo_6 : decode cX1_recordsTo 6 = .ok (.getfield 54, 3) := by decide +kernel
theorem dX1_recordsTo_9 : decode cX1_recordsTo 9 = .ok (.getfield 140, 3) := by decide +kernel
theorem dX1_recordsTo_12 : decode cX1_recordsTo 12 = .ok (.if_icmp .ge 24, 3) := by decide +kernel
theorem dX1_recordsTo_15 : decode cX1_recordsTo 15 = .ok (.iload_n 2, 1) := by decide +kernel
theorem dX1_recordsTo_16 : decode cX1_recordsTo 16 = .ok (.aload_n 0, 1) := by decide +kernel
theorem dX1_recordsTo_17 : decode cX1_recordsTo 17 = .ok (.getfield 30, 3) := by decide +kernel
theorem dX1_recordsTo_20 : decode cX1_recordsTo 20 = .ok (.iload_n 1, 1) := by decide +kernel
theorem dX1_recordsTo_21 : decode cX1_recordsTo 21 = .ok (.iload_n 3, 1) := by decide +kernel
theorem dX1_recordsTo_22 : decode cX1_recordsTo 22 = .ok (.invokestatic 190, 3) := by decide +kernel
theorem dX1_recordsTo_25 : decode cX1_recordsTo 25 = .ok (.invokevirtual 194, 3) := by decide +kernel
theorem dX1_recordsTo_28 : decode cX1_recordsTo 28 = .ok (.iadd, 1) := by decide +kernel
theorem dX1_recordsTo_29 : decode cX1_recordsTo 29 = .ok (.istore_n 2, 1) := by decide +kernel
theorem dX1_recordsTo_30 : decode cX1_recordsTo 30 = .ok (.iinc 3 1, 3) := by decide +kernel
theorem dX1_recordsTo_33 : decode cX1_recordsTo 33 = .ok (.goto (-29), 3) := by decide +kernel
theorem dX1_recordsTo_36 : decode cX1_recordsTo 36 = .ok (.iload_n 2, 1) := by decide +kernel
theorem dX1_recordsTo_37 : decode cX1_recordsTo 37 = .ok (.ireturn, 1) := by decide +kernel
theorem hyX1_recordsTo : yX1_recordsTo.cls ≠ "java/lang/invoke/MethodHandle" ∧ yX1_recordsTo.cls ≠ "java/lang/invoke/VarHandle" ∧ (parseMethodDescriptor yX1_recordsTo.desc).map (fun d => d.parameters.length) = some 1 := ⟨by decide +kernel, by decide +kernel, by decide +kernel⟩
def sX1_recordsTo_4b (x0 : Nat) (x1 : Int32) (σ : zS) (u2 : Int32) (u3 : Int32) : Option ((zS × Int32 × Int32) ⊕ (zS × Int32)) :=
  (zgR 1 17 σ x0).bind fun v1 => (zgI 7 0 σ v1).bind fun v2 => (if v2 ≤ u3 then some (.inr (σ, u2)) else (zgR 1 14 σ x0).bind fun v3 => (fX9_channel σ x1 u3).bind fun c4 => (zck 3 c4.1 v3 (fX3_sizeOf c4.1 v3 c4.2)).bind fun c5 => some (.inl (c5.1, u2 + c5.2, u3 + 1)))
def sX1_recordsTo_4 (x0 : Nat) (x1 : Int32) (z : (zS × Int32 × Int32)) : Option ((zS × Int32 × Int32) ⊕ (zS × Int32)) := sX1_recordsTo_4b x0 x1 z.1 z.2.1 z.2.2
set_option maxRecDepth 100000 in
set_option maxHeartbeats 4000000 in
theorem wsX1_recordsTo_4b (C : zC p s m args meth c cX1_recordsTo RX1 4 D Ca B En) (hRm : zRm R 2 41 cells slots) (x0 : Nat) (x1 : Int32) (σ : zS) (u2 : Int32) (u3 : Int32) (y : (zS × Int32 × Int32) ⊕ (zS × Int32)) (hf : sX1_recordsTo_4b x0 x1 σ u2 u3 = some y) (hk : (∀ z : (zS × Int32 × Int32), y = .inl z → zW p l e R s m args below meth c cells slots Q D Ca B 4 z.1 N 4 [(0, .ref x0), (1, .int x1), (2, .int z.2.1), (3, .int z.2.2)] []) ∧ (∀ z : (zS × Int32), y = .inr z → zW p l e R s m args below meth c cells slots Q D Ca B 4 z.1 N 36 [(2, .int z.2)] [])) : zW p l e R s m args below meth c cells slots Q D Ca B 4 σ N 4 [(0, .ref x0), (1, .int x1), (2, .int u2), (3, .int u3)] [] := by
  unfold sX1_recordsTo_4b at hf
  refine z_iload_n C dX1_recordsTo_4 rfl 3 rfl ?_
  refine z_aload_n C dX1_recordsTo_5 rfl 0 rfl ?_
  obtain ⟨v1, hv1, hf⟩ := zbind hf
  refine gf_RX1_54 C hv1 dX1_recordsTo_6 ?_
  obtain ⟨v2, hv2, hf⟩ := zbind hf
  refine gf_RX1_140 C hv2 dX1_recordsTo_9 ?_
  refine z_icmp_ge C 36 dX1_recordsTo_12 (by decide) (fun q6 => ?_) (fun q6 => ?_)
  · rw [if_pos q6] at hf
    cases hf
    refine z_sub [2] rfl ?_
    exact hk.2 _ rfl
  · rw [if_neg q6] at hf
    refine z_iload_n C dX1_recordsTo_15 rfl 2 rfl ?_
    refine z_aload_n C dX1_recordsTo_16 rfl 0 rfl ?_
    obtain ⟨v3, hv3, hf⟩ := zbind hf
    refine gf_RX1_30 C hv3 dX1_recordsTo_17 ?_
    refine z_iload_n C dX1_recordsTo_20 rfl 1 rfl ?_
    refine z_iload_n C dX1_recordsTo_21 rfl 3 rfl ?_
    obtain ⟨c4, hc4, hf⟩ := zbind hf
    refine z_callSNi (host := "BarrierFlow") (As := [.int x1, .int u3]) (F0 := 2) (L0 := 41) C (mX9_channel l D Ca B En C.2.2.2.2.2.2.2.1 σ N x1 u3 _ hc4) hRm kw_686 kw_1 (by decide) kw_685 hyX9_channel (Nat.le_of_ble_eq_true rfl) (Nat.le_of_ble_eq_true rfl) rfl rfl (Nat.le_of_ble_eq_true rfl) dX1_recordsTo_22 ?_
    obtain ⟨c5, hc5, hf⟩ := zbind hf
    obtain ⟨kc5, hc5⟩ := zck_ok hc5
    refine z_callVi (As := [.int c4.2]) (F0 := 2) (L0 := 41) C (mX3_sizeOf l D Ca B En C.2.2.2.2.2.2.2.1 c4.1 N v3 c4.2 _ hc5) hRm kc5 rfl kw_342 kw_9 kw_339 kw_340 kw_341 hyX3_sizeOf (Nat.le_of_ble_eq_true rfl) (Nat.le_of_ble_eq_true rfl) rfl rfl (Nat.le_of_ble_eq_true rfl) dX1_recordsTo_25 ?_
    refine z_iadd C dX1_recordsTo_28 ?_
    refine z_istore_n (lv2 := [(2, .int (u2 + c5.2)), (0, .ref x0), (1, .int x1), (3, .int u3)]) C dX1_recordsTo_29 rfl (by decide) rfl ?_
    refine z_iinc (lv2 := [(3, .int (u3 + 1)), (2, .int (u2 + c5.2)), (0, .ref x0), (1, .int x1)]) C (u3 + 1) dX1_recordsTo_30 3 rfl rfl (by decide) rfl ?_
    refine z_goto C 4 dX1_recordsTo_33 (by decide) ?_
    cases hf
    refine z_sub [2, 3, 1, 0] rfl ?_
    exact hk.1 _ rfl

theorem wsX1_recordsTo_4 (C : zC p s m args meth c cX1_recordsTo RX1 4 D Ca B En) (hRm : zRm R 2 41 cells slots) (x0 : Nat) (x1 : Int32) (n : Nat) (z : (zS × Int32 × Int32)) (x : (zS × Int32)) (hf : zloop (sX1_recordsTo_4 x0 x1) n z = some x) (hk : (∀ o : (zS × Int32), x = o → zW p l e R s m args below meth c cells slots Q D Ca B 4 o.1 N 36 [(2, .int o.2)] [])) : zW p l e R s m args below meth c cells slots Q D Ca B 4 z.1 N 4 [(0, .ref x0), (1, .int x1), (2, .int z.2.1), (3, .int z.2.2)] [] := by
  refine zloop_W (P := fun z : (zS × Int32 × Int32) => zW p l e R s m args below meth c cells slots Q D Ca B 4 z.1 N 4 [(0, .ref x0), (1, .int x1), (2, .int z.2.1), (3, .int z.2.2)] []) (K := fun x : (zS × Int32) => (∀ o : (zS × Int32), x = o → zW p l e R s m args below meth c cells slots Q D Ca B 4 o.1 N 36 [(2, .int o.2)] [])) ?_ n z x hf hk
  intro z y hy h1 h2
  refine wsX1_recordsTo_4b C hRm x0 x1 z.1 z.2.1 z.2.2 y hy ⟨fun z2 e => h1 z2 e, fun o e => (h2 _ e) o rfl⟩
def fX1_recordsTo (σ : zS) (x0 : Nat) (x1 : Int32) : Option (zS × Int32) :=
  (zloop (sX1_recordsTo_4 x0 x1) zfuel (σ, 0, 0)).bind fun o7 => some (o7.1, o7.2)
set_option maxRecDepth 100000 in
set_option maxHeartbeats 4000000 in
theorem wfX1_recordsTo (C : zC p s m args meth c cX1_recordsTo RX1 4 D Ca B En) (hRm : zRm R 2 41 cells slots) (σ : zS) (x0 : Nat) (x1 : Int32) (τ : zS) (r : Int32) (hf : fX1_recordsTo σ x0 x1 = some (τ, r)) (hq : ∀ (pc : Nat) (lv : List (Nat × Value)), decode cX1_recordsTo pc = .ok (.ireturn, 1) → zW p l e R s m args below meth c cells slots Q D Ca B 4 τ N pc lv [.int r]) : zW p l e R s m args below meth c cells slots Q D Ca B 4 σ N 0 [(0, .ref x0), (1, .int x1)] [] := by
  unfold fX1_recordsTo at hf
  refine z_iconst C 0 dX1_recordsTo_0 (by decide) ?_
  refine z_istore_n (lv2 := [(2, .int 0), (0, .ref x0), (1, .int x1)]) C dX1_recordsTo_1 rfl (by decide) rfl ?_
  refine z_iconst C 0 dX1_recordsTo_2 (by decide) ?_
  refine z_istore_n (lv2 := [(3, .int 0), (2, .int 0), (0, .ref x0), (1, .int x1)]) C dX1_recordsTo_3 rfl (by decide) rfl ?_
  obtain ⟨o7, ho7, hf⟩ := zbind hf
  refine z_sub [2, 3, 1, 0] rfl ?_
  refine wsX1_recordsTo_4 C hRm _ _ zfuel (σ, 0, 0) o7 ho7 ?_
  intro z9 e9
  subst e9
  refine z_iload_n C dX1_recordsTo_36 rfl 0 rfl ?_
  cases hf
  exact hq _ _ dX1_recordsTo_37

theorem mX1_recordsTo (l : Launch) (D : va_G) (Ca : Nat → ClassId) (B : Nat) (En : State → Prop) (hE : zEk B En) (σ : zS) (N : Nat) (x0 : Nat) (x1 : Int32) (X : zS × Int32) (hf : fX1_recordsTo σ x0 x1 = some X) : zMi l D Ca B En yX1_recordsTo cX1_recordsTo 4 (Option.some Jvm.ClassFile.FieldType.int) 2 41 [.ref x0, .int x1] σ N X.1 X.2 :=
  zMet_i (own := RX1) hE (by decide +kernel) rfl (Nat.le_of_ble_eq_true rfl) (fun p e s m args below meth c C hr hRm => wfX1_recordsTo C hRm σ x0 x1 X.1 X.2 hf (fun pc lv hd => zfin_i C hr hd))
theorem dX1_resultsFrom_0 : decode cX1_resultsFrom 0 = .ok (.iconst 0, 1) := by decide +kernel
theorem dX1_resultsFrom_1 : decode cX1_resultsFrom 1 = .ok (.istore_n 2, 1) := by decide +kernel
theorem dX1_resultsFrom_2 : decode cX1_resultsFrom 2 = .ok (.iconst 0, 1) := by decide +kernel
theorem dX1_resultsFrom_3 : decode cX1_resultsFrom 3 = .ok (.istore_n 3, 1) := by decide +kernel
theorem dX1_resultsFrom_4 : decode cX1_resultsFrom 4 = .ok (.iload_n 3, 1) := by decide +kernel
theorem dX1_resultsFrom_5 : decode cX1_resultsFrom 5 = .ok (.aload_n 0, 1) := by decide +kernel
theorem dX1_resultsFrom_6 : decode cX1_resultsFrom 6 = .ok (.getfield 54, 3) := by decide +kernel
theorem dX1_resultsFrom_9 : decode cX1_resultsFrom 9 = .ok (.getfield 161, 3) := by decide +kernel
theorem dX1_resultsFrom_12 : decode cX1_resultsFrom 12 = .ok (.if_icmp .ge 26, 3) := by decide +kernel
theorem dX1_resultsFrom_15 : decode cX1_resultsFrom 15 = .ok (.iload_n 2, 1) := by decide +kernel
theorem dX1_resultsFrom_16 : decode cX1_resultsFrom 16 = .ok (.aload_n 0, 1) := by decide +kernel
theorem dX1_resultsFrom_17 : decode cX1_resultsFrom 17 = .ok (.getfield 30, 3) := by decide +kernel
theorem dX1_resultsFrom_20 : decode cX1_resultsFrom 20 = .ok (.iconst 4, 1) := by decide +kernel
theorem dX1_resultsFrom_21 : decode cX1_resultsFrom 21 = .ok (.iload_n 3, 1) := by decide +kernel
theorem dX1_resultsFrom_22 : decode cX1_resultsFrom 22 = .ok (.iadd, 1) := by decide +kernel
theorem dX1_resultsFrom_23 : decode cX1_resultsFrom 23 = .ok (.iload_n 1, 1) := by decide +kernel
theorem dX1_resultsFrom_24 : decode cX1_resultsFrom 24 = .ok (.invokestatic 190, 3) := by decide +kernel
theorem dX1_resultsFrom_27 : decode cX1_resultsFrom 27 = .ok (.invokevirtual 194, 3) := by decide +kernel
theorem dX1_resultsFrom_30 : decode cX1_resultsFrom 30 = .ok (.iadd, 1) := by decide +kernel
theorem dX1_resultsFrom_31 : decode cX1_resultsFrom 31 = .ok (.istore_n 2, 1) := by decide +kernel
theorem dX1_resultsFrom_32 : decode cX1_resultsFrom 32 = .ok (.iinc 3 1, 3) := by decide +kernel
theorem dX1_resultsFrom_35 : decode cX1_resultsFrom 35 = .ok (.goto (-31), 3) := by decide +kernel
theorem dX1_resultsFrom_38 : decode cX1_resultsFrom 38 = .ok (.iload_n 2, 1) := by decide +kernel
theorem dX1_resultsFrom_39 : decode cX1_resultsFrom 39 = .ok (.ireturn, 1) := by decide +kernel
theorem hyX1_resultsFrom : yX1_resultsFrom.cls ≠ "java/lang/invoke/MethodHandle" ∧ yX1_resultsFrom.cls ≠ "java/lang/invoke/VarHandle" ∧ (parseMethodDescriptor yX1_resultsFrom.desc).map (fun d => d.parameters.length) = some 1 := ⟨by decide +kernel, by decide +kernel, by decide +kernel⟩
def sX1_resultsFrom_4b (x0 : Nat) (x1 : Int32) (σ : zS) (u2 : Int32) (u3 : Int32) : Option ((zS × Int32 × Int32) ⊕ (zS × Int32)) :=
  (zgR 1 17 σ x0).bind fun v1 => (zgI 7 1 σ v1).bind fun v2 => (if v2 ≤ u3 then some (.inr (σ, u2)) else (zgR 1 14 σ x0).bind fun v3 => (fX9_channel σ (4 + u3) x1).bind fun c4 => (zck 3 c4.1 v3 (fX3_sizeOf c4.1 v3 c4.2)).bind fun c5 => some (.inl (c5.1, u2 + c5.2, u3 + 1)))
def sX1_resultsFrom_4 (x0 : Nat) (x1 : Int32) (z : (zS × Int32 × Int32)) : Option ((zS × Int32 × Int32) ⊕ (zS × Int32)) := sX1_resultsFrom_4b x0 x1 z.1 z.2.1 z.2.2
set_option maxRecDepth 100000 in
set_option maxHeartbeats 4000000 in
theorem wsX1_resultsFrom_4b (C : zC p s m args meth c cX1_resultsFrom RX1 4 D Ca B En) (hRm : zRm R 2 41 cells slots) (x0 : Nat) (x1 : Int32) (σ : zS) (u2 : Int32) (u3 : Int32) (y : (zS × Int32 × Int32) ⊕ (zS × Int32)) (hf : sX1_resultsFrom_4b x0 x1 σ u2 u3 = some y) (hk : (∀ z : (zS × Int32 × Int32), y = .inl z → zW p l e R s m args below meth c cells slots Q D Ca B 4 z.1 N 4 [(0, .ref x0), (1, .int x1), (2, .int z.2.1), (3, .int z.2.2)] []) ∧ (∀ z : (zS × Int32), y = .inr z → zW p l e R s m args below meth c cells slots Q D Ca B 4 z.1 N 38 [(2, .int z.2)] [])) : zW p l e R s m args below meth c cells slots Q D Ca B 4 σ N 4 [(0, .ref x0), (1, .int x1), (2, .int u2), (3, .int u3)] [] := by
  unfold sX1_resultsFrom_4b at hf
  refine z_iload_n C dX1_resultsFrom_4 rfl 3 rfl ?_
  refine z_aload_n C dX1_resultsFrom_5 rfl 0 rfl ?_
  obtain ⟨v1, hv1, hf⟩ := zbind hf
  refine gf_RX1_54 C hv1 dX1_resultsFrom_6 ?_
  obtain ⟨v2, hv2, hf⟩ := zbind hf
  refine gf_RX1_161 C hv2 dX1_resultsFrom_9 ?_
  refine z_icmp_ge C 38 dX1_resultsFrom_12 (by decide) (fun q6 => ?_) (fun q6 => ?_)
  · rw [if_pos q6] at hf
    cases hf
    refine z_sub [2] rfl ?_
    exact hk.2 _ rfl
  · rw [if_neg q6] at hf
    refine z_iload_n C dX1_resultsFrom_15 rfl 2 rfl ?_
    refine z_aload_n C dX1_resultsFrom_16 rfl 0 rfl ?_
    obtain ⟨v3, hv3, hf⟩ := zbind hf
    refine gf_RX1_30 C hv3 dX1_resultsFrom_17 ?_
    refine z_iconst C 4 dX1_resultsFrom_20 (by decide) ?_
    refine z_iload_n C dX1_resultsFrom_21 rfl 3 rfl ?_
    refine z_iadd C dX1_resultsFrom_22 ?_
    refine z_iload_n C dX1_resultsFrom_23 rfl 1 rfl ?_
    obtain ⟨c4, hc4, hf⟩ := zbind hf
    refine z_callSNi (host := "BarrierFlow") (As := [.int (4 + u3), .int x1]) (F0 := 2) (L0 := 41) C (mX9_channel l D Ca B En C.2.2.2.2.2.2.2.1 σ N (4 + u3) x1 _ hc4) hRm kw_686 kw_1 (by decide) kw_685 hyX9_channel (Nat.le_of_ble_eq_true rfl) (Nat.le_of_ble_eq_true rfl) rfl rfl (Nat.le_of_ble_eq_true rfl) dX1_resultsFrom_24 ?_
    obtain ⟨c5, hc5, hf⟩ := zbind hf
    obtain ⟨kc5, hc5⟩ := zck_ok hc5
    refine z_callVi (As := [.int c4.2]) (F0 := 2) (L0 := 41) C (mX3_sizeOf l D Ca B En C.2.2.2.2.2.2.2.1 c4.1 N v3 c4.2 _ hc5) hRm kc5 rfl kw_342 kw_9 kw_339 kw_340 kw_341 hyX3_sizeOf (Nat.le_of_ble_eq_true rfl) (Nat.le_of_ble_eq_true rfl) rfl rfl (Nat.le_of_ble_eq_true rfl) dX1_resultsFrom_27 ?_
    refine z_iadd C dX1_resultsFrom_30 ?_
    refine z_istore_n (lv2 := [(2, .int (u2 + c5.2)), (0, .ref x0), (1, .int x1), (3, .int u3)]) C dX1_resultsFrom_31 rfl (by decide) rfl ?_
    refine z_iinc (lv2 := [(3, .int (u3 + 1)), (2, .int (u2 + c5.2)), (0, .ref x0), (1, .int x1)]) C (u3 + 1) dX1_resultsFrom_32 3 rfl rfl (by decide) rfl ?_
    refine z_goto C 4 dX1_resultsFrom_35 (by decide) ?_
    cases hf
    refine z_sub [2, 3, 1, 0] rfl ?_
    exact hk.1 _ rfl

theorem wsX1_resultsFrom_4 (C : zC p s m args meth c cX1_resultsFrom RX1 4 D Ca B En) (hRm : zRm R 2 41 cells slots) (x0 : Nat) (x1 : Int32) (n : Nat) (z : (zS × Int32 × Int32)) (x : (zS × Int32)) (hf : zloop (sX1_resultsFrom_4 x0 x1) n z = some x) (hk : (∀ o : (zS × Int32), x = o → zW p l e R s m args below meth c cells slots Q D Ca B 4 o.1 N 38 [(2, .int o.2)] [])) : zW p l e R s m args below meth c cells slots Q D Ca B 4 z.1 N 4 [(0, .ref x0), (1, .int x1), (2, .int z.2.1), (3, .int z.2.2)] [] := by
  refine zloop_W (P := fun z : (zS × Int32 × Int32) => zW p l e R s m args below meth c cells slots Q D Ca B 4 z.1 N 4 [(0, .ref x0), (1, .int x1), (2, .int z.2.1), (3, .int z.2.2)] []) (K := fun x : (zS × Int32) => (∀ o : (zS × Int32), x = o → zW p l e R s m args below meth c cells slots Q D Ca B 4 o.1 N 38 [(2, .int o.2)] [])) ?_ n z x hf hk
  intro z y hy h1 h2
  refine wsX1_resultsFrom_4b C hRm x0 x1 z.1 z.2.1 z.2.2 y hy ⟨fun z2 e => h1 z2 e, fun o e => (h2 _ e) o rfl⟩
def fX1_resultsFrom (σ : zS) (x0 : Nat) (x1 : Int32) : Option (zS × Int32) :=
  (zloop (sX1_resultsFrom_4 x0 x1) zfuel (σ, 0, 0)).bind fun o7 => some (o7.1, o7.2)
set_option maxRecDepth 100000 in
set_option maxHeartbeats 4000000 in
theorem wfX1_resultsFrom (C : zC p s m args meth c cX1_resultsFrom RX1 4 D Ca B En) (hRm : zRm R 2 41 cells slots) (σ : zS) (x0 : Nat) (x1 : Int32) (τ : zS) (r : Int32) (hf : fX1_resultsFrom σ x0 x1 = some (τ, r)) (hq : ∀ (pc : Nat) (lv : List (Nat × Value)), decode cX1_resultsFrom pc = .ok (.ireturn, 1) → zW p l e R s m args below meth c cells slots Q D Ca B 4 τ N pc lv [.int r]) : zW p l e R s m args below meth c cells slots Q D Ca B 4 σ N 0 [(0, .ref x0), (1, .int x1)] [] := by
  unfold fX1_resultsFrom at hf
  refine z_iconst C 0 dX1_resultsFrom_0 (by decide) ?_
  refine z_istore_n (lv2 := [(2, .int 0), (0, .ref x0), (1, .int x1)]) C dX1_resultsFrom_1 rfl (by decide) rfl ?_
  refine z_iconst C 0 dX1_resultsFrom_2 (by decide) ?_
  refine z_istore_n (lv2 := [(3, .int 0), (2, .int 0), (0, .ref x0), (1, .int x1)]) C dX1_resultsFrom_3 rfl (by decide) rfl ?_
  obtain ⟨o7, ho7, hf⟩ := zbind hf
  refine z_sub [2, 3, 1, 0] rfl ?_
  refine wsX1_resultsFrom_4 C hRm _ _ zfuel (σ, 0, 0) o7 ho7 ?_
  intro z9 e9
  subst e9
  refine z_iload_n C dX1_resultsFrom_38 rfl 0 rfl ?_
  cases hf
  exact hq _ _ dX1_resultsFrom_39

theorem mX1_resultsFrom (l : Launch) (D : va_G) (Ca : Nat → ClassId) (B : Nat) (En : State → Prop) (hE : zEk B En) (σ : zS) (N : Nat) (x0 : Nat) (x1 : Int32) (X : zS × Int32) (hf : fX1_resultsFrom σ x0 x1 = some X) : zMi l D Ca B En yX1_resultsFrom cX1_resultsFrom 4 (Option.some Jvm.ClassFile.FieldType.int) 2 41 [.ref x0, .int x1] σ N X.1 X.2 :=
  zMet_i (own := RX1) hE (by decide +kernel) rfl (Nat.le_of_ble_eq_true rfl) (fun p e s m args below meth c C hr hRm => wfX1_resultsFrom C hRm σ x0 x1 X.1 X.2 hf (fun pc lv hd => zfin_i C hr hd))
theorem dX1_handledInAll_0 : decode cX1_handledInAll 0 = .ok (.iconst 0, 1) := by decide +kernel
theorem dX1_handledInAll_1 : decode cX1_handledInAll 1 = .ok (.istore_n 1, 1) := by decide +kernel
theorem dX1_handledInAll_2 : decode cX1_handledInAll 2 = .ok (.iconst 0, 1) := by decide +kernel
theorem dX1_handledInAll_3 : decode cX1_handledInAll 3 = .ok (.istore_n 2, 1) := by decide +kernel
theorem dX1_handledInAll_4 : decode cX1_handledInAll 4 = .ok (.iload_n 2, 1) := by decide +kernel
theorem dX1_handledInAll_5 : decode cX1_handledInAll 5 = .ok (.aload_n 0, 1) := by decide +kernel
theorem dX1_handledInAll_6 : decode cX1_handledInAll 6 = .ok (.getfield 70, 3) := by decide +kernel
theorem dX1_handledInAll_9 : decode cX1_handledInAll 9 = .ok (.if_icmp .ge 18, 3) := by decide +kernel
theorem dX1_handledInAll_12 : decode cX1_handledInAll 12 = .ok (.iload_n 1, 1) := by decide +kernel
theorem dX1_handledInAll_13 : decode cX1_handledInAll 13 = .ok (.aload_n 0, 1) := by decide +kernel
theorem dX1_handledInAll_14 : decode cX1_handledInAll 14 = .ok (.getfield 21, 3) := by decide +kernel
theorem dX1_handledInAll_17 : decode cX1_handledInAll 17 = .ok (.iload_n 2, 1) := by decide +kernel
theorem dX1_handledInAll_18 : decode cX1_handledInAll 18 = .ok (.iaload, 1) := by decide +kernel
theorem dX1_handledInAll_19 : decode cX1_handledInAll 19 = .ok (.iadd, 1) := by decide +kernel
theorem dX1_handledInAll_20 : decode cX1_handledInAll 20 = .ok (.istore_n 1, 1) := by decide +kernel
theorem dX1_handledInAll_21 : decode cX1_handledInAll 21 = .ok (.iinc 2 1, 3) := by decide +kernel
theorem dX1_handledInAll_24 : decode cX1_handledInAll 24 = .ok (.goto (-20), 3) := by decide +kernel
theorem dX1_handledInAll_27 : decode cX1_handledInAll 27 = .ok (.iload_n 1, 1) := by decide +kernel
theorem dX1_handledInAll_28 : decode cX1_handledInAll 28 = .ok (.ireturn, 1) := by decide +kernel
theorem hyX1_handledInAll : yX1_handledInAll.cls ≠ "java/lang/invoke/MethodHandle" ∧ yX1_handledInAll.cls ≠ "java/lang/invoke/VarHandle" ∧ (parseMethodDescriptor yX1_handledInAll.desc).map (fun d => d.parameters.length) = some 0 := ⟨by decide +kernel, by decide +kernel, by decide +kernel⟩
def sX1_handledInAll_4b (x0 : Nat) (σ : zS) (u1 : Int32) (u2 : Int32) : Option ((zS × Int32 × Int32) ⊕ (zS × Int32)) :=
  (zgI 1 0 σ x0).bind fun v1 => (if v1 ≤ u2 then some (.inr (σ, u1)) else (zgR 1 12 σ x0).bind fun v2 => (zaI σ v2 u2).bind fun v3 => some (.inl (σ, u1 + v3, u2 + 1)))
def sX1_handledInAll_4 (x0 : Nat) (z : (zS × Int32 × Int32)) : Option ((zS × Int32 × Int32) ⊕ (zS × Int32)) := sX1_handledInAll_4b x0 z.1 z.2.1 z.2.2
set_option maxRecDepth 100000 in
set_option maxHeartbeats 4000000 in
theorem wsX1_handledInAll_4b (C : zC p s m args meth c cX1_handledInAll RX1 3 D Ca B En) (hRm : zRm R 0 0 cells slots) (x0 : Nat) (σ : zS) (u1 : Int32) (u2 : Int32) (y : (zS × Int32 × Int32) ⊕ (zS × Int32)) (hf : sX1_handledInAll_4b x0 σ u1 u2 = some y) (hk : (∀ z : (zS × Int32 × Int32), y = .inl z → zW p l e R s m args below meth c cells slots Q D Ca B 3 z.1 N 4 [(0, .ref x0), (1, .int z.2.1), (2, .int z.2.2)] []) ∧ (∀ z : (zS × Int32), y = .inr z → zW p l e R s m args below meth c cells slots Q D Ca B 3 z.1 N 27 [(1, .int z.2)] [])) : zW p l e R s m args below meth c cells slots Q D Ca B 3 σ N 4 [(0, .ref x0), (1, .int u1), (2, .int u2)] [] := by
  unfold sX1_handledInAll_4b at hf
  refine z_iload_n C dX1_handledInAll_4 rfl 2 rfl ?_
  refine z_aload_n C dX1_handledInAll_5 rfl 0 rfl ?_
  obtain ⟨v1, hv1, hf⟩ := zbind hf
  refine gf_RX1_70 C hv1 dX1_handledInAll_6 ?_
  refine z_icmp_ge C 27 dX1_handledInAll_9 (by decide) (fun q4 => ?_) (fun q4 => ?_)
  · rw [if_pos q4] at hf
    cases hf
    refine z_sub [1] rfl ?_
    exact hk.2 _ rfl
  · rw [if_neg q4] at hf
    refine z_iload_n C dX1_handledInAll_12 rfl 1 rfl ?_
    refine z_aload_n C dX1_handledInAll_13 rfl 0 rfl ?_
    obtain ⟨v2, hv2, hf⟩ := zbind hf
    refine gf_RX1_21 C hv2 dX1_handledInAll_14 ?_
    refine z_iload_n C dX1_handledInAll_17 rfl 2 rfl ?_
    obtain ⟨v3, hv3, hf⟩ := zbind hf
    refine z_aI C hv3 dX1_handledInAll_18 ?_
    refine z_iadd C dX1_handledInAll_19 ?_
    refine z_istore_n (lv2 := [(1, .int (u1 + v3)), (0, .ref x0), (2, .int u2)]) C dX1_handledInAll_20 rfl (by decide) rfl ?_
    refine z_iinc (lv2 := [(2, .int (u2 + 1)), (1, .int (u1 + v3)), (0, .ref x0)]) C (u2 + 1) dX1_handledInAll_21 2 rfl rfl (by decide) rfl ?_
    refine z_goto C 4 dX1_handledInAll_24 (by decide) ?_
    cases hf
    refine z_sub [2, 1, 0] rfl ?_
    exact hk.1 _ rfl

theorem wsX1_handledInAll_4 (C : zC p s m args meth c cX1_handledInAll RX1 3 D Ca B En) (hRm : zRm R 0 0 cells slots) (x0 : Nat) (n : Nat) (z : (zS × Int32 × Int32)) (x : (zS × Int32)) (hf : zloop (sX1_handledInAll_4 x0) n z = some x) (hk : (∀ o : (zS × Int32), x = o → zW p l e R s m args below meth c cells slots Q D Ca B 3 o.1 N 27 [(1, .int o.2)] [])) : zW p l e R s m args below meth c cells slots Q D Ca B 3 z.1 N 4 [(0, .ref x0), (1, .int z.2.1), (2, .int z.2.2)] [] := by
  refine zloop_W (P := fun z : (zS × Int32 × Int32) => zW p l e R s m args below meth c cells slots Q D Ca B 3 z.1 N 4 [(0, .ref x0), (1, .int z.2.1), (2, .int z.2.2)] []) (K := fun x : (zS × Int32) => (∀ o : (zS × Int32), x = o → zW p l e R s m args below meth c cells slots Q D Ca B 3 o.1 N 27 [(1, .int o.2)] [])) ?_ n z x hf hk
  intro z y hy h1 h2
  refine wsX1_handledInAll_4b C hRm x0 z.1 z.2.1 z.2.2 y hy ⟨fun z2 e => h1 z2 e, fun o e => (h2 _ e) o rfl⟩
def fX1_handledInAll (σ : zS) (x0 : Nat) : Option (zS × Int32) :=
  (zloop (sX1_handledInAll_4 x0) zfuel (σ, 0, 0)).bind fun o5 => some (o5.1, o5.2)
set_option maxRecDepth 100000 in
set_option maxHeartbeats 4000000 in
theorem wfX1_handledInAll (C : zC p s m args meth c cX1_handledInAll RX1 3 D Ca B En) (hRm : zRm R 0 0 cells slots) (σ : zS) (x0 : Nat) (τ : zS) (r : Int32) (hf : fX1_handledInAll σ x0 = some (τ, r)) (hq : ∀ (pc : Nat) (lv : List (Nat × Value)), decode cX1_handledInAll pc = .ok (.ireturn, 1) → zW p l e R s m args below meth c cells slots Q D Ca B 3 τ N pc lv [.int r]) : zW p l e R s m args below meth c cells slots Q D Ca B 3 σ N 0 [(0, .ref x0)] [] := by
  unfold fX1_handledInAll at hf
  refine z_iconst C 0 dX1_handledInAll_0 (by decide) ?_
  refine z_istore_n (lv2 := [(1, .int 0), (0, .ref x0)]) C dX1_handledInAll_1 rfl (by decide) rfl ?_
  refine z_iconst C 0 dX1_handledInAll_2 (by decide) ?_
  refine z_istore_n (lv2 := [(2, .int 0), (1, .int 0), (0, .ref x0)]) C dX1_handledInAll_3 rfl (by decide) rfl ?_
  obtain ⟨o5, ho5, hf⟩ := zbind hf
  refine z_sub [2, 1, 0] rfl ?_
  refine wsX1_handledInAll_4 C hRm _ zfuel (σ, 0, 0) o5 ho5 ?_
  intro z9 e9
  subst e9
  refine z_iload_n C dX1_handledInAll_27 rfl 0 rfl ?_
  cases hf
  exact hq _ _ dX1_handledInAll_28

theorem mX1_handledInAll (l : Launch) (D : va_G) (Ca : Nat → ClassId) (B : Nat) (En : State → Prop) (hE : zEk B En) (σ : zS) (N : Nat) (x0 : Nat) (X : zS × Int32) (hf : fX1_handledInAll σ x0 = some X) : zMi l D Ca B En yX1_handledInAll cX1_handledInAll 3 (Option.some Jvm.ClassFile.FieldType.int) 0 0 [.ref x0] σ N X.1 X.2 :=
  zMet_i (own := RX1) hE (by decide +kernel) rfl (Nat.le_of_ble_eq_true rfl) (fun p e s m args below meth c C hr hRm => wfX1_handledInAll C hRm σ x0 X.1 X.2 hf (fun pc lv hd => zfin_i C hr hd))
theorem dX1_positionsInAll_0 : decode cX1_positionsInAll 0 = .ok (.iconst 0, 1) := by decide +kernel
theorem dX1_positionsInAll_1 : decode cX1_positionsInAll 1 = .ok (.istore_n 1, 1) := by decide +kernel
theorem dX1_positionsInAll_2 : decode cX1_positionsInAll 2 = .ok (.iconst 0, 1) := by decide +kernel
theorem dX1_positionsInAll_3 : decode cX1_positionsInAll 3 = .ok (.istore_n 2, 1) := by decide +kernel
theorem dX1_positionsInAll_4 : decode cX1_positionsInAll 4 = .ok (.iload_n 2, 1) := by decide +kernel
theorem dX1_positionsInAll_5 : decode cX1_positionsInAll 5 = .ok (.aload_n 0, 1) := by decide +kernel
theorem dX1_positionsInAll_6 : decode cX1_positionsInAll 6 = .ok (.getfield 54, 3) := by decide +kernel
theorem dX1_positionsInAll_9 : decode cX1_positionsInAll 9 = .ok (.getfield 140, 3) := by decide +kernel
theorem dX1_positionsInAll_12 : decode cX1_positionsInAll 12 = .ok (.if_icmp .ge 18, 3) := by decide +kernel
theorem dX1_positionsInAll_15 : decode cX1_positionsInAll 15 = .ok (.iload_n 1, 1) := by decide +kernel
theorem dX1_positionsInAll_16 : decode cX1_positionsInAll 16 = .ok (.aload_n 0, 1) := by decide +kernel
theorem dX1_positionsInAll_17 : decode cX1_positionsInAll 17 = .ok (.getfield 15, 3) := by decide +kernel
theorem dX1_positionsInAll_20 : decode cX1_positionsInAll 20 = .ok (.iload_n 2, 1) := by decide +kernel
theorem dX1_positionsInAll_21 : decode cX1_positionsInAll 21 = .ok (.iaload, 1) := by decide +kernel
theorem dX1_positionsInAll_22 : decode cX1_positionsInAll 22 = .ok (.iadd, 1) := by decide +kernel
theorem dX1_positionsInAll_23 : decode cX1_positionsInAll 23 = .ok (.istore_n 1, 1) := by decide +kernel
theorem dX1_positionsInAll_24 : decode cX1_positionsInAll 24 = .ok (.iinc 2 1, 3) := by decide +kernel
theorem dX1_positionsInAll_27 : decode cX1_positionsInAll 27 = .ok (.goto (-23), 3) := by decide +kernel
theorem dX1_positionsInAll_30 : decode cX1_positionsInAll 30 = .ok (.iload_n 1, 1) := by decide +kernel
theorem dX1_positionsInAll_31 : decode cX1_positionsInAll 31 = .ok (.ireturn, 1) := by decide +kernel
theorem hyX1_positionsInAll : yX1_positionsInAll.cls ≠ "java/lang/invoke/MethodHandle" ∧ yX1_positionsInAll.cls ≠ "java/lang/invoke/VarHandle" ∧ (parseMethodDescriptor yX1_positionsInAll.desc).map (fun d => d.parameters.length) = some 0 := ⟨by decide +kernel, by decide +kernel, by decide +kernel⟩
def sX1_positionsInAll_4b (x0 : Nat) (σ : zS) (u1 : Int32) (u2 : Int32) : Option ((zS × Int32 × Int32) ⊕ (zS × Int32)) :=
  (zgR 1 17 σ x0).bind fun v1 => (zgI 7 0 σ v1).bind fun v2 => (if v2 ≤ u2 then some (.inr (σ, u1)) else (zgR 1 10 σ x0).bind fun v3 => (zaI σ v3 u2).bind fun v4 => some (.inl (σ, u1 + v4, u2 + 1)))
def sX1_positionsInAll_4 (x0 : Nat) (z : (zS × Int32 × Int32)) : Option ((zS × Int32 × Int32) ⊕ (zS × Int32)) := sX1_positionsInAll_4b x0 z.1 z.2.1 z.2.2
set_option maxRecDepth 100000 in
set_option maxHeartbeats 4000000 in
theorem wsX1_positionsInAll_4b (C : zC p s m args meth c cX1_positionsInAll RX1 3 D Ca B En) (hRm : zRm R 0 0 cells slots) (x0 : Nat) (σ : zS) (u1 : Int32) (u2 : Int32) (y : (zS × Int32 × Int32) ⊕ (zS × Int32)) (hf : sX1_positionsInAll_4b x0 σ u1 u2 = some y) (hk : (∀ z : (zS × Int32 × Int32), y = .inl z → zW p l e R s m args below meth c cells slots Q D Ca B 3 z.1 N 4 [(0, .ref x0), (1, .int z.2.1), (2, .int z.2.2)] []) ∧ (∀ z : (zS × Int32), y = .inr z → zW p l e R s m args below meth c cells slots Q D Ca B 3 z.1 N 30 [(1, .int z.2)] [])) : zW p l e R s m args below meth c cells slots Q D Ca B 3 σ N 4 [(0, .ref x0), (1, .int u1), (2, .int u2)] [] := by
  unfold sX1_positionsInAll_4b at hf
  refine z_iload_n C dX1_positionsInAll_4 rfl 2 rfl ?_
  refine z_aload_n C dX1_positionsInAll_5 rfl 0 rfl ?_
  obtain ⟨v1, hv1, hf⟩ := zbind hf
  refine gf_RX1_54 C hv1 dX1_positionsInAll_6 ?_
  obtain ⟨v2, hv2, hf⟩ := zbind hf
  refine gf_RX1_140 C hv2 dX1_positionsInAll_9 ?_
  refine z_icmp_ge C 30 dX1_positionsInAll_12 (by decide) (fun q5 => ?_) (fun q5 => ?_)
  · rw [if_pos q5] at hf
    cases hf
    refine z_sub [1] rfl ?_
    exact hk.2 _ rfl
  · rw [if_neg q5] at hf
    refine z_iload_n C dX1_positionsInAll_15 rfl 1 rfl ?_
    refine z_aload_n C dX1_positionsInAll_16 rfl 0 rfl ?_
    obtain ⟨v3, hv3, hf⟩ := zbind hf
    refine gf_RX1_15 C hv3 dX1_positionsInAll_17 ?_
    refine z_iload_n C dX1_positionsInAll_20 rfl 2 rfl ?_
    obtain ⟨v4, hv4, hf⟩ := zbind hf
    refine z_aI C hv4 dX1_positionsInAll_21 ?_
    refine z_iadd C dX1_positionsInAll_22 ?_
    refine z_istore_n (lv2 := [(1, .int (u1 + v4)), (0, .ref x0), (2, .int u2)]) C dX1_positionsInAll_23 rfl (by decide) rfl ?_
    refine z_iinc (lv2 := [(2, .int (u2 + 1)), (1, .int (u1 + v4)), (0, .ref x0)]) C (u2 + 1) dX1_positionsInAll_24 2 rfl rfl (by decide) rfl ?_
    refine z_goto C 4 dX1_positionsInAll_27 (by decide) ?_
    cases hf
    refine z_sub [2, 1, 0] rfl ?_
    exact hk.1 _ rfl

theorem wsX1_positionsInAll_4 (C : zC p s m args meth c cX1_positionsInAll RX1 3 D Ca B En) (hRm : zRm R 0 0 cells slots) (x0 : Nat) (n : Nat) (z : (zS × Int32 × Int32)) (x : (zS × Int32)) (hf : zloop (sX1_positionsInAll_4 x0) n z = some x) (hk : (∀ o : (zS × Int32), x = o → zW p l e R s m args below meth c cells slots Q D Ca B 3 o.1 N 30 [(1, .int o.2)] [])) : zW p l e R s m args below meth c cells slots Q D Ca B 3 z.1 N 4 [(0, .ref x0), (1, .int z.2.1), (2, .int z.2.2)] [] := by
  refine zloop_W (P := fun z : (zS × Int32 × Int32) => zW p l e R s m args below meth c cells slots Q D Ca B 3 z.1 N 4 [(0, .ref x0), (1, .int z.2.1), (2, .int z.2.2)] []) (K := fun x : (zS × Int32) => (∀ o : (zS × Int32), x = o → zW p l e R s m args below meth c cells slots Q D Ca B 3 o.1 N 30 [(1, .int o.2)] [])) ?_ n z x hf hk
  intro z y hy h1 h2
  refine wsX1_positionsInAll_4b C hRm x0 z.1 z.2.1 z.2.2 y hy ⟨fun z2 e => h1 z2 e, fun o e => (h2 _ e) o rfl⟩
def fX1_positionsInAll (σ : zS) (x0 : Nat) : Option (zS × Int32) :=
  (zloop (sX1_positionsInAll_4 x0) zfuel (σ, 0, 0)).bind fun o6 => some (o6.1, o6.2)
set_option maxRecDepth 100000 in
set_option maxHeartbeats 4000000 in
theorem wfX1_positionsInAll (C : zC p s m args meth c cX1_positionsInAll RX1 3 D Ca B En) (hRm : zRm R 0 0 cells slots) (σ : zS) (x0 : Nat) (τ : zS) (r : Int32) (hf : fX1_positionsInAll σ x0 = some (τ, r)) (hq : ∀ (pc : Nat) (lv : List (Nat × Value)), decode cX1_positionsInAll pc = .ok (.ireturn, 1) → zW p l e R s m args below meth c cells slots Q D Ca B 3 τ N pc lv [.int r]) : zW p l e R s m args below meth c cells slots Q D Ca B 3 σ N 0 [(0, .ref x0)] [] := by
  unfold fX1_positionsInAll at hf
  refine z_iconst C 0 dX1_positionsInAll_0 (by decide) ?_
  refine z_istore_n (lv2 := [(1, .int 0), (0, .ref x0)]) C dX1_positionsInAll_1 rfl (by decide) rfl ?_
  refine z_iconst C 0 dX1_positionsInAll_2 (by decide) ?_
  refine z_istore_n (lv2 := [(2, .int 0), (1, .int 0), (0, .ref x0)]) C dX1_positionsInAll_3 rfl (by decide) rfl ?_
  obtain ⟨o6, ho6, hf⟩ := zbind hf
  refine z_sub [2, 1, 0] rfl ?_
  refine wsX1_positionsInAll_4 C hRm _ zfuel (σ, 0, 0) o6 ho6 ?_
  intro z9 e9
  subst e9
  refine z_iload_n C dX1_positionsInAll_30 rfl 0 rfl ?_
  cases hf
  exact hq _ _ dX1_positionsInAll_31

theorem mX1_positionsInAll (l : Launch) (D : va_G) (Ca : Nat → ClassId) (B : Nat) (En : State → Prop) (hE : zEk B En) (σ : zS) (N : Nat) (x0 : Nat) (X : zS × Int32) (hf : fX1_positionsInAll σ x0 = some X) : zMi l D Ca B En yX1_positionsInAll cX1_positionsInAll 3 (Option.some Jvm.ClassFile.FieldType.int) 0 0 [.ref x0] σ N X.1 X.2 :=
  zMet_i (own := RX1) hE (by decide +kernel) rfl (Nat.le_of_ble_eq_true rfl) (fun p e s m args below meth c C hr hRm => wfX1_positionsInAll C hRm σ x0 X.1 X.2 hf (fun pc lv hd => zfin_i C hr hd))
theorem dX1_recordsAtRisk_0 : decode cX1_recordsAtRisk 0 = .ok (.aload_n 0, 1) := by decide +kernel
theorem dX1_recordsAtRisk_1 : decode cX1_recordsAtRisk 1 = .ok (.invokevirtual 294, 3) := by decide +kernel
theorem dX1_recordsAtRisk_4 : decode cX1_recordsAtRisk 4 = .ok (.istore_n 1, 1) := by decide +kernel
theorem dX1_recordsAtRisk_5 : decode cX1_recordsAtRisk 5 = .ok (.iconst 0, 1) := by decide +kernel
theorem dX1_recordsAtRisk_6 : decode cX1_recordsAtRisk 6 = .ok (.istore_n 2, 1) := by decide +kernel
theorem dX1_recordsAtRisk_7 : decode cX1_recordsAtRisk 7 = .ok (.aload_n 0, 1) := by decide +kernel
theorem dX1_recordsAtRisk_8 : decode cX1_recordsAtRisk 8 = .ok (.getfield 41, 3) := by decide +kernel
theorem dX1_recordsAtRisk_11 : decode cX1_recordsAtRisk 11 = .ok (.invokevirtual 129, 3) := by decide +kernel
theorem dX1_recordsAtRisk_14 : decode cX1_recordsAtRisk 14 = .ok (.ifCond .eq 32, 3) := by decide +kernel
theorem dX1_recordsAtRisk_17 : decode cX1_recordsAtRisk 17 = .ok (.iload_n 2, 1) := by decide +kernel
theorem dX1_recordsAtRisk_18 : decode cX1_recordsAtRisk 18 = .ok (.aload_n 0, 1) := by decide +kernel
theorem dX1_recordsAtRisk_19 : decode cX1_recordsAtRisk 19 = .ok (.getfield 54, 3) := by decide +kernel
theorem dX1_recordsAtRisk_22 : decode cX1_recordsAtRisk 22 = .ok (.getfield 140, 3) := by decide +kernel
theorem dX1_recordsAtRisk_25 : decode cX1_recordsAtRisk 25 = .ok (.if_icmp .ge 21, 3) := by decide +kernel
theorem dX1_recordsAtRisk_28 : decode cX1_recordsAtRisk 28 = .ok (.iload_n 1, 1) := by decide +kernel
theorem dX1_recordsAtRisk_29 : decode cX1_recordsAtRisk 29 = .ok (.aload_n 0, 1) := by decide +kernel
theorem dX1_recordsAtRisk_30 : decode cX1_recordsAtRisk 30 = .ok (.getfield 41, 3) := by decide +kernel
theorem dX1_recordsAtRisk_33 : decode cX1_recordsAtRisk 33 = .ok (.getfield 189, 3) := by decide +kernel
theorem dX1_recordsAtRisk_36 : decode cX1_recordsAtRisk 36 = .ok (.iload_n 2, 1) := by decide +kernel
theorem dX1_recordsAtRisk_37 : decode cX1_recordsAtRisk 37 = .ok (.iaload, 1) := by decide +kernel
theorem dX1_recordsAtRisk_38 : decode cX1_recordsAtRisk 38 = .ok (.isub, 1) := by decide +kernel
theorem dX1_recordsAtRisk_39 : decode cX1_recordsAtRisk 39 = .ok (.istore_n 1, 1) := by decide +kernel
theorem dX1_recordsAtRisk_40 : decode cX1_recordsAtRisk 40 = .ok (.iinc 2 1, 3) := by decide +kernel
theorem dX1_recordsAtRisk_43 : decode cX1_recordsAtRisk 43 = .ok (.goto (-36), 3) := by decide +kernel
theorem dX1_recordsAtRisk_46 : decode cX1_recordsAtRisk 46 = .ok (.iload_n 1, 1) := by decide +kernel
theorem dX1_recordsAtRisk_47 : decode cX1_recordsAtRisk 47 = .ok (.ireturn, 1) := by decide +kernel
theorem hyX1_recordsAtRisk : yX1_recordsAtRisk.cls ≠ "java/lang/invoke/MethodHandle" ∧ yX1_recordsAtRisk.cls ≠ "java/lang/invoke/VarHandle" ∧ (parseMethodDescriptor yX1_recordsAtRisk.desc).map (fun d => d.parameters.length) = some 0 := ⟨by decide +kernel, by decide +kernel, by decide +kernel⟩
def sX1_recordsAtRisk_7b (x0 : Nat) (σ : zS) (u1 : Int32) (u2 : Int32) : Option ((zS × Int32 × Int32) ⊕ (zS × Int32)) :=
  (zgR 1 16 σ x0).bind fun v2 => (zck 0 σ v2 (fX0_exists σ v2 )).bind fun c3 => (if c3.2 = 0 then some (.inr (c3.1, u1)) else (zgR 1 17 c3.1 x0).bind fun v4 => (zgI 7 0 c3.1 v4).bind fun v5 => (if v5 ≤ u2 then some (.inr (c3.1, u1)) else (zgR 1 16 c3.1 x0).bind fun v6 => (zgR 0 8 c3.1 v6).bind fun v7 => (zaI c3.1 v7 u2).bind fun v8 => some (.inl (c3.1, u1 - v8, u2 + 1))))
def sX1_recordsAtRisk_7 (x0 : Nat) (z : (zS × Int32 × Int32)) : Option ((zS × Int32 × Int32) ⊕ (zS × Int32)) := sX1_recordsAtRisk_7b x0 z.1 z.2.1 z.2.2
set_option maxRecDepth 100000 in
set_option maxHeartbeats 4000000 in
theorem wsX1_recordsAtRisk_7b (C : zC p s m args meth c cX1_recordsAtRisk RX1 3 D Ca B En) (hRm : zRm R 1 22 cells slots) (x0 : Nat) (σ : zS) (u1 : Int32) (u2 : Int32) (y : (zS × Int32 × Int32) ⊕ (zS × Int32)) (hf : sX1_recordsAtRisk_7b x0 σ u1 u2 = some y) (hk : (∀ z : (zS × Int32 × Int32), y = .inl z → zW p l e R s m args below meth c cells slots Q D Ca B 3 z.1 N 7 [(0, .ref x0), (1, .int z.2.1), (2, .int z.2.2)] []) ∧ (∀ z : (zS × Int32), y = .inr z → zW p l e R s m args below meth c cells slots Q D Ca B 3 z.1 N 46 [(1, .int z.2)] [])) : zW p l e R s m args below meth c cells slots Q D Ca B 3 σ N 7 [(0, .ref x0), (1, .int u1), (2, .int u2)] [] := by
  unfold sX1_recordsAtRisk_7b at hf
  refine z_aload_n C dX1_recordsAtRisk_7 rfl 0 rfl ?_
  obtain ⟨v2, hv2, hf⟩ := zbind hf
  refine gf_RX1_41 C hv2 dX1_recordsAtRisk_8 ?_
  obtain ⟨c3, hc3, hf⟩ := zbind hf
  obtain ⟨kc3, hc3⟩ := zck_ok hc3
  refine z_callVi (As := []) (F0 := 1) (L0 := 22) C (mX0_exists l D Ca B En C.2.2.2.2.2.2.2.1 σ N v2  _ hc3) hRm kc3 rfl kw_318 kw_10 kw_315 kw_316 kw_317 hyX0_exists (Nat.le_of_ble_eq_true rfl) (Nat.le_of_ble_eq_true rfl) rfl rfl (Nat.le_of_ble_eq_true rfl) dX1_recordsAtRisk_11 ?_
  refine z_if_eq C 46 dX1_recordsAtRisk_14 (by decide) (fun q10 => ?_) (fun q10 => ?_)
  · rw [if_pos q10] at hf
    cases hf
    refine z_sub [1] rfl ?_
    exact hk.2 _ rfl
  · rw [if_neg q10] at hf
    refine z_iload_n C dX1_recordsAtRisk_17 rfl 2 rfl ?_
    refine z_aload_n C dX1_recordsAtRisk_18 rfl 0 rfl ?_
    obtain ⟨v4, hv4, hf⟩ := zbind hf
    refine gf_RX1_54 C hv4 dX1_recordsAtRisk_19 ?_
    obtain ⟨v5, hv5, hf⟩ := zbind hf
    refine gf_RX1_140 C hv5 dX1_recordsAtRisk_22 ?_
    refine z_icmp_ge C 46 dX1_recordsAtRisk_25 (by decide) (fun q9 => ?_) (fun q9 => ?_)
    · rw [if_pos q9] at hf
      cases hf
      refine z_sub [1] rfl ?_
      exact hk.2 _ rfl
    · rw [if_neg q9] at hf
      refine z_iload_n C dX1_recordsAtRisk_28 rfl 1 rfl ?_
      refine z_aload_n C dX1_recordsAtRisk_29 rfl 0 rfl ?_
      obtain ⟨v6, hv6, hf⟩ := zbind hf
      refine gf_RX1_41 C hv6 dX1_recordsAtRisk_30 ?_
      obtain ⟨v7, hv7, hf⟩ := zbind hf
      refine gf_RX1_189 C hv7 dX1_recordsAtRisk_33 ?_
      refine z_iload_n C dX1_recordsAtRisk_36 rfl 2 rfl ?_
      obtain ⟨v8, hv8, hf⟩ := zbind hf
      refine z_aI C hv8 dX1_recordsAtRisk_37 ?_
      refine z_isub C dX1_recordsAtRisk_38 ?_
      refine z_istore_n (lv2 := [(1, .int (u1 - v8)), (0, .ref x0), (2, .int u2)]) C dX1_recordsAtRisk_39 rfl (by decide) rfl ?_
      refine z_iinc (lv2 := [(2, .int (u2 + 1)), (1, .int (u1 - v8)), (0, .ref x0)]) C (u2 + 1) dX1_recordsAtRisk_40 2 rfl rfl (by decide) rfl ?_
      refine z_goto C 7 dX1_recordsAtRisk_43 (by decide) ?_
      cases hf
      refine z_sub [2, 1, 0] rfl ?_
      exact hk.1 _ rfl

theorem wsX1_recordsAtRisk_7 (C : zC p s m args meth c cX1_recordsAtRisk RX1 3 D Ca B En) (hRm : zRm R 1 22 cells slots) (x0 : Nat) (n : Nat) (z : (zS × Int32 × Int32)) (x : (zS × Int32)) (hf : zloop (sX1_recordsAtRisk_7 x0) n z = some x) (hk : (∀ o : (zS × Int32), x = o → zW p l e R s m args below meth c cells slots Q D Ca B 3 o.1 N 46 [(1, .int o.2)] [])) : zW p l e R s m args below meth c cells slots Q D Ca B 3 z.1 N 7 [(0, .ref x0), (1, .int z.2.1), (2, .int z.2.2)] [] := by
  refine zloop_W (P := fun z : (zS × Int32 × Int32) => zW p l e R s m args below meth c cells slots Q D Ca B 3 z.1 N 7 [(0, .ref x0), (1, .int z.2.1), (2, .int z.2.2)] []) (K := fun x : (zS × Int32) => (∀ o : (zS × Int32), x = o → zW p l e R s m args below meth c cells slots Q D Ca B 3 o.1 N 46 [(1, .int o.2)] [])) ?_ n z x hf hk
  intro z y hy h1 h2
  refine wsX1_recordsAtRisk_7b C hRm x0 z.1 z.2.1 z.2.2 y hy ⟨fun z2 e => h1 z2 e, fun o e => (h2 _ e) o rfl⟩
def fX1_recordsAtRisk (σ : zS) (x0 : Nat) : Option (zS × Int32) :=
  (zck 1 σ x0 (fX1_positionsInAll σ x0 )).bind fun c1 => (zloop (sX1_recordsAtRisk_7 x0) zfuel (c1.1, c1.2, 0)).bind fun o11 => some (o11.1, o11.2)
set_option maxRecDepth 100000 in
set_option maxHeartbeats 4000000 in
theorem wfX1_recordsAtRisk (C : zC p s m args meth c cX1_recordsAtRisk RX1 3 D Ca B En) (hRm : zRm R 1 22 cells slots) (σ : zS) (x0 : Nat) (τ : zS) (r : Int32) (hf : fX1_recordsAtRisk σ x0 = some (τ, r)) (hq : ∀ (pc : Nat) (lv : List (Nat × Value)), decode cX1_recordsAtRisk pc = .ok (.ireturn, 1) → zW p l e R s m args below meth c cells slots Q D Ca B 3 τ N pc lv [.int r]) : zW p l e R s m args below meth c cells slots Q D Ca B 3 σ N 0 [(0, .ref x0)] [] := by
  unfold fX1_recordsAtRisk at hf
  refine z_aload_n C dX1_recordsAtRisk_0 rfl 0 rfl ?_
  obtain ⟨c1, hc1, hf⟩ := zbind hf
  obtain ⟨kc1, hc1⟩ := zck_ok hc1
  refine z_callVi (As := []) (F0 := 1) (L0 := 22) C (mX1_positionsInAll l D Ca B En C.2.2.2.2.2.2.2.1 σ N x0  _ hc1) hRm kc1 rfl kw_663 kw_8 kw_660 kw_661 kw_662 hyX1_positionsInAll (Nat.le_of_ble_eq_true rfl) (Nat.le_of_ble_eq_true rfl) rfl rfl (Nat.le_of_ble_eq_true rfl) dX1_recordsAtRisk_1 ?_
  refine z_istore_n (lv2 := [(1, .int c1.2), (0, .ref x0)]) C dX1_recordsAtRisk_4 rfl (by decide) rfl ?_
  refine z_iconst C 0 dX1_recordsAtRisk_5 (by decide) ?_
  refine z_istore_n (lv2 := [(2, .int 0), (1, .int c1.2), (0, .ref x0)]) C dX1_recordsAtRisk_6 rfl (by decide) rfl ?_
  obtain ⟨o11, ho11, hf⟩ := zbind hf
  refine z_sub [2, 1, 0] rfl ?_
  refine wsX1_recordsAtRisk_7 C hRm _ zfuel (c1.1, c1.2, 0) o11 ho11 ?_
  intro z9 e9
  subst e9
  refine z_iload_n C dX1_recordsAtRisk_46 rfl 0 rfl ?_
  cases hf
  exact hq _ _ dX1_recordsAtRisk_47

theorem mX1_recordsAtRisk (l : Launch) (D : va_G) (Ca : Nat → ClassId) (B : Nat) (En : State → Prop) (hE : zEk B En) (σ : zS) (N : Nat) (x0 : Nat) (X : zS × Int32) (hf : fX1_recordsAtRisk σ x0 = some X) : zMi l D Ca B En yX1_recordsAtRisk cX1_recordsAtRisk 3 (Option.some Jvm.ClassFile.FieldType.int) 1 22 [.ref x0] σ N X.1 X.2 :=
  zMet_i (own := RX1) hE (by decide +kernel) rfl (Nat.le_of_ble_eq_true rfl) (fun p e s m args below meth c C hr hRm => wfX1_recordsAtRisk C hRm σ x0 X.1 X.2 hf (fun pc lv hd => zfin_i C hr hd))
theorem dX2_addByte_0 : decode cX2_addByte 0 = .ok (.aload_n 0, 1) := by decide +kernel
theorem dX2_addByte_1 : decode cX2_addByte 1 = .ok (.getfield 19, 3) := by decide +kernel
theorem dX2_addByte_4 : decode cX2_addByte 4 = .ok (.ifCond .lt 36, 3) := by decide +kernel
theorem dX2_addByte_7 : decode cX2_addByte 7 = .ok (.aload_n 0, 1) := by decide +kernel
theorem dX2_addByte_8 : decode cX2_addByte 8 = .ok (.getfield 19, 3) := by decide +kernel
theorem dX2_addByte_11 : decode cX2_addByte 11 = .ok (.aload_n 0, 1) := by decide +kernel
theorem dX2_addByte_12 : decode cX2_addByte 12 = .ok (.getfield 9, 3) := by decide +kernel
theorem dX2_addByte_15 : decode cX2_addByte 15 = .ok (.arraylength, 1) := by decide +kernel
theorem dX2_addByte_16 : decode cX2_addByte 16 = .ok (.if_icmp .ge 24, 3) := by decide +kernel
theorem dX2_addByte_19 : decode cX2_addByte 19 = .ok (.aload_n 0, 1) := by decide +kernel
theorem dX2_addByte_20 : decode cX2_addByte 20 = .ok (.getfield 9, 3) := by decide +kernel
theorem dX2_addByte_23 : decode cX2_addByte 23 = .ok (.aload_n 0, 1) := by decide +kernel
theorem dX2_addByte_24 : decode cX2_addByte 24 = .ok (.getfield 19, 3) := by decide +kernel
theorem dX2_addByte_27 : decode cX2_addByte 27 = .ok (.iload_n 1, 1) := by decide +kernel
theorem dX2_addByte_28 : decode cX2_addByte 28 = .ok (.i2b, 1) := by decide +kernel
theorem dX2_addByte_29 : decode cX2_addByte 29 = .ok (.bastore, 1) := by decide +kernel
theorem dX2_addByte_30 : decode cX2_addByte 30 = .ok (.aload_n 0, 1) := by decide +kernel
theorem dX2_addByte_31 : decode cX2_addByte 31 = .ok (.dup, 1) := by decide +kernel
theorem dX2_addByte_32 : decode cX2_addByte 32 = .ok (.getfield 19, 3) := by decide +kernel
theorem dX2_addByte_35 : decode cX2_addByte 35 = .ok (.iconst 1, 1) := by decide +kernel
theorem dX2_addByte_36 : decode cX2_addByte 36 = .ok (.iadd, 1) := by decide +kernel
theorem dX2_addByte_37 : decode cX2_addByte 37 = .ok (.putfield 19, 3) := by decide +kernel
theorem dX2_addByte_40 : decode cX2_addByte 40 = .ok (.return_, 1) := by decide +kernel
theorem hyX2_addByte : yX2_addByte.cls ≠ "java/lang/invoke/MethodHandle" ∧ yX2_addByte.cls ≠ "java/lang/invoke/VarHandle" ∧ (parseMethodDescriptor yX2_addByte.desc).map (fun d => d.parameters.length) = some 1 := ⟨by decide +kernel, by decide +kernel, by decide +kernel⟩
def fX2_addByte (σ : zS) (x0 : Nat) (x1 : Int32) : Option zS :=
  (zgI 2 1 σ x0).bind fun v1 => (if v1 < 0 then some σ else (zgI 2 1 σ x0).bind fun v2 => (zgR 2 0 σ x0).bind fun v3 => (zlen σ v3).bind fun v4 => (if v4 ≤ v2 then some σ else (zgR 2 0 σ x0).bind fun v5 => (zgI 2 1 σ x0).bind fun v6 => (zsB σ v5 v6 x1.toInt8.toInt32).bind fun σ7 => (zgI 2 1 σ7 x0).bind fun v8 => (zpI 2 1 σ7 x0 (v8 + 1)).bind fun σ9 => some σ9))
set_option maxRecDepth 100000 in
set_option maxHeartbeats 4000000 in
theorem wfX2_addByte (C : zC p s m args meth c cX2_addByte RX2 2 D Ca B En) (hRm : zRm R 0 0 cells slots) (σ : zS) (x0 : Nat) (x1 : Int32) (τ : zS) (hf : fX2_addByte σ x0 x1 = some τ) (hq : ∀ (pc : Nat) (lv : List (Nat × Value)), decode cX2_addByte pc = .ok (.return_, 1) → zW p l e R s m args below meth c cells slots Q D Ca B 2 τ N pc lv []) : zW p l e R s m args below meth c cells slots Q D Ca B 2 σ N 0 [(0, .ref x0), (1, .int x1)] [] := by
  unfold fX2_addByte at hf
  refine z_aload_n C dX2_addByte_0 rfl 0 rfl ?_
  obtain ⟨v1, hv1, hf⟩ := zbind hf
  refine gf_RX2_19 C hv1 dX2_addByte_1 ?_
  refine z_if_lt C 40 dX2_addByte_4 (by decide) (fun q11 => ?_) (fun q11 => ?_)
  · rw [if_pos q11] at hf
    cases hf
    exact hq _ _ dX2_addByte_40
  · rw [if_neg q11] at hf
    refine z_aload_n C dX2_addByte_7 rfl 0 rfl ?_
    obtain ⟨v2, hv2, hf⟩ := zbind hf
    refine gf_RX2_19 C hv2 dX2_addByte_8 ?_
    refine z_aload_n C dX2_addByte_11 rfl 0 rfl ?_
    obtain ⟨v3, hv3, hf⟩ := zbind hf
    refine gf_RX2_9 C hv3 dX2_addByte_12 ?_
    obtain ⟨v4, hv4, hf⟩ := zbind hf
    refine z_alen C hv4 dX2_addByte_15 ?_
    refine z_icmp_ge C 40 dX2_addByte_16 (by decide) (fun q10 => ?_) (fun q10 => ?_)
    · rw [if_pos q10] at hf
      cases hf
      exact hq _ _ dX2_addByte_40
    · rw [if_neg q10] at hf
      refine z_aload_n C dX2_addByte_19 rfl 0 rfl ?_
      obtain ⟨v5, hv5, hf⟩ := zbind hf
      refine gf_RX2_9 C hv5 dX2_addByte_20 ?_
      refine z_aload_n C dX2_addByte_23 rfl 0 rfl ?_
      obtain ⟨v6, hv6, hf⟩ := zbind hf
      refine gf_RX2_19 C hv6 dX2_addByte_24 ?_
      refine z_iload_n C dX2_addByte_27 rfl 1 rfl ?_
      refine z_i2b C dX2_addByte_28 ?_
      obtain ⟨σ7, hσ7, hf⟩ := zbind hf
      refine z_sB C hσ7 dX2_addByte_29 ?_
      refine z_aload_n C dX2_addByte_30 rfl 0 rfl ?_
      refine z_dup C dX2_addByte_31 rfl ?_
      obtain ⟨v8, hv8, hf⟩ := zbind hf
      refine gf_RX2_19 C hv8 dX2_addByte_32 ?_
      refine z_iconst C 1 dX2_addByte_35 (by decide) ?_
      refine z_iadd C dX2_addByte_36 ?_
      obtain ⟨σ9, hσ9, hf⟩ := zbind hf
      refine gp_RX2_19 C hσ9 dX2_addByte_37 ?_
      cases hf
      exact hq _ _ dX2_addByte_40

theorem mX2_addByte (l : Launch) (D : va_G) (Ca : Nat → ClassId) (B : Nat) (En : State → Prop) (hE : zEk B En) (σ : zS) (N : Nat) (x0 : Nat) (x1 : Int32) (X : zS) (hf : fX2_addByte σ x0 x1 = some X) : zMv l D Ca B En yX2_addByte cX2_addByte 2 (Option.none : Option Jvm.ClassFile.FieldType) 0 0 [.ref x0, .int x1] σ N X () :=
  zMet_v (own := RX2) hE (by decide +kernel) rfl (Nat.le_of_ble_eq_true rfl) (fun p e s m args below meth c C hr hRm => wfX2_addByte C hRm σ x0 x1 X hf (fun pc lv hd => zfin_v (r := ()) C hr hd))
theorem dX2_addFourBytes_0 : decode cX2_addFourBytes 0 = .ok (.aload_n 0, 1) := by decide +kernel
theorem dX2_addFourBytes_1 : decode cX2_addFourBytes 1 = .ok (.iload_n 1, 1) := by decide +kernel
theorem dX2_addFourBytes_2 : decode cX2_addFourBytes 2 = .ok (.bipush 24, 2) := by decide +kernel
theorem dX2_addFourBytes_4 : decode cX2_addFourBytes 4 = .ok (.iushr, 1) := by decide +kernel
theorem dX2_addFourBytes_5 : decode cX2_addFourBytes 5 = .ok (.invokevirtual 15, 3) := by decide +kernel
theorem dX2_addFourBytes_8 : decode cX2_addFourBytes 8 = .ok (.aload_n 0, 1) := by decide +kernel
theorem dX2_addFourBytes_9 : decode cX2_addFourBytes 9 = .ok (.iload_n 1, 1) := by decide +kernel
theorem dX2_addFourBytes_10 : decode cX2_addFourBytes 10 = .ok (.bipush 16, 2) := by decide +kernel
theorem dX2_addFourBytes_12 : decode cX2_addFourBytes 12 = .ok (.iushr, 1) := by decide +kernel
theorem dX2_addFourBytes_13 : decode cX2_addFourBytes 13 = .ok (.invokevirtual 15, 3) := by decide +kernel
theorem dX2_addFourBytes_16 : decode cX2_addFourBytes 16 = .ok (.aload_n 0, 1) := by decide +kernel
theorem dX2_addFourBytes_17 : decode cX2_addFourBytes 17 = .ok (.iload_n 1, 1) := by decide +kernel
theorem dX2_addFourBytes_18 : decode cX2_addFourBytes 18 = .ok (.bipush 8, 2) := by decide +kernel
theorem dX2_addFourBytes_20 : decode cX2_addFourBytes 20 = .ok (.iushr, 1) := by decide +kernel
theorem dX2_addFourBytes_21 : decode cX2_addFourBytes 21 = .ok (.invokevirtual 15, 3) := by decide +kernel
theorem dX2_addFourBytes_24 : decode cX2_addFourBytes 24 = .ok (.aload_n 0, 1) := by decide +kernel
theorem dX2_addFourBytes_25 : decode cX2_addFourBytes 25 = .ok (.iload_n 1, 1) := by decide +kernel
theorem dX2_addFourBytes_26 : decode cX2_addFourBytes 26 = .ok (.invokevirtual 15, 3) := by decide +kernel
theorem dX2_addFourBytes_29 : decode cX2_addFourBytes 29 = .ok (.return_, 1) := by decide +kernel
theorem hyX2_addFourBytes : yX2_addFourBytes.cls ≠ "java/lang/invoke/MethodHandle" ∧ yX2_addFourBytes.cls ≠ "java/lang/invoke/VarHandle" ∧ (parseMethodDescriptor yX2_addFourBytes.desc).map (fun d => d.parameters.length) = some 1 := ⟨by decide +kernel, by decide +kernel, by decide +kernel⟩
def fX2_addFourBytes (σ : zS) (x0 : Nat) (x1 : Int32) : Option zS :=
  (zck 2 σ x0 (fX2_addByte σ x0 ((x1.toUInt32 >>> ((24 : Int32).toUInt32 &&& Int32.toUInt32 31)).toInt32))).bind fun c1 => (zck 2 c1 x0 (fX2_addByte c1 x0 ((x1.toUInt32 >>> ((16 : Int32).toUInt32 &&& Int32.toUInt32 31)).toInt32))).bind fun c2 => (zck 2 c2 x0 (fX2_addByte c2 x0 ((x1.toUInt32 >>> ((8 : Int32).toUInt32 &&& Int32.toUInt32 31)).toInt32))).bind fun c3 => (zck 2 c3 x0 (fX2_addByte c3 x0 x1)).bind fun c4 => some c4
set_option maxRecDepth 100000 in
set_option maxHeartbeats 4000000 in
theorem wfX2_addFourBytes (C : zC p s m args meth c cX2_addFourBytes RX2 2 D Ca B En) (hRm : zRm R 1 21 cells slots) (σ : zS) (x0 : Nat) (x1 : Int32) (τ : zS) (hf : fX2_addFourBytes σ x0 x1 = some τ) (hq : ∀ (pc : Nat) (lv : List (Nat × Value)), decode cX2_addFourBytes pc = .ok (.return_, 1) → zW p l e R s m args below meth c cells slots Q D Ca B 2 τ N pc lv []) : zW p l e R s m args below meth c cells slots Q D Ca B 2 σ N 0 [(0, .ref x0), (1, .int x1)] [] := by
  unfold fX2_addFourBytes at hf
  refine z_aload_n C dX2_addFourBytes_0 rfl 0 rfl ?_
  refine z_iload_n C dX2_addFourBytes_1 rfl 1 rfl ?_
  refine z_bipush C 24 dX2_addFourBytes_2 (by decide) ?_
  refine z_iushr C dX2_addFourBytes_4 ?_
  obtain ⟨c1, hc1, hf⟩ := zbind hf
  obtain ⟨kc1, hc1⟩ := zck_ok hc1
  refine z_callVv (As := [.int ((x1.toUInt32 >>> ((24 : Int32).toUInt32 &&& Int32.toUInt32 31)).toInt32)]) (F0 := 1) (L0 := 21) C (mX2_addByte l D Ca B En C.2.2.2.2.2.2.2.1 σ N x0 ((x1.toUInt32 >>> ((24 : Int32).toUInt32 &&& Int32.toUInt32 31)).toInt32) _ hc1) hRm kc1 rfl kw_491 kw_2 kw_488 kw_490 kp_4 hyX2_addByte (Nat.le_of_ble_eq_true rfl) (Nat.le_of_ble_eq_true rfl) rfl rfl (Nat.le_of_ble_eq_true rfl) dX2_addFourBytes_5 ?_
  refine z_aload_n C dX2_addFourBytes_8 rfl 0 rfl ?_
  refine z_iload_n C dX2_addFourBytes_9 rfl 1 rfl ?_
  refine z_bipush C 16 dX2_addFourBytes_10 (by decide) ?_
  refine z_iushr C dX2_addFourBytes_12 ?_
  obtain ⟨c2, hc2, hf⟩ := zbind hf
  obtain ⟨kc2, hc2⟩ := zck_ok hc2
  refine z_callVv (As := [.int ((x1.toUInt32 >>> ((16 : Int32).toUInt32 &&& Int32.toUInt32 31)).toInt32)]) (F0 := 1) (L0 := 21) C (mX2_addByte l D Ca B En C.2.2.2.2.2.2.2.1 c1 N x0 ((x1.toUInt32 >>> ((16 : Int32).toUInt32 &&& Int32.toUInt32 31)).toInt32) _ hc2) hRm kc2 rfl kw_491 kw_2 kw_488 kw_490 kp_4 hyX2_addByte (Nat.le_of_ble_eq_true rfl) (Nat.le_of_ble_eq_true rfl) rfl rfl (Nat.le_of_ble_eq_true rfl) dX2_addFourBytes_13 ?_
  refine z_aload_n C dX2_addFourBytes_16 rfl 0 rfl ?_
  refine z_iload_n C dX2_addFourBytes_17 rfl 1 rfl ?_
  refine z_bipush C 8 dX2_addFourBytes_18 (by decide) ?_
  refine z_iushr C dX2_addFourBytes_20 ?_
  obtain ⟨c3, hc3, hf⟩ := zbind hf
  obtain ⟨kc3, hc3⟩ := zck_ok hc3
  refine z_callVv (As := [.int ((x1.toUInt32 >>> ((8 : Int32).toUInt32 &&& Int32.toUInt32 31)).toInt32)]) (F0 := 1) (L0 := 21) C (mX2_addByte l D Ca B En C.2.2.2.2.2.2.2.1 c2 N x0 ((x1.toUInt32 >>> ((8 : Int32).toUInt32 &&& Int32.toUInt32 31)).toInt32) _ hc3) hRm kc3 rfl kw_491 kw_2 kw_488 kw_490 kp_4 hyX2_addByte (Nat.le_of_ble_eq_true rfl) (Nat.le_of_ble_eq_true rfl) rfl rfl (Nat.le_of_ble_eq_true rfl) dX2_addFourBytes_21 ?_
  refine z_aload_n C dX2_addFourBytes_24 rfl 0 rfl ?_
  refine z_iload_n C dX2_addFourBytes_25 rfl 1 rfl ?_
  obtain ⟨c4, hc4, hf⟩ := zbind hf
  obtain ⟨kc4, hc4⟩ := zck_ok hc4
  refine z_callVv (As := [.int x1]) (F0 := 1) (L0 := 21) C (mX2_addByte l D Ca B En C.2.2.2.2.2.2.2.1 c3 N x0 x1 _ hc4) hRm kc4 rfl kw_491 kw_2 kw_488 kw_490 kp_4 hyX2_addByte (Nat.le_of_ble_eq_true rfl) (Nat.le_of_ble_eq_true rfl) rfl rfl (Nat.le_of_ble_eq_true rfl) dX2_addFourBytes_26 ?_
  cases hf
  exact hq _ _ dX2_addFourBytes_29

theorem mX2_addFourBytes (l : Launch) (D : va_G) (Ca : Nat → ClassId) (B : Nat) (En : State → Prop) (hE : zEk B En) (σ : zS) (N : Nat) (x0 : Nat) (x1 : Int32) (X : zS) (hf : fX2_addFourBytes σ x0 x1 = some X) : zMv l D Ca B En yX2_addFourBytes cX2_addFourBytes 2 (Option.none : Option Jvm.ClassFile.FieldType) 1 21 [.ref x0, .int x1] σ N X () :=
  zMet_v (own := RX2) hE (by decide +kernel) rfl (Nat.le_of_ble_eq_true rfl) (fun p e s m args below meth c C hr hRm => wfX2_addFourBytes C hRm σ x0 x1 X hf (fun pc lv hd => zfin_v (r := ()) C hr hd))
theorem dX2_byteAt_0 : decode cX2_byteAt 0 = .ok (.iload_n 1, 1) := by decide +kernel
theorem dX2_byteAt_1 : decode cX2_byteAt 1 = .ok (.ifCond .lt 29, 3) := by decide +kernel
theorem dX2_byteAt_4 : decode cX2_byteAt 4 = .ok (.iload_n 1, 1) := by decide +kernel
theorem dX2_byteAt_5 : decode cX2_byteAt 5 = .ok (.aload_n 0, 1) := by decide +kernel
theorem dX2_byteAt_6 : decode cX2_byteAt 6 = .ok (.getfield 19, 3) := by decide +kernel
theorem dX2_byteAt_9 : decode cX2_byteAt 9 = .ok (.if_icmp .ge 21, 3) := by decide +kernel
theorem dX2_byteAt_12 : decode cX2_byteAt 12 = .ok (.iload_n 1, 1) := by decide +kernel
theorem dX2_byteAt_13 : decode cX2_byteAt 13 = .ok (.aload_n 0, 1) := by decide +kernel
theorem dX2_byteAt_14 : decode cX2_byteAt 14 = .ok (.getfield 9, 3) := by decide +kernel
theorem dX2_byteAt_17 : decode cX2_byteAt 17 = .ok (.arraylength, 1) := by decide +kernel
theorem dX2_byteAt_18 : decode cX2_byteAt 18 = .ok (.if_icmp .ge 12, 3) := by decide +kernel
theorem dX2_byteAt_21 : decode cX2_byteAt 21 = .ok (.aload_n 0, 1) := by decide +kernel
theorem dX2_byteAt_22 : decode cX2_byteAt 22 = .ok (.getfield 9, 3) := by decide +kernel
theorem dX2_byteAt_25 : decode cX2_byteAt 25 = .ok (.iload_n 1, 1) := by decide +kernel
theorem dX2_byteAt_26 : decode cX2_byteAt 26 = .ok (.baload, 1) := by decide +kernel
theorem dX2_byteAt_27 : decode cX2_byteAt 27 = .ok (.goto 4, 3) := by decide +kernel
theorem dX2_byteAt_30 : decode cX2_byteAt 30 = .ok (.iconst 0, 1) := by decide +kernel
theorem dX2_byteAt_31 : decode cX2_byteAt 31 = .ok (.ireturn, 1) := by decide +kernel
theorem hyX2_byteAt : yX2_byteAt.cls ≠ "java/lang/invoke/MethodHandle" ∧ yX2_byteAt.cls ≠ "java/lang/invoke/VarHandle" ∧ (parseMethodDescriptor yX2_byteAt.desc).map (fun d => d.parameters.length) = some 1 := ⟨by decide +kernel, by decide +kernel, by decide +kernel⟩
def fX2_byteAt (σ : zS) (x0 : Nat) (x1 : Int32) : Option (zS × Int32) :=
  (if x1 < 0 then some (σ, 0) else (zgI 2 1 σ x0).bind fun v1 => (if v1 ≤ x1 then some (σ, 0) else (zgR 2 0 σ x0).bind fun v2 => (zlen σ v2).bind fun v3 => (if v3 ≤ x1 then some (σ, 0) else (zgR 2 0 σ x0).bind fun v4 => (zaB σ v4 x1).bind fun v5 => some (σ, v5))))
set_option maxRecDepth 100000 in
set_option maxHeartbeats 4000000 in
theorem wfX2_byteAt (C : zC p s m args meth c cX2_byteAt RX2 2 D Ca B En) (hRm : zRm R 0 0 cells slots) (σ : zS) (x0 : Nat) (x1 : Int32) (τ : zS) (r : Int32) (hf : fX2_byteAt σ x0 x1 = some (τ, r)) (hq : ∀ (pc : Nat) (lv : List (Nat × Value)), decode cX2_byteAt pc = .ok (.ireturn, 1) → zW p l e R s m args below meth c cells slots Q D Ca B 2 τ N pc lv [.int r]) : zW p l e R s m args below meth c cells slots Q D Ca B 2 σ N 0 [(0, .ref x0), (1, .int x1)] [] := by
  unfold fX2_byteAt at hf
  refine z_iload_n C dX2_byteAt_0 rfl 1 rfl ?_
  refine z_if_lt C 30 dX2_byteAt_1 (by decide) (fun q8 => ?_) (fun q8 => ?_)
  · rw [if_pos q8] at hf
    refine z_iconst C 0 dX2_byteAt_30 (by decide) ?_
    cases hf
    exact hq _ _ dX2_byteAt_31
  · rw [if_neg q8] at hf
    refine z_iload_n C dX2_byteAt_4 rfl 1 rfl ?_
    refine z_aload_n C dX2_byteAt_5 rfl 0 rfl ?_
    obtain ⟨v1, hv1, hf⟩ := zbind hf
    refine gf_RX2_19 C hv1 dX2_byteAt_6 ?_
    refine z_icmp_ge C 30 dX2_byteAt_9 (by decide) (fun q7 => ?_) (fun q7 => ?_)
    · rw [if_pos q7] at hf
      refine z_iconst C 0 dX2_byteAt_30 (by decide) ?_
      cases hf
      exact hq _ _ dX2_byteAt_31
    · rw [if_neg q7] at hf
      refine z_iload_n C dX2_byteAt_12 rfl 1 rfl ?_
      refine z_aload_n C dX2_byteAt_13 rfl 0 rfl ?_
      obtain ⟨v2, hv2, hf⟩ := zbind hf
      refine gf_RX2_9 C hv2 dX2_byteAt_14 ?_
      obtain ⟨v3, hv3, hf⟩ := zbind hf
      refine z_alen C hv3 dX2_byteAt_17 ?_
      refine z_icmp_ge C 30 dX2_byteAt_18 (by decide) (fun q6 => ?_) (fun q6 => ?_)
      · rw [if_pos q6] at hf
        refine z_iconst C 0 dX2_byteAt_30 (by decide) ?_
        cases hf
        exact hq _ _ dX2_byteAt_31
      · rw [if_neg q6] at hf
        refine z_aload_n C dX2_byteAt_21 rfl 0 rfl ?_
        obtain ⟨v4, hv4, hf⟩ := zbind hf
        refine gf_RX2_9 C hv4 dX2_byteAt_22 ?_
        refine z_iload_n C dX2_byteAt_25 rfl 1 rfl ?_
        obtain ⟨v5, hv5, hf⟩ := zbind hf
        refine z_aB C hv5 dX2_byteAt_26 ?_
        refine z_goto C 31 dX2_byteAt_27 (by decide) ?_
        cases hf
        exact hq _ _ dX2_byteAt_31

theorem mX2_byteAt (l : Launch) (D : va_G) (Ca : Nat → ClassId) (B : Nat) (En : State → Prop) (hE : zEk B En) (σ : zS) (N : Nat) (x0 : Nat) (x1 : Int32) (X : zS × Int32) (hf : fX2_byteAt σ x0 x1 = some X) : zMi l D Ca B En yX2_byteAt cX2_byteAt 2 (Option.some Jvm.ClassFile.FieldType.int) 0 0 [.ref x0, .int x1] σ N X.1 X.2 :=
  zMet_i (own := RX2) hE (by decide +kernel) rfl (Nat.le_of_ble_eq_true rfl) (fun p e s m args below meth c C hr hRm => wfX2_byteAt C hRm σ x0 x1 X.1 X.2 hf (fun pc lv hd => zfin_i C hr hd))
theorem dX3_at_0 : decode cX3_at 0 = .ok (.iload_n 2, 1) := by decide +kernel
theorem dX3_at_1 : decode cX3_at 1 = .ok (.ifCond .lt 12, 3) := by decide +kernel
theorem dX3_at_4 : decode cX3_at 4 = .ok (.iload_n 2, 1) := by decide +kernel
theorem dX3_at_5 : decode cX3_at 5 = .ok (.aload_n 0, 1) := by decide +kernel
theorem dX3_at_6 : decode cX3_at 6 = .ok (.iload_n 1, 1) := by decide +kernel
theorem dX3_at_7 : decode cX3_at 7 = .ok (.invokevirtual 42, 3) := by decide +kernel
theorem dX3_at_10 : decode cX3_at 10 = .ok (.if_icmp .lt 5, 3) := by decide +kernel
theorem dX3_at_13 : decode cX3_at 13 = .ok (.iconst (-1), 1) := by decide +kernel
theorem dX3_at_14 : decode cX3_at 14 = .ok (.ireturn, 1) := by decide +kernel
theorem dX3_at_15 : decode cX3_at 15 = .ok (.aload_n 0, 1) := by decide +kernel
theorem dX3_at_16 : decode cX3_at 16 = .ok (.iload_n 1, 1) := by decide +kernel
theorem dX3_at_17 : decode cX3_at 17 = .ok (.invokevirtual 46, 3) := by decide +kernel
theorem dX3_at_20 : decode cX3_at 20 = .ok (.istore_n 3, 1) := by decide +kernel
theorem dX3_at_21 : decode cX3_at 21 = .ok (.iconst 0, 1) := by decide +kernel
theorem dX3_at_22 : decode cX3_at 22 = .ok (.istore 4, 2) := by decide +kernel
theorem dX3_at_24 : decode cX3_at 24 = .ok (.iload 4, 2) := by decide +kernel
theorem dX3_at_26 : decode cX3_at 26 = .ok (.iload_n 2, 1) := by decide +kernel
theorem dX3_at_27 : decode cX3_at 27 = .ok (.if_icmp .ge 15, 3) := by decide +kernel
theorem dX3_at_30 : decode cX3_at 30 = .ok (.aload_n 0, 1) := by decide +kernel
theorem dX3_at_31 : decode cX3_at 31 = .ok (.iload_n 3, 1) := by decide +kernel
theorem dX3_at_32 : decode cX3_at 32 = .ok (.invokevirtual 49, 3) := by decide +kernel
theorem dX3_at_35 : decode cX3_at 35 = .ok (.istore_n 3, 1) := by decide +kernel
theorem dX3_at_36 : decode cX3_at 36 = .ok (.iinc 4 1, 3) := by decide +kernel
theorem dX3_at_39 : decode cX3_at 39 = .ok (.goto (-15), 3) := by decide +kernel
theorem dX3_at_42 : decode cX3_at 42 = .ok (.iload_n 3, 1) := by decide +kernel
theorem dX3_at_43 : decode cX3_at 43 = .ok (.ireturn, 1) := by decide +kernel
theorem hyX3_at : yX3_at.cls ≠ "java/lang/invoke/MethodHandle" ∧ yX3_at.cls ≠ "java/lang/invoke/VarHandle" ∧ (parseMethodDescriptor yX3_at.desc).map (fun d => d.parameters.length) = some 2 := ⟨by decide +kernel, by decide +kernel, by decide +kernel⟩
def sX3_at_24b (x0 : Nat) (x2 : Int32) (σ : zS) (u3 : Int32) (u4 : Int32) : Option ((zS × Int32 × Int32) ⊕ (zS × Int32)) :=
  (if x2 ≤ u4 then some (.inr (σ, u3)) else (zck 3 σ x0 (fX3_behind σ x0 u3)).bind fun c3 => some (.inl (c3.1, c3.2, u4 + 1)))
def sX3_at_24 (x0 : Nat) (x2 : Int32) (z : (zS × Int32 × Int32)) : Option ((zS × Int32 × Int32) ⊕ (zS × Int32)) := sX3_at_24b x0 x2 z.1 z.2.1 z.2.2
set_option maxRecDepth 100000 in
set_option maxHeartbeats 4000000 in
theorem wsX3_at_24b (C : zC p s m args meth c cX3_at RX3 5 D Ca B En) (hRm : zRm R 2 41 cells slots) (x0 : Nat) (x2 : Int32) (σ : zS) (u3 : Int32) (u4 : Int32) (y : (zS × Int32 × Int32) ⊕ (zS × Int32)) (hf : sX3_at_24b x0 x2 σ u3 u4 = some y) (hk : (∀ z : (zS × Int32 × Int32), y = .inl z → zW p l e R s m args below meth c cells slots Q D Ca B 5 z.1 N 24 [(0, .ref x0), (2, .int x2), (3, .int z.2.1), (4, .int z.2.2)] []) ∧ (∀ z : (zS × Int32), y = .inr z → zW p l e R s m args below meth c cells slots Q D Ca B 5 z.1 N 42 [(3, .int z.2)] [])) : zW p l e R s m args below meth c cells slots Q D Ca B 5 σ N 24 [(0, .ref x0), (2, .int x2), (3, .int u3), (4, .int u4)] [] := by
  unfold sX3_at_24b at hf
  refine z_iload C dX3_at_24 3 rfl ?_
  refine z_iload_n C dX3_at_26 rfl 1 rfl ?_
  refine z_icmp_ge C 42 dX3_at_27 (by decide) (fun q4 => ?_) (fun q4 => ?_)
  · rw [if_pos q4] at hf
    cases hf
    refine z_sub [2] rfl ?_
    exact hk.2 _ rfl
  · rw [if_neg q4] at hf
    refine z_aload_n C dX3_at_30 rfl 0 rfl ?_
    refine z_iload_n C dX3_at_31 rfl 2 rfl ?_
    obtain ⟨c3, hc3, hf⟩ := zbind hf
    obtain ⟨kc3, hc3⟩ := zck_ok hc3
    refine z_callVi (As := [.int u3]) (F0 := 2) (L0 := 41) C (mX3_behind l D Ca B En C.2.2.2.2.2.2.2.1 σ N x0 u3 _ hc3) hRm kc3 rfl kw_350 kw_9 kw_1028 kw_348 kw_349 hyX3_behind (Nat.le_of_ble_eq_true rfl) (Nat.le_of_ble_eq_true rfl) rfl rfl (Nat.le_of_ble_eq_true rfl) dX3_at_32 ?_
    refine z_istore_n (lv2 := [(3, .int c3.2), (0, .ref x0), (2, .int x2), (4, .int u4)]) C dX3_at_35 rfl (by decide) rfl ?_
    refine z_iinc (lv2 := [(4, .int (u4 + 1)), (3, .int c3.2), (0, .ref x0), (2, .int x2)]) C (u4 + 1) dX3_at_36 3 rfl rfl (by decide) rfl ?_
    refine z_goto C 24 dX3_at_39 (by decide) ?_
    cases hf
    refine z_sub [2, 3, 1, 0] rfl ?_
    exact hk.1 _ rfl

theorem wsX3_at_24 (C : zC p s m args meth c cX3_at RX3 5 D Ca B En) (hRm : zRm R 2 41 cells slots) (x0 : Nat) (x2 : Int32) (n : Nat) (z : (zS × Int32 × Int32)) (x : (zS × Int32)) (hf : zloop (sX3_at_24 x0 x2) n z = some x) (hk : (∀ o : (zS × Int32), x = o → zW p l e R s m args below meth c cells slots Q D Ca B 5 o.1 N 42 [(3, .int o.2)] [])) : zW p l e R s m args below meth c cells slots Q D Ca B 5 z.1 N 24 [(0, .ref x0), (2, .int x2), (3, .int z.2.1), (4, .int z.2.2)] [] := by
  refine zloop_W (P := fun z : (zS × Int32 × Int32) => zW p l e R s m args below meth c cells slots Q D Ca B 5 z.1 N 24 [(0, .ref x0), (2, .int x2), (3, .int z.2.1), (4, .int z.2.2)] []) (K := fun x : (zS × Int32) => (∀ o : (zS × Int32), x = o → zW p l e R s m args below meth c cells slots Q D Ca B 5 o.1 N 42 [(3, .int o.2)] [])) ?_ n z x hf hk
  intro z y hy h1 h2
  refine wsX3_at_24b C hRm x0 x2 z.1 z.2.1 z.2.2 y hy ⟨fun z2 e => h1 z2 e, fun o e => (h2 _ e) o rfl⟩
def fX3_at (σ : zS) (x0 : Nat) (x1 : Int32) (x2 : Int32) : Option (zS × Int32) :=
  (if x2 < 0 then some (σ, (-1)) else (zck 3 σ x0 (fX3_sizeOf σ x0 x1)).bind fun c1 => (if x2 < c1.2 then (zck 3 c1.1 x0 (fX3_firstOf c1.1 x0 x1)).bind fun c2 => (zloop (sX3_at_24 x0 x2) zfuel (c2.1, c2.2, 0)).bind fun o5 => some (o5.1, o5.2) else some (c1.1, (-1))))
set_option maxRecDepth 100000 in
set_option maxHeartbeats 4000000 in
theorem wfX3_at (C : zC p s m args meth c cX3_at RX3 5 D Ca B En) (hRm : zRm R 2 41 cells slots) (σ : zS) (x0 : Nat) (x1 : Int32) (x2 : Int32) (τ : zS) (r : Int32) (hf : fX3_at σ x0 x1 x2 = some (τ, r)) (hq : ∀ (pc : Nat) (lv : List (Nat × Value)), decode cX3_at pc = .ok (.ireturn, 1) → zW p l e R s m args below meth c cells slots Q D Ca B 5 τ N pc lv [.int r]) : zW p l e R s m args below meth c cells slots Q D Ca B 5 σ N 0 [(0, .ref x0), (1, .int x1), (2, .int x2)] [] := by
  unfold fX3_at at hf
  refine z_iload_n C dX3_at_0 rfl 2 rfl ?_
  refine z_if_lt C 13 dX3_at_1 (by decide) (fun q7 => ?_) (fun q7 => ?_)
  · rw [if_pos q7] at hf
    refine z_iconst C (-1) dX3_at_13 (by decide) ?_
    cases hf
    exact hq _ _ dX3_at_14
  · rw [if_neg q7] at hf
    refine z_iload_n C dX3_at_4 rfl 2 rfl ?_
    refine z_aload_n C dX3_at_5 rfl 0 rfl ?_
    refine z_iload_n C dX3_at_6 rfl 1 rfl ?_
    obtain ⟨c1, hc1, hf⟩ := zbind hf
    obtain ⟨kc1, hc1⟩ := zck_ok hc1
    refine z_callVi (As := [.int x1]) (F0 := 2) (L0 := 41) C (mX3_sizeOf l D Ca B En C.2.2.2.2.2.2.2.1 σ N x0 x1 _ hc1) hRm kc1 rfl kw_342 kw_9 kw_1027 kw_340 kw_341 hyX3_sizeOf (Nat.le_of_ble_eq_true rfl) (Nat.le_of_ble_eq_true rfl) rfl rfl (Nat.le_of_ble_eq_true rfl) dX3_at_7 ?_
    refine z_icmp_lt C 15 dX3_at_10 (by decide) (fun q6 => ?_) (fun q6 => ?_)
    · rw [if_pos q6] at hf
      refine z_aload_n C dX3_at_15 rfl 0 rfl ?_
      refine z_iload_n C dX3_at_16 rfl 1 rfl ?_
      obtain ⟨c2, hc2, hf⟩ := zbind hf
      obtain ⟨kc2, hc2⟩ := zck_ok hc2
      refine z_callVi (As := [.int x1]) (F0 := 2) (L0 := 41) C (mX3_firstOf l D Ca B En C.2.2.2.2.2.2.2.1 c1.1 N x0 x1 _ hc2) hRm kc2 rfl kw_338 kw_9 kw_814 kw_336 kw_337 hyX3_firstOf (Nat.le_of_ble_eq_true rfl) (Nat.le_of_ble_eq_true rfl) rfl rfl (Nat.le_of_ble_eq_true rfl) dX3_at_17 ?_
      refine z_istore_n (lv2 := [(3, .int c2.2), (0, .ref x0), (1, .int x1), (2, .int x2)]) C dX3_at_20 rfl (by decide) rfl ?_
      refine z_iconst C 0 dX3_at_21 (by decide) ?_
      refine z_istore (lv2 := [(4, .int 0), (3, .int c2.2), (0, .ref x0), (1, .int x1), (2, .int x2)]) C dX3_at_22 (by decide) rfl ?_
      obtain ⟨o5, ho5, hf⟩ := zbind hf
      refine z_sub [2, 4, 1, 0] rfl ?_
      refine wsX3_at_24 C hRm _ _ zfuel (c2.1, c2.2, 0) o5 ho5 ?_
      intro z9 e9
      subst e9
      refine z_iload_n C dX3_at_42 rfl 0 rfl ?_
      cases hf
      exact hq _ _ dX3_at_43
    · rw [if_neg q6] at hf
      refine z_iconst C (-1) dX3_at_13 (by decide) ?_
      cases hf
      exact hq _ _ dX3_at_14

theorem mX3_at (l : Launch) (D : va_G) (Ca : Nat → ClassId) (B : Nat) (En : State → Prop) (hE : zEk B En) (σ : zS) (N : Nat) (x0 : Nat) (x1 : Int32) (x2 : Int32) (X : zS × Int32) (hf : fX3_at σ x0 x1 x2 = some X) : zMi l D Ca B En yX3_at cX3_at 5 (Option.some Jvm.ClassFile.FieldType.int) 2 41 [.ref x0, .int x1, .int x2] σ N X.1 X.2 :=
  zMet_i (own := RX3) hE (by decide +kernel) rfl (Nat.le_of_ble_eq_true rfl) (fun p e s m args below meth c C hr hRm => wfX3_at C hRm σ x0 x1 x2 X.1 X.2 hf (fun pc lv hd => zfin_i C hr hd))
theorem dX4_add_0 : decode cX4_add 0 = .ok (.aload_n 0, 1) := by decide +kernel
theorem dX4_add_1 : decode cX4_add 1 = .ok (.getfield 15, 3) := by decide +kernel
theorem dX4_add_4 : decode cX4_add 4 = .ok (.ifCond .lt 36, 3) := by decide +kernel
theorem dX4_add_7 : decode cX4_add 7 = .ok (.aload_n 0, 1) := by decide +kernel
theorem dX4_add_8 : decode cX4_add 8 = .ok (.getfield 15, 3) := by decide +kernel
theorem dX4_add_11 : decode cX4_add 11 = .ok (.aload_n 0, 1) := by decide +kernel
theorem dX4_add_12 : decode cX4_add 12 = .ok (.getfield 9, 3) := by decide +kernel
theorem dX4_add_15 : decode cX4_add 15 = .ok (.arraylength, 1) := by decide +kernel
theorem dX4_add_16 : decode cX4_add 16 = .ok (.if_icmp .ge 24, 3) := by decide +kernel
theorem dX4_add_19 : decode cX4_add 19 = .ok (.aload_n 0, 1) := by decide +kernel
theorem dX4_add_20 : decode cX4_add 20 = .ok (.getfield 9, 3) := by decide +kernel
theorem dX4_add_23 : decode cX4_add 23 = .ok (.aload_n 0, 1) := by decide +kernel
theorem dX4_add_24 : decode cX4_add 24 = .ok (.getfield 15, 3) := by decide +kernel
theorem dX4_add_27 : decode cX4_add 27 = .ok (.iload_n 1, 1) := by decide +kernel
theorem dX4_add_28 : decode cX4_add 28 = .ok (.i2b, 1) := by decide +kernel
theorem dX4_add_29 : decode cX4_add 29 = .ok (.bastore, 1) := by decide +kernel
theorem dX4_add_30 : decode cX4_add 30 = .ok (.aload_n 0, 1) := by decide +kernel
theorem dX4_add_31 : decode cX4_add 31 = .ok (.dup, 1) := by decide +kernel
theorem dX4_add_32 : decode cX4_add 32 = .ok (.getfield 15, 3) := by decide +kernel
theorem dX4_add_35 : decode cX4_add 35 = .ok (.iconst 1, 1) := by decide +kernel
theorem dX4_add_36 : decode cX4_add 36 = .ok (.iadd, 1) := by decide +kernel
theorem dX4_add_37 : decode cX4_add 37 = .ok (.putfield 15, 3) := by decide +kernel
theorem dX4_add_40 : decode cX4_add 40 = .ok (.return_, 1) := by decide +kernel
theorem hyX4_add : yX4_add.cls ≠ "java/lang/invoke/MethodHandle" ∧ yX4_add.cls ≠ "java/lang/invoke/VarHandle" ∧ (parseMethodDescriptor yX4_add.desc).map (fun d => d.parameters.length) = some 1 := ⟨by decide +kernel, by decide +kernel, by decide +kernel⟩
def fX4_add (σ : zS) (x0 : Nat) (x1 : Int32) : Option zS :=
  (zgI 4 1 σ x0).bind fun v1 => (if v1 < 0 then some σ else (zgI 4 1 σ x0).bind fun v2 => (zgR 4 0 σ x0).bind fun v3 => (zlen σ v3).bind fun v4 => (if v4 ≤ v2 then some σ else (zgR 4 0 σ x0).bind fun v5 => (zgI 4 1 σ x0).bind fun v6 => (zsB σ v5 v6 x1.toInt8.toInt32).bind fun σ7 => (zgI 4 1 σ7 x0).bind fun v8 => (zpI 4 1 σ7 x0 (v8 + 1)).bind fun σ9 => some σ9))
set_option maxRecDepth 100000 in
set_option maxHeartbeats 4000000 in
theorem wfX4_add (C : zC p s m args meth c cX4_add RX4 2 D Ca B En) (hRm : zRm R 0 0 cells slots) (σ : zS) (x0 : Nat) (x1 : Int32) (τ : zS) (hf : fX4_add σ x0 x1 = some τ) (hq : ∀ (pc : Nat) (lv : List (Nat × Value)), decode cX4_add pc = .ok (.return_, 1) → zW p l e R s m args below meth c cells slots Q D Ca B 2 τ N pc lv []) : zW p l e R s m args below meth c cells slots Q D Ca B 2 σ N 0 [(0, .ref x0), (1, .int x1)] [] := by
  unfold fX4_add at hf
  refine z_aload_n C dX4_add_0 rfl 0 rfl ?_
  obtain ⟨v1, hv1, hf⟩ := zbind hf
  refine gf_RX4_15 C hv1 dX4_add_1 ?_
  refine z_if_lt C 40 dX4_add_4 (by decide) (fun q11 => ?_) (fun q11 => ?_)
  · rw [if_pos q11] at hf
    cases hf
    exact hq _ _ dX4_add_40
  · rw [if_neg q11] at hf
    refine z_aload_n C dX4_add_7 rfl 0 rfl ?_
    obtain ⟨v2, hv2, hf⟩ := zbind hf
    refine gf_RX4_15 C hv2 dX4_add_8 ?_
    refine z_aload_n C dX4_add_11 rfl 0 rfl ?_
    obtain ⟨v3, hv3, hf⟩ := zbind hf
    refine gf_RX4_9 C hv3 dX4_add_12 ?_
    obtain ⟨v4, hv4, hf⟩ := zbind hf
    refine z_alen C hv4 dX4_add_15 ?_
    refine z_icmp_ge C 40 dX4_add_16 (by decide) (fun q10 => ?_) (fun q10 => ?_)
    · rw [if_pos q10] at hf
      cases hf
      exact hq _ _ dX4_add_40
    · rw [if_neg q10] at hf
      refine z_aload_n C dX4_add_19 rfl 0 rfl ?_
      obtain ⟨v5, hv5, hf⟩ := zbind hf
      refine gf_RX4_9 C hv5 dX4_add_20 ?_
      refine z_aload_n C dX4_add_23 rfl 0 rfl ?_
      obtain ⟨v6, hv6, hf⟩ := zbind hf
      refine gf_RX4_15 C hv6 dX4_add_24 ?_
      refine z_iload_n C dX4_add_27 rfl 1 rfl ?_
      refine z_i2b C dX4_add_28 ?_
      obtain ⟨σ7, hσ7, hf⟩ := zbind hf
      refine z_sB C hσ7 dX4_add_29 ?_
      refine z_aload_n C dX4_add_30 rfl 0 rfl ?_
      refine z_dup C dX4_add_31 rfl ?_
      obtain ⟨v8, hv8, hf⟩ := zbind hf
      refine gf_RX4_15 C hv8 dX4_add_32 ?_
      refine z_iconst C 1 dX4_add_35 (by decide) ?_
      refine z_iadd C dX4_add_36 ?_
      obtain ⟨σ9, hσ9, hf⟩ := zbind hf
      refine gp_RX4_15 C hσ9 dX4_add_37 ?_
      cases hf
      exact hq _ _ dX4_add_40

theorem mX4_add (l : Launch) (D : va_G) (Ca : Nat → ClassId) (B : Nat) (En : State → Prop) (hE : zEk B En) (σ : zS) (N : Nat) (x0 : Nat) (x1 : Int32) (X : zS) (hf : fX4_add σ x0 x1 = some X) : zMv l D Ca B En yX4_add cX4_add 2 (Option.none : Option Jvm.ClassFile.FieldType) 0 0 [.ref x0, .int x1] σ N X () :=
  zMet_v (own := RX4) hE (by decide +kernel) rfl (Nat.le_of_ble_eq_true rfl) (fun p e s m args below meth c C hr hRm => wfX4_add C hRm σ x0 x1 X hf (fun pc lv hd => zfin_v (r := ()) C hr hd))
theorem dX4_addNumber_0 : decode cX4_addNumber 0 = .ok (.iconst 1, 1) := by decide +kernel
theorem dX4_addNumber_1 : decode cX4_addNumber 1 = .ok (.istore_n 2, 1) := by decide +kernel
theorem dX4_addNumber_2 : decode cX4_addNumber 2 = .ok (.iconst 1, 1) := by decide +kernel
theorem dX4_addNumber_3 : decode cX4_addNumber 3 = .ok (.istore_n 3, 1) := by decide +kernel
theorem dX4_addNumber_4 : decode cX4_addNumber 4 = .ok (.iload_n 3, 1) := by decide +kernel
theorem dX4_addNumber_5 : decode cX4_addNumber 5 = .ok (.bipush 9, 2) := by decide +kernel
theorem dX4_addNumber_7 : decode cX4_addNumber 7 = .ok (.if_icmp .ge 22, 3) := by decide +kernel
theorem dX4_addNumber_10 : decode cX4_addNumber 10 = .ok (.iload_n 1, 1) := by decide +kernel
theorem dX4_addNumber_11 : decode cX4_addNumber 11 = .ok (.bipush 10, 2) := by decide +kernel
theorem dX4_addNumber_13 : decode cX4_addNumber 13 = .ok (.idiv, 1) := by decide +kernel
theorem dX4_addNumber_14 : decode cX4_addNumber 14 = .ok (.iload_n 2, 1) := by decide +kernel
theorem dX4_addNumber_15 : decode cX4_addNumber 15 = .ok (.if_icmp .lt 14, 3) := by decide +kernel
theorem dX4_addNumber_18 : decode cX4_addNumber 18 = .ok (.iload_n 2, 1) := by decide +kernel
theorem dX4_addNumber_19 : decode cX4_addNumber 19 = .ok (.bipush 10, 2) := by decide +kernel
theorem dX4_addNumber_21 : decode cX4_addNumber 21 = .ok (.imul, 1) := by decide +kernel
theorem dX4_addNumber_22 : decode cX4_addNumber 22 = .ok (.istore_n 2, 1) := by decide +kernel
theorem dX4_addNumber_23 : decode cX4_addNumber 23 = .ok (.iinc 3 1, 3) := by decide +kernel
theorem dX4_addNumber_26 : decode cX4_addNumber 26 = .ok (.goto (-22), 3) := by decide +kernel
theorem dX4_addNumber_29 : decode cX4_addNumber 29 = .ok (.iload_n 2, 1) := by decide +kernel
theorem dX4_addNumber_30 : decode cX4_addNumber 30 = .ok (.ifCond .le 24, 3) := by decide +kernel
theorem dX4_addNumber_33 : decode cX4_addNumber 33 = .ok (.aload_n 0, 1) := by decide +kernel
theorem dX4_addNumber_34 : decode cX4_addNumber 34 = .ok (.bipush 48, 2) := by decide +kernel
theorem dX4_addNumber_36 : decode cX4_addNumber 36 = .ok (.iload_n 1, 1) := by decide +kernel
theorem dX4_addNumber_37 : decode cX4_addNumber 37 = .ok (.iload_n 2, 1) := by decide +kernel
theorem dX4_addNumber_38 : decode cX4_addNumber 38 = .ok (.idiv, 1) := by decide +kernel
theorem dX4_addNumber_39 : decode cX4_addNumber 39 = .ok (.bipush 10, 2) := by decide +kernel
theorem dX4_addNumber_41 : decode cX4_addNumber 41 = .ok (.irem, 1) := by decide +kernel
theorem dX4_addNumber_42 : decode cX4_addNumber 42 = .ok (.iadd, 1) := by decide +kernel
theorem dX4_addNumber_43 : decode cX4_addNumber 43 = .ok (.invokevirtual 19, 3) := by decide +kernel
theorem dX4_addNumber_46 : decode cX4_addNumber 46 = .ok (.iload_n 2, 1) := by decide +kernel
theorem dX4_addNumber_47 : decode cX4_addNumber 47 = .ok (.bipush 10, 2) := by decide +kernel
theorem dX4_addNumber_49 : decode cX4_addNumber 49 = .ok (.idiv, 1) := by decide +kernel
theorem dX4_addNumber_50 : decode cX4_addNumber 50 = .ok (.istore_n 2, 1) := by decide +kernel
theorem dX4_addNumber_51 : decode cX4_addNumber 51 = .ok (.goto (-22), 3) := by decide +kernel
theorem dX4_addNumber_54 : decode cX4_addNumber 54 = .ok (.return_, 1) := by decide +kernel
theorem hyX4_addNumber : yX4_addNumber.cls ≠ "java/lang/invoke/MethodHandle" ∧ yX4_addNumber.cls ≠ "java/lang/invoke/VarHandle" ∧ (parseMethodDescriptor yX4_addNumber.desc).map (fun d => d.parameters.length) = some 1 := ⟨by decide +kernel, by decide +kernel, by decide +kernel⟩
def sX4_addNumber_4b (x0 : Nat) (x1 : Int32) (σ : zS) (u2 : Int32) (u3 : Int32) : Option ((zS × Int32 × Int32) ⊕ (zS × Int32)) :=
  (if 9 ≤ u3 then some (.inr (σ, u2)) else (if (x1 / 10) < u2 then some (.inr (σ, u2)) else some (.inl (σ, u2 * 10, u3 + 1))))
def sX4_addNumber_4 (x0 : Nat) (x1 : Int32) (z : (zS × Int32 × Int32)) : Option ((zS × Int32 × Int32) ⊕ (zS × Int32)) := sX4_addNumber_4b x0 x1 z.1 z.2.1 z.2.2
set_option maxRecDepth 100000 in
set_option maxHeartbeats 4000000 in
theorem wsX4_addNumber_4b (C : zC p s m args meth c cX4_addNumber RX4 4 D Ca B En) (hRm : zRm R 1 21 cells slots) (x0 : Nat) (x1 : Int32) (σ : zS) (u2 : Int32) (u3 : Int32) (y : (zS × Int32 × Int32) ⊕ (zS × Int32)) (hf : sX4_addNumber_4b x0 x1 σ u2 u3 = some y) (hk : (∀ z : (zS × Int32 × Int32), y = .inl z → zW p l e R s m args below meth c cells slots Q D Ca B 4 z.1 N 4 [(0, .ref x0), (1, .int x1), (2, .int z.2.1), (3, .int z.2.2)] []) ∧ (∀ z : (zS × Int32), y = .inr z → zW p l e R s m args below meth c cells slots Q D Ca B 4 z.1 N 29 [(0, .ref x0), (1, .int x1), (2, .int z.2)] [])) : zW p l e R s m args below meth c cells slots Q D Ca B 4 σ N 4 [(0, .ref x0), (1, .int x1), (2, .int u2), (3, .int u3)] [] := by
  unfold sX4_addNumber_4b at hf
  refine z_iload_n C dX4_addNumber_4 rfl 3 rfl ?_
  refine z_bipush C 9 dX4_addNumber_5 (by decide) ?_
  refine z_icmp_ge C 29 dX4_addNumber_7 (by decide) (fun q2 => ?_) (fun q2 => ?_)
  · rw [if_pos q2] at hf
    cases hf
    refine z_sub [0, 1, 2] rfl ?_
    exact hk.2 _ rfl
  · rw [if_neg q2] at hf
    refine z_iload_n C dX4_addNumber_10 rfl 1 rfl ?_
    refine z_bipush C 10 dX4_addNumber_11 (by decide) ?_
    refine z_idiv C dX4_addNumber_13 (by decide) ?_
    refine z_iload_n C dX4_addNumber_14 rfl 2 rfl ?_
    refine z_icmp_lt C 29 dX4_addNumber_15 (by decide) (fun q1 => ?_) (fun q1 => ?_)
    · rw [if_pos q1] at hf
      cases hf
      refine z_sub [0, 1, 2] rfl ?_
      exact hk.2 _ rfl
    · rw [if_neg q1] at hf
      refine z_iload_n C dX4_addNumber_18 rfl 2 rfl ?_
      refine z_bipush C 10 dX4_addNumber_19 (by decide) ?_
      refine z_imul C dX4_addNumber_21 ?_
      refine z_istore_n (lv2 := [(2, .int (u2 * 10)), (0, .ref x0), (1, .int x1), (3, .int u3)]) C dX4_addNumber_22 rfl (by decide) rfl ?_
      refine z_iinc (lv2 := [(3, .int (u3 + 1)), (2, .int (u2 * 10)), (0, .ref x0), (1, .int x1)]) C (u3 + 1) dX4_addNumber_23 3 rfl rfl (by decide) rfl ?_
      refine z_goto C 4 dX4_addNumber_26 (by decide) ?_
      cases hf
      refine z_sub [2, 3, 1, 0] rfl ?_
      exact hk.1 _ rfl

theorem wsX4_addNumber_4 (C : zC p s m args meth c cX4_addNumber RX4 4 D Ca B En) (hRm : zRm R 1 21 cells slots) (x0 : Nat) (x1 : Int32) (n : Nat) (z : (zS × Int32 × Int32)) (x : (zS × Int32)) (hf : zloop (sX4_addNumber_4 x0 x1) n z = some x) (hk : (∀ o : (zS × Int32), x = o → zW p l e R s m args below meth c cells slots Q D Ca B 4 o.1 N 29 [(0, .ref x0), (1, .int x1), (2, .int o.2)] [])) : zW p l e R s m args below meth c cells slots Q D Ca B 4 z.1 N 4 [(0, .ref x0), (1, .int x1), (2, .int z.2.1), (3, .int z.2.2)] [] := by
  refine zloop_W (P := fun z : (zS × Int32 × Int32) => zW p l e R s m args below meth c cells slots Q D Ca B 4 z.1 N 4 [(0, .ref x0), (1, .int x1), (2, .int z.2.1), (3, .int z.2.2)] []) (K := fun x : (zS × Int32) => (∀ o : (zS × Int32), x = o → zW p l e R s m args below meth c cells slots Q D Ca B 4 o.1 N 29 [(0, .ref x0), (1, .int x1), (2, .int o.2)] [])) ?_ n z x hf hk
  intro z y hy h1 h2
  refine wsX4_addNumber_4b C hRm x0 x1 z.1 z.2.1 z.2.2 y hy ⟨fun z2 e => h1 z2 e, fun o e => (h2 _ e) o rfl⟩
def sX4_addNumber_29b (x0 : Nat) (x1 : Int32) (σ : zS) (u2 : Int32) : Option ((zS × Int32) ⊕ zS) :=
  (if u2 ≤ 0 then some (.inr σ) else (znz u2).bind fun d4 => (zck 4 σ x0 (fX4_add σ x0 (48 + ((x1 / u2) - (x1 / u2) / 10 * 10)))).bind fun c5 => some (.inl (c5, u2 / 10)))
def sX4_addNumber_29 (x0 : Nat) (x1 : Int32) (z : (zS × Int32)) : Option ((zS × Int32) ⊕ zS) := sX4_addNumber_29b x0 x1 z.1 z.2
set_option maxRecDepth 100000 in
set_option maxHeartbeats 4000000 in
theorem wsX4_addNumber_29b (C : zC p s m args meth c cX4_addNumber RX4 4 D Ca B En) (hRm : zRm R 1 21 cells slots) (x0 : Nat) (x1 : Int32) (σ : zS) (u2 : Int32) (y : (zS × Int32) ⊕ zS) (hf : sX4_addNumber_29b x0 x1 σ u2 = some y) (hk : (∀ z : (zS × Int32), y = .inl z → zW p l e R s m args below meth c cells slots Q D Ca B 4 z.1 N 29 [(0, .ref x0), (1, .int x1), (2, .int z.2)] []) ∧ (∀ z : zS, y = .inr z → zW p l e R s m args below meth c cells slots Q D Ca B 4 z N 54 [] [])) : zW p l e R s m args below meth c cells slots Q D Ca B 4 σ N 29 [(0, .ref x0), (1, .int x1), (2, .int u2)] [] := by
  unfold sX4_addNumber_29b at hf
  refine z_iload_n C dX4_addNumber_29 rfl 2 rfl ?_
  refine z_if_le C 54 dX4_addNumber_30 (by decide) (fun q6 => ?_) (fun q6 => ?_)
  · rw [if_pos q6] at hf
    cases hf
    refine z_sub [] rfl ?_
    exact hk.2 _ rfl
  · rw [if_neg q6] at hf
    refine z_aload_n C dX4_addNumber_33 rfl 0 rfl ?_
    refine z_bipush C 48 dX4_addNumber_34 (by decide) ?_
    refine z_iload_n C dX4_addNumber_36 rfl 1 rfl ?_
    refine z_iload_n C dX4_addNumber_37 rfl 2 rfl ?_
    obtain ⟨d4, hd4, hf⟩ := zbind hf
    refine z_idiv C dX4_addNumber_38 (znz_ok hd4) ?_
    refine z_bipush C 10 dX4_addNumber_39 (by decide) ?_
    refine z_irem C dX4_addNumber_41 (by decide) ?_
    refine z_iadd C dX4_addNumber_42 ?_
    obtain ⟨c5, hc5, hf⟩ := zbind hf
    obtain ⟨kc5, hc5⟩ := zck_ok hc5
    refine z_callVv (As := [.int (48 + ((x1 / u2) - (x1 / u2) / 10 * 10))]) (F0 := 1) (L0 := 21) C (mX4_add l D Ca B En C.2.2.2.2.2.2.2.1 σ N x0 (48 + ((x1 / u2) - (x1 / u2) / 10 * 10)) _ hc5) hRm kc5 rfl kw_1232 kw_4 kw_1237 kw_1230 kw_1231 hyX4_add (Nat.le_of_ble_eq_true rfl) (Nat.le_of_ble_eq_true rfl) rfl rfl (Nat.le_of_ble_eq_true rfl) dX4_addNumber_43 ?_
    refine z_iload_n C dX4_addNumber_46 rfl 2 rfl ?_
    refine z_bipush C 10 dX4_addNumber_47 (by decide) ?_
    refine z_idiv C dX4_addNumber_49 (by decide) ?_
    refine z_istore_n (lv2 := [(2, .int (u2 / 10)), (0, .ref x0), (1, .int x1)]) C dX4_addNumber_50 rfl (by decide) rfl ?_
    refine z_goto C 29 dX4_addNumber_51 (by decide) ?_
    cases hf
    refine z_sub [1, 2, 0] rfl ?_
    exact hk.1 _ rfl

theorem wsX4_addNumber_29 (C : zC p s m args meth c cX4_addNumber RX4 4 D Ca B En) (hRm : zRm R 1 21 cells slots) (x0 : Nat) (x1 : Int32) (n : Nat) (z : (zS × Int32)) (x : zS) (hf : zloop (sX4_addNumber_29 x0 x1) n z = some x) (hk : (∀ o : zS, x = o → zW p l e R s m args below meth c cells slots Q D Ca B 4 o N 54 [] [])) : zW p l e R s m args below meth c cells slots Q D Ca B 4 z.1 N 29 [(0, .ref x0), (1, .int x1), (2, .int z.2)] [] := by
  refine zloop_W (P := fun z : (zS × Int32) => zW p l e R s m args below meth c cells slots Q D Ca B 4 z.1 N 29 [(0, .ref x0), (1, .int x1), (2, .int z.2)] []) (K := fun x : zS => (∀ o : zS, x = o → zW p l e R s m args below meth c cells slots Q D Ca B 4 o N 54 [] [])) ?_ n z x hf hk
  intro z y hy h1 h2
  refine wsX4_addNumber_29b C hRm x0 x1 z.1 z.2 y hy ⟨fun z2 e => h1 z2 e, fun o e => (h2 _ e) o rfl⟩
def jX4_addNumber_29 (σ : zS) (x0 : Nat) (x1 : Int32) (x2 : Int32)  : Option zS :=
  (zloop (sX4_addNumber_29 x0 x1) zfuel (σ, x2)).bind fun o7 => some o7
set_option maxRecDepth 100000 in
set_option maxHeartbeats 4000000 in
theorem wjX4_addNumber_29 (C : zC p s m args meth c cX4_addNumber RX4 4 D Ca B En) (hRm : zRm R 1 21 cells slots) (σ : zS) (x0 : Nat) (x1 : Int32) (x2 : Int32)  (τ : zS) (hf : jX4_addNumber_29 σ x0 x1 x2  = some τ) (hq : ∀ (pc : Nat) (lv : List (Nat × Value)), decode cX4_addNumber pc = .ok (.return_, 1) → zW p l e R s m args below meth c cells slots Q D Ca B 4 τ N pc lv []) : zW p l e R s m args below meth c cells slots Q D Ca B 4 σ N 29 [(0, .ref x0), (1, .int x1), (2, .int x2)] [] := by
  unfold jX4_addNumber_29 at hf
  obtain ⟨o7, ho7, hf⟩ := zbind hf
  refine z_sub [0, 1, 2] rfl ?_
  refine wsX4_addNumber_29 C hRm _ _ zfuel (σ, x2) o7 ho7 ?_
  intro z9 e9
  subst e9
  cases hf
  exact hq _ _ dX4_addNumber_54

def fX4_addNumber (σ : zS) (x0 : Nat) (x1 : Int32) : Option zS :=
  (zloop (sX4_addNumber_4 x0 x1) zfuel (σ, 1, 1)).bind fun o3 => jX4_addNumber_29 o3.1 x0 x1 o3.2
set_option maxRecDepth 100000 in
set_option maxHeartbeats 4000000 in
theorem wfX4_addNumber (C : zC p s m args meth c cX4_addNumber RX4 4 D Ca B En) (hRm : zRm R 1 21 cells slots) (σ : zS) (x0 : Nat) (x1 : Int32) (τ : zS) (hf : fX4_addNumber σ x0 x1 = some τ) (hq : ∀ (pc : Nat) (lv : List (Nat × Value)), decode cX4_addNumber pc = .ok (.return_, 1) → zW p l e R s m args below meth c cells slots Q D Ca B 4 τ N pc lv []) : zW p l e R s m args below meth c cells slots Q D Ca B 4 σ N 0 [(0, .ref x0), (1, .int x1)] [] := by
  unfold fX4_addNumber at hf
  refine z_iconst C 1 dX4_addNumber_0 (by decide) ?_
  refine z_istore_n (lv2 := [(2, .int 1), (0, .ref x0), (1, .int x1)]) C dX4_addNumber_1 rfl (by decide) rfl ?_
  refine z_iconst C 1 dX4_addNumber_2 (by decide) ?_
  refine z_istore_n (lv2 := [(3, .int 1), (2, .int 1), (0, .ref x0), (1, .int x1)]) C dX4_addNumber_3 rfl (by decide) rfl ?_
  obtain ⟨o3, ho3, hf⟩ := zbind hf
  refine z_sub [2, 3, 1, 0] rfl ?_
  refine wsX4_addNumber_4 C hRm _ _ zfuel (σ, 1, 1) o3 ho3 ?_
  intro z9 e9
  subst e9
  refine z_sub [0, 1, 2] rfl ?_
  exact wjX4_addNumber_29 C hRm _ _ _ _  _ hf hq

theorem mX4_addNumber (l : Launch) (D : va_G) (Ca : Nat → ClassId) (B : Nat) (En : State → Prop) (hE : zEk B En) (σ : zS) (N : Nat) (x0 : Nat) (x1 : Int32) (X : zS) (hf : fX4_addNumber σ x0 x1 = some X) : zMv l D Ca B En yX4_addNumber cX4_addNumber 4 (Option.none : Option Jvm.ClassFile.FieldType) 1 21 [.ref x0, .int x1] σ N X () :=
  zMet_v (own := RX4) hE (by decide +kernel) rfl (Nat.le_of_ble_eq_true rfl) (fun p e s m args below meth c C hr hRm => wfX4_addNumber C hRm σ x0 x1 X hf (fun pc lv hd => zfin_v (r := ()) C hr hd))
theorem dX7_clear_0 : decode cX7_clear 0 = .ok (.aload_n 0, 1) := by decide +kernel
theorem dX7_clear_1 : decode cX7_clear 1 = .ok (.iconst 0, 1) := by decide +kernel
theorem dX7_clear_2 : decode cX7_clear 2 = .ok (.putfield 40, 3) := by decide +kernel
theorem dX7_clear_5 : decode cX7_clear 5 = .ok (.aload_n 0, 1) := by decide +kernel
theorem dX7_clear_6 : decode cX7_clear 6 = .ok (.getfield 9, 3) := by decide +kernel
theorem dX7_clear_9 : decode cX7_clear 9 = .ok (.iconst 0, 1) := by decide +kernel
theorem dX7_clear_10 : decode cX7_clear 10 = .ok (.invokestatic 44, 3) := by decide +kernel
theorem dX7_clear_13 : decode cX7_clear 13 = .ok (.aload_n 0, 1) := by decide +kernel
theorem dX7_clear_14 : decode cX7_clear 14 = .ok (.getfield 15, 3) := by decide +kernel
theorem dX7_clear_17 : decode cX7_clear 17 = .ok (.iconst 0, 1) := by decide +kernel
theorem dX7_clear_18 : decode cX7_clear 18 = .ok (.invokestatic 44, 3) := by decide +kernel
theorem dX7_clear_21 : decode cX7_clear 21 = .ok (.aload_n 0, 1) := by decide +kernel
theorem dX7_clear_22 : decode cX7_clear 22 = .ok (.getfield 18, 3) := by decide +kernel
theorem dX7_clear_25 : decode cX7_clear 25 = .ok (.iconst 0, 1) := by decide +kernel
theorem dX7_clear_26 : decode cX7_clear 26 = .ok (.invokestatic 44, 3) := by decide +kernel
theorem dX7_clear_29 : decode cX7_clear 29 = .ok (.aload_n 0, 1) := by decide +kernel
theorem dX7_clear_30 : decode cX7_clear 30 = .ok (.getfield 28, 3) := by decide +kernel
theorem dX7_clear_33 : decode cX7_clear 33 = .ok (.iconst (-1), 1) := by decide +kernel
theorem dX7_clear_34 : decode cX7_clear 34 = .ok (.invokestatic 44, 3) := by decide +kernel
theorem dX7_clear_37 : decode cX7_clear 37 = .ok (.return_, 1) := by decide +kernel
theorem hyX7_clear : yX7_clear.cls ≠ "java/lang/invoke/MethodHandle" ∧ yX7_clear.cls ≠ "java/lang/invoke/VarHandle" ∧ (parseMethodDescriptor yX7_clear.desc).map (fun d => d.parameters.length) = some 0 := ⟨by decide +kernel, by decide +kernel, by decide +kernel⟩
def fX7_clear (σ : zS) (x0 : Nat) : Option zS :=
  (zpI 7 0 σ x0 0).bind fun σ1 => (zgR 7 2 σ1 x0).bind fun v2 => (fX9_fillRow σ1 v2 0).bind fun c3 => (zgR 7 3 c3 x0).bind fun v4 => (fX9_fillRow c3 v4 0).bind fun c5 => (zgR 7 4 c5 x0).bind fun v6 => (fX9_fillRow c5 v6 0).bind fun c7 => (zgR 7 7 c7 x0).bind fun v8 => (fX9_fillRow c7 v8 ((-1))).bind fun c9 => some c9
set_option maxRecDepth 100000 in
set_option maxHeartbeats 4000000 in
theorem wfX7_clear (C : zC p s m args meth c cX7_clear RX7 1 D Ca B En) (hRm : zRm R 1 22 cells slots) (σ : zS) (x0 : Nat) (τ : zS) (hf : fX7_clear σ x0 = some τ) (hq : ∀ (pc : Nat) (lv : List (Nat × Value)), decode cX7_clear pc = .ok (.return_, 1) → zW p l e R s m args below meth c cells slots Q D Ca B 1 τ N pc lv []) : zW p l e R s m args below meth c cells slots Q D Ca B 1 σ N 0 [(0, .ref x0)] [] := by
  unfold fX7_clear at hf
  refine z_aload_n C dX7_clear_0 rfl 0 rfl ?_
  refine z_iconst C 0 dX7_clear_1 (by decide) ?_
  obtain ⟨σ1, hσ1, hf⟩ := zbind hf
  refine gp_RX7_40 C hσ1 dX7_clear_2 ?_
  refine z_aload_n C dX7_clear_5 rfl 0 rfl ?_
  obtain ⟨v2, hv2, hf⟩ := zbind hf
  refine gf_RX7_9 C hv2 dX7_clear_6 ?_
  refine z_iconst C 0 dX7_clear_9 (by decide) ?_
  obtain ⟨c3, hc3, hf⟩ := zbind hf
  refine z_callSNv (host := "BarrierFlow") (As := [.ref v2, .int 0]) (F0 := 1) (L0 := 22) C (mX9_fillRow l D Ca B En C.2.2.2.2.2.2.2.1 σ1 N v2 0 _ hc3) hRm kw_167 kw_1 (by decide) kw_166 hyX9_fillRow (Nat.le_of_ble_eq_true rfl) (Nat.le_of_ble_eq_true rfl) rfl rfl (Nat.le_of_ble_eq_true rfl) dX7_clear_10 ?_
  refine z_aload_n C dX7_clear_13 rfl 0 rfl ?_
  obtain ⟨v4, hv4, hf⟩ := zbind hf
  refine gf_RX7_15 C hv4 dX7_clear_14 ?_
  refine z_iconst C 0 dX7_clear_17 (by decide) ?_
  obtain ⟨c5, hc5, hf⟩ := zbind hf
  refine z_callSNv (host := "BarrierFlow") (As := [.ref v4, .int 0]) (F0 := 1) (L0 := 22) C (mX9_fillRow l D Ca B En C.2.2.2.2.2.2.2.1 c3 N v4 0 _ hc5) hRm kw_167 kw_1 (by decide) kw_166 hyX9_fillRow (Nat.le_of_ble_eq_true rfl) (Nat.le_of_ble_eq_true rfl) rfl rfl (Nat.le_of_ble_eq_true rfl) dX7_clear_18 ?_
  refine z_aload_n C dX7_clear_21 rfl 0 rfl ?_
  obtain ⟨v6, hv6, hf⟩ := zbind hf
  refine gf_RX7_18 C hv6 dX7_clear_22 ?_
  refine z_iconst C 0 dX7_clear_25 (by decide) ?_
  obtain ⟨c7, hc7, hf⟩ := zbind hf
  refine z_callSNv (host := "BarrierFlow") (As := [.ref v6, .int 0]) (F0 := 1) (L0 := 22) C (mX9_fillRow l D Ca B En C.2.2.2.2.2.2.2.1 c5 N v6 0 _ hc7) hRm kw_167 kw_1 (by decide) kw_166 hyX9_fillRow (Nat.le_of_ble_eq_true rfl) (Nat.le_of_ble_eq_true rfl) rfl rfl (Nat.le_of_ble_eq_true rfl) dX7_clear_26 ?_
  refine z_aload_n C dX7_clear_29 rfl 0 rfl ?_
  obtain ⟨v8, hv8, hf⟩ := zbind hf
  refine gf_RX7_28 C hv8 dX7_clear_30 ?_
  refine z_iconst C (-1) dX7_clear_33 (by decide) ?_
  obtain ⟨c9, hc9, hf⟩ := zbind hf
  refine z_callSNv (host := "BarrierFlow") (As := [.ref v8, .int ((-1))]) (F0 := 1) (L0 := 22) C (mX9_fillRow l D Ca B En C.2.2.2.2.2.2.2.1 c7 N v8 ((-1)) _ hc9) hRm kw_167 kw_1 (by decide) kw_166 hyX9_fillRow (Nat.le_of_ble_eq_true rfl) (Nat.le_of_ble_eq_true rfl) rfl rfl (Nat.le_of_ble_eq_true rfl) dX7_clear_34 ?_
  cases hf
  exact hq _ _ dX7_clear_37

theorem mX7_clear (l : Launch) (D : va_G) (Ca : Nat → ClassId) (B : Nat) (En : State → Prop) (hE : zEk B En) (σ : zS) (N : Nat) (x0 : Nat) (X : zS) (hf : fX7_clear σ x0 = some X) : zMv l D Ca B En yX7_clear cX7_clear 1 (Option.none : Option Jvm.ClassFile.FieldType) 1 22 [.ref x0] σ N X () :=
  zMet_v (own := RX7) hE (by decide +kernel) rfl (Nat.le_of_ble_eq_true rfl) (fun p e s m args below meth c C hr hRm => wfX7_clear C hRm σ x0 X hf (fun pc lv hd => zfin_v (r := ()) C hr hd))
theorem dX5_kindAt_0 : decode cX5_kindAt 0 = .ok (.iload_n 1, 1) := by decide +kernel
theorem dX5_kindAt_1 : decode cX5_kindAt 1 = .ok (.aload_n 0, 1) := by decide +kernel
theorem dX5_kindAt_2 : decode cX5_kindAt 2 = .ok (.getfield 15, 3) := by decide +kernel
theorem dX5_kindAt_5 : decode cX5_kindAt 5 = .ok (.getfield 162, 3) := by decide +kernel
theorem dX5_kindAt_8 : decode cX5_kindAt 8 = .ok (.if_icmp .lt 5, 3) := by decide +kernel
theorem dX5_kindAt_11 : decode cX5_kindAt 11 = .ok (.iconst 0, 1) := by decide +kernel
theorem dX5_kindAt_12 : decode cX5_kindAt 12 = .ok (.ireturn, 1) := by decide +kernel
theorem dX5_kindAt_13 : decode cX5_kindAt 13 = .ok (.aload_n 0, 1) := by decide +kernel
theorem dX5_kindAt_14 : decode cX5_kindAt 14 = .ok (.getfield 15, 3) := by decide +kernel
theorem dX5_kindAt_17 : decode cX5_kindAt 17 = .ok (.iload_n 1, 1) := by decide +kernel
theorem dX5_kindAt_18 : decode cX5_kindAt 18 = .ok (.invokevirtual 131, 3) := by decide +kernel
theorem dX5_kindAt_21 : decode cX5_kindAt 21 = .ok (.istore_n 2, 1) := by decide +kernel
theorem dX5_kindAt_22 : decode cX5_kindAt 22 = .ok (.iload_n 2, 1) := by decide +kernel
theorem dX5_kindAt_23 : decode cX5_kindAt 23 = .ok (.bipush 97, 2) := by decide +kernel
theorem dX5_kindAt_25 : decode cX5_kindAt 25 = .ok (.if_icmp .lt 11, 3) := by decide +kernel
theorem dX5_kindAt_28 : decode cX5_kindAt 28 = .ok (.iload_n 2, 1) := by decide +kernel
theorem dX5_kindAt_29 : decode cX5_kindAt 29 = .ok (.bipush 122, 2) := by decide +kernel
theorem dX5_kindAt_31 : decode cX5_kindAt 31 = .ok (.if_icmp .gt 5, 3) := by decide +kernel
theorem dX5_kindAt_34 : decode cX5_kindAt 34 = .ok (.iconst 1, 1) := by decide +kernel
theorem dX5_kindAt_35 : decode cX5_kindAt 35 = .ok (.ireturn, 1) := by decide +kernel
theorem dX5_kindAt_36 : decode cX5_kindAt 36 = .ok (.iload_n 2, 1) := by decide +kernel
theorem dX5_kindAt_37 : decode cX5_kindAt 37 = .ok (.bipush 48, 2) := by decide +kernel
theorem dX5_kindAt_39 : decode cX5_kindAt 39 = .ok (.if_icmp .lt 11, 3) := by decide +kernel
theorem dX5_kindAt_42 : decode cX5_kindAt 42 = .ok (.iload_n 2, 1) := by decide +kernel
theorem dX5_kindAt_43 : decode cX5_kindAt 43 = .ok (.bipush 57, 2) := by decide +kernel
theorem dX5_kindAt_45 : decode cX5_kindAt 45 = .ok (.if_icmp .gt 5, 3) := by decide +kernel
theorem dX5_kindAt_48 : decode cX5_kindAt 48 = .ok (.iconst 2, 1) := by decide +kernel
theorem dX5_kindAt_49 : decode cX5_kindAt 49 = .ok (.ireturn, 1) := by decide +kernel
theorem dX5_kindAt_50 : decode cX5_kindAt 50 = .ok (.iload_n 2, 1) := by decide +kernel
theorem dX5_kindAt_51 : decode cX5_kindAt 51 = .ok (.bipush 59, 2) := by decide +kernel
theorem dX5_kindAt_53 : decode cX5_kindAt 53 = .ok (.if_icmp .ne 7, 3) := by decide +kernel
theorem dX5_kindAt_56 : decode cX5_kindAt 56 = .ok (.iconst 3, 1) := by decide +kernel
theorem dX5_kindAt_57 : decode cX5_kindAt 57 = .ok (.goto 4, 3) := by decide +kernel
theorem dX5_kindAt_60 : decode cX5_kindAt 60 = .ok (.iconst 4, 1) := by decide +kernel
theorem dX5_kindAt_61 : decode cX5_kindAt 61 = .ok (.ireturn, 1) := by decide +kernel
theorem hyX5_kindAt : yX5_kindAt.cls ≠ "java/lang/invoke/MethodHandle" ∧ yX5_kindAt.cls ≠ "java/lang/invoke/VarHandle" ∧ (parseMethodDescriptor yX5_kindAt.desc).map (fun d => d.parameters.length) = some 1 := ⟨by decide +kernel, by decide +kernel, by decide +kernel⟩
def jX5_kindAt_50 (σ : zS) (x2 : Int32)  : Option (zS × Int32) :=
  (if x2 = 59 then some (σ, 3) else some (σ, 4))
set_option maxRecDepth 100000 in
set_option maxHeartbeats 4000000 in
theorem wjX5_kindAt_50 (C : zC p s m args meth c cX5_kindAt RX5 3 D Ca B En) (hRm : zRm R 1 21 cells slots) (σ : zS) (x2 : Int32)  (τ : zS) (r : Int32) (hf : jX5_kindAt_50 σ x2  = some (τ, r)) (hq : ∀ (pc : Nat) (lv : List (Nat × Value)), decode cX5_kindAt pc = .ok (.ireturn, 1) → zW p l e R s m args below meth c cells slots Q D Ca B 3 τ N pc lv [.int r]) : zW p l e R s m args below meth c cells slots Q D Ca B 3 σ N 50 [(2, .int x2)] [] := by
  unfold jX5_kindAt_50 at hf
  refine z_iload_n C dX5_kindAt_50 rfl 0 rfl ?_
  refine z_bipush C 59 dX5_kindAt_51 (by decide) ?_
  refine z_icmp_ne C 60 dX5_kindAt_53 (by decide) (fun q5 => ?_) (fun q5 => ?_)
  · rw [if_neg q5] at hf
    refine z_iconst C 4 dX5_kindAt_60 (by decide) ?_
    cases hf
    exact hq _ _ dX5_kindAt_61
  · rw [if_pos q5] at hf
    refine z_iconst C 3 dX5_kindAt_56 (by decide) ?_
    refine z_goto C 61 dX5_kindAt_57 (by decide) ?_
    cases hf
    exact hq _ _ dX5_kindAt_61

def jX5_kindAt_36 (σ : zS) (x2 : Int32)  : Option (zS × Int32) :=
  (if x2 < 48 then jX5_kindAt_50 σ x2 else (if 57 < x2 then jX5_kindAt_50 σ x2 else some (σ, 2)))
set_option maxRecDepth 100000 in
set_option maxHeartbeats 4000000 in
theorem wjX5_kindAt_36 (C : zC p s m args meth c cX5_kindAt RX5 3 D Ca B En) (hRm : zRm R 1 21 cells slots) (σ : zS) (x2 : Int32)  (τ : zS) (r : Int32) (hf : jX5_kindAt_36 σ x2  = some (τ, r)) (hq : ∀ (pc : Nat) (lv : List (Nat × Value)), decode cX5_kindAt pc = .ok (.ireturn, 1) → zW p l e R s m args below meth c cells slots Q D Ca B 3 τ N pc lv [.int r]) : zW p l e R s m args below meth c cells slots Q D Ca B 3 σ N 36 [(2, .int x2)] [] := by
  unfold jX5_kindAt_36 at hf
  refine z_iload_n C dX5_kindAt_36 rfl 0 rfl ?_
  refine z_bipush C 48 dX5_kindAt_37 (by decide) ?_
  refine z_icmp_lt C 50 dX5_kindAt_39 (by decide) (fun q7 => ?_) (fun q7 => ?_)
  · rw [if_pos q7] at hf
    refine z_sub [0] rfl ?_
    exact wjX5_kindAt_50 C hRm _ _  _ _ hf hq
  · rw [if_neg q7] at hf
    refine z_iload_n C dX5_kindAt_42 rfl 0 rfl ?_
    refine z_bipush C 57 dX5_kindAt_43 (by decide) ?_
    refine z_icmp_gt C 50 dX5_kindAt_45 (by decide) (fun q6 => ?_) (fun q6 => ?_)
    · rw [if_pos q6] at hf
      refine z_sub [0] rfl ?_
      exact wjX5_kindAt_50 C hRm _ _  _ _ hf hq
    · rw [if_neg q6] at hf
      refine z_iconst C 2 dX5_kindAt_48 (by decide) ?_
      cases hf
      exact hq _ _ dX5_kindAt_49

def fX5_kindAt (σ : zS) (x0 : Nat) (x1 : Int32) : Option (zS × Int32) :=
  (zgR 5 2 σ x0).bind fun v1 => (zgI 2 1 σ v1).bind fun v2 => (if x1 < v2 then (zgR 5 2 σ x0).bind fun v3 => (zck 2 σ v3 (fX2_byteAt σ v3 x1)).bind fun c4 => (if c4.2 < 97 then jX5_kindAt_36 c4.1 c4.2 else (if 122 < c4.2 then jX5_kindAt_36 c4.1 c4.2 else some (c4.1, 1))) else some (σ, 0))
set_option maxRecDepth 100000 in
set_option maxHeartbeats 4000000 in
theorem wfX5_kindAt (C : zC p s m args meth c cX5_kindAt RX5 3 D Ca B En) (hRm : zRm R 1 21 cells slots) (σ : zS) (x0 : Nat) (x1 : Int32) (τ : zS) (r : Int32) (hf : fX5_kindAt σ x0 x1 = some (τ, r)) (hq : ∀ (pc : Nat) (lv : List (Nat × Value)), decode cX5_kindAt pc = .ok (.ireturn, 1) → zW p l e R s m args below meth c cells slots Q D Ca B 3 τ N pc lv [.int r]) : zW p l e R s m args below meth c cells slots Q D Ca B 3 σ N 0 [(0, .ref x0), (1, .int x1)] [] := by
  unfold fX5_kindAt at hf
  refine z_iload_n C dX5_kindAt_0 rfl 1 rfl ?_
  refine z_aload_n C dX5_kindAt_1 rfl 0 rfl ?_
  obtain ⟨v1, hv1, hf⟩ := zbind hf
  refine gf_RX5_15 C hv1 dX5_kindAt_2 ?_
  obtain ⟨v2, hv2, hf⟩ := zbind hf
  refine gf_RX5_162 C hv2 dX5_kindAt_5 ?_
  refine z_icmp_lt C 13 dX5_kindAt_8 (by decide) (fun q10 => ?_) (fun q10 => ?_)
  · rw [if_pos q10] at hf
    refine z_aload_n C dX5_kindAt_13 rfl 0 rfl ?_
    obtain ⟨v3, hv3, hf⟩ := zbind hf
    refine gf_RX5_15 C hv3 dX5_kindAt_14 ?_
    refine z_iload_n C dX5_kindAt_17 rfl 1 rfl ?_
    obtain ⟨c4, hc4, hf⟩ := zbind hf
    obtain ⟨kc4, hc4⟩ := zck_ok hc4
    refine z_callVi (As := [.int x1]) (F0 := 1) (L0 := 21) C (mX2_byteAt l D Ca B En C.2.2.2.2.2.2.2.1 σ N v3 x1 _ hc4) hRm kc4 rfl kw_512 kw_2 kw_509 kw_510 kw_511 hyX2_byteAt (Nat.le_of_ble_eq_true rfl) (Nat.le_of_ble_eq_true rfl) rfl rfl (Nat.le_of_ble_eq_true rfl) dX5_kindAt_18 ?_
    refine z_istore_n (lv2 := [(2, .int c4.2), (0, .ref x0), (1, .int x1)]) C dX5_kindAt_21 rfl (by decide) rfl ?_
    refine z_iload_n C dX5_kindAt_22 rfl 0 rfl ?_
    refine z_bipush C 97 dX5_kindAt_23 (by decide) ?_
    refine z_icmp_lt C 36 dX5_kindAt_25 (by decide) (fun q9 => ?_) (fun q9 => ?_)
    · rw [if_pos q9] at hf
      refine z_sub [0] rfl ?_
      exact wjX5_kindAt_36 C hRm _ _  _ _ hf hq
    · rw [if_neg q9] at hf
      refine z_iload_n C dX5_kindAt_28 rfl 0 rfl ?_
      refine z_bipush C 122 dX5_kindAt_29 (by decide) ?_
      refine z_icmp_gt C 36 dX5_kindAt_31 (by decide) (fun q8 => ?_) (fun q8 => ?_)
      · rw [if_pos q8] at hf
        refine z_sub [0] rfl ?_
        exact wjX5_kindAt_36 C hRm _ _  _ _ hf hq
      · rw [if_neg q8] at hf
        refine z_iconst C 1 dX5_kindAt_34 (by decide) ?_
        cases hf
        exact hq _ _ dX5_kindAt_35
  · rw [if_neg q10] at hf
    refine z_iconst C 0 dX5_kindAt_11 (by decide) ?_
    cases hf
    exact hq _ _ dX5_kindAt_12

theorem mX5_kindAt (l : Launch) (D : va_G) (Ca : Nat → ClassId) (B : Nat) (En : State → Prop) (hE : zEk B En) (σ : zS) (N : Nat) (x0 : Nat) (x1 : Int32) (X : zS × Int32) (hf : fX5_kindAt σ x0 x1 = some X) : zMi l D Ca B En yX5_kindAt cX5_kindAt 3 (Option.some Jvm.ClassFile.FieldType.int) 1 21 [.ref x0, .int x1] σ N X.1 X.2 :=
  zMet_i (own := RX5) hE (by decide +kernel) rfl (Nat.le_of_ble_eq_true rfl) (fun p e s m args below meth c C hr hRm => wfX5_kindAt C hRm σ x0 x1 X.1 X.2 hf (fun pc lv hd => zfin_i C hr hd))
theorem dX5_advance_0 : decode cX5_advance 0 = .ok (.aload_n 0, 1) := by decide +kernel
theorem dX5_advance_1 : decode cX5_advance 1 = .ok (.aload_n 0, 1) := by decide +kernel
theorem dX5_advance_2 : decode cX5_advance 2 = .ok (.getfield 31, 3) := by decide +kernel
theorem dX5_advance_5 : decode cX5_advance 5 = .ok (.putfield 114, 3) := by decide +kernel
theorem dX5_advance_8 : decode cX5_advance 8 = .ok (.aload_n 0, 1) := by decide +kernel
theorem dX5_advance_9 : decode cX5_advance 9 = .ok (.getfield 114, 3) := by decide +kernel
theorem dX5_advance_12 : decode cX5_advance 12 = .ok (.aload_n 0, 1) := by decide +kernel
theorem dX5_advance_13 : decode cX5_advance 13 = .ok (.getfield 15, 3) := by decide +kernel
theorem dX5_advance_16 : decode cX5_advance 16 = .ok (.getfield 162, 3) := by decide +kernel
theorem dX5_advance_19 : decode cX5_advance 19 = .ok (.if_icmp .ge 48, 3) := by decide +kernel
theorem dX5_advance_22 : decode cX5_advance 22 = .ok (.aload_n 0, 1) := by decide +kernel
theorem dX5_advance_23 : decode cX5_advance 23 = .ok (.getfield 15, 3) := by decide +kernel
theorem dX5_advance_26 : decode cX5_advance 26 = .ok (.aload_n 0, 1) := by decide +kernel
theorem dX5_advance_27 : decode cX5_advance 27 = .ok (.getfield 114, 3) := by decide +kernel
theorem dX5_advance_30 : decode cX5_advance 30 = .ok (.invokevirtual 131, 3) := by decide +kernel
theorem dX5_advance_33 : decode cX5_advance 33 = .ok (.bipush 32, 2) := by decide +kernel
theorem dX5_advance_35 : decode cX5_advance 35 = .ok (.if_icmp .eq 19, 3) := by decide +kernel
theorem dX5_advance_38 : decode cX5_advance 38 = .ok (.aload_n 0, 1) := by decide +kernel
theorem dX5_advance_39 : decode cX5_advance 39 = .ok (.getfield 15, 3) := by decide +kernel
theorem dX5_advance_42 : decode cX5_advance 42 = .ok (.aload_n 0, 1) := by decide +kernel
theorem dX5_advance_43 : decode cX5_advance 43 = .ok (.getfield 114, 3) := by decide +kernel
theorem dX5_advance_46 : decode cX5_advance 46 = .ok (.invokevirtual 131, 3) := by decide +kernel
theorem dX5_advance_49 : decode cX5_advance 49 = .ok (.bipush 10, 2) := by decide +kernel
theorem dX5_advance_51 : decode cX5_advance 51 = .ok (.if_icmp .ne 16, 3) := by decide +kernel
theorem dX5_advance_54 : decode cX5_advance 54 = .ok (.aload_n 0, 1) := by decide +kernel
theorem dX5_advance_55 : decode cX5_advance 55 = .ok (.dup, 1) := by decide +kernel
theorem dX5_advance_56 : decode cX5_advance 56 = .ok (.getfield 114, 3) := by decide +kernel
theorem dX5_advance_59 : decode cX5_advance 59 = .ok (.iconst 1, 1) := by decide +kernel
theorem dX5_advance_60 : decode cX5_advance 60 = .ok (.iadd, 1) := by decide +kernel
theorem dX5_advance_61 : decode cX5_advance 61 = .ok (.putfield 114, 3) := by decide +kernel
theorem dX5_advance_64 : decode cX5_advance 64 = .ok (.goto (-56), 3) := by decide +kernel
theorem dX5_advance_67 : decode cX5_advance 67 = .ok (.aload_n 0, 1) := by decide +kernel
theorem dX5_advance_68 : decode cX5_advance 68 = .ok (.aload_n 0, 1) := by decide +kernel
theorem dX5_advance_69 : decode cX5_advance 69 = .ok (.aload_n 0, 1) := by decide +kernel
theorem dX5_advance_70 : decode cX5_advance 70 = .ok (.getfield 114, 3) := by decide +kernel
theorem dX5_advance_73 : decode cX5_advance 73 = .ok (.invokevirtual 164, 3) := by decide +kernel
theorem dX5_advance_76 : decode cX5_advance 76 = .ok (.putfield 37, 3) := by decide +kernel
theorem dX5_advance_79 : decode cX5_advance 79 = .ok (.aload_n 0, 1) := by decide +kernel
theorem dX5_advance_80 : decode cX5_advance 80 = .ok (.aload_n 0, 1) := by decide +kernel
theorem dX5_advance_81 : decode cX5_advance 81 = .ok (.getfield 114, 3) := by decide +kernel
theorem dX5_advance_84 : decode cX5_advance 84 = .ok (.putfield 31, 3) := by decide +kernel
theorem dX5_advance_87 : decode cX5_advance 87 = .ok (.aload_n 0, 1) := by decide +kernel
theorem dX5_advance_88 : decode cX5_advance 88 = .ok (.getfield 37, 3) := by decide +kernel
theorem dX5_advance_91 : decode cX5_advance 91 = .ok (.ifCond .ne 4, 3) := by decide +kernel
theorem dX5_advance_94 : decode cX5_advance 94 = .ok (.return_, 1) := by decide +kernel
theorem dX5_advance_95 : decode cX5_advance 95 = .ok (.aload_n 0, 1) := by decide +kernel
theorem dX5_advance_96 : decode cX5_advance 96 = .ok (.dup, 1) := by decide +kernel
theorem dX5_advance_97 : decode cX5_advance 97 = .ok (.getfield 31, 3) := by decide +kernel
theorem dX5_advance_100 : decode cX5_advance 100 = .ok (.iconst 1, 1) := by decide +kernel
theorem dX5_advance_101 : decode cX5_advance 101 = .ok (.iadd, 1) := by decide +kernel
theorem dX5_advance_102 : decode cX5_advance 102 = .ok (.putfield 31, 3) := by decide +kernel
theorem dX5_advance_105 : decode cX5_advance 105 = .ok (.aload_n 0, 1) := by decide +kernel
theorem dX5_advance_106 : decode cX5_advance 106 = .ok (.getfield 37, 3) := by decide +kernel
theorem dX5_advance_109 : decode cX5_advance 109 = .ok (.iconst 1, 1) := by decide +kernel
theorem dX5_advance_110 : decode cX5_advance 110 = .ok (.if_icmp .eq 11, 3) := by decide +kernel
theorem dX5_advance_113 : decode cX5_advance 113 = .ok (.aload_n 0, 1) := by decide +kernel
theorem dX5_advance_114 : decode cX5_advance 114 = .ok (.getfield 37, 3) := by decide +kernel
theorem dX5_advance_117 : decode cX5_advance 117 = .ok (.iconst 2, 1) := by decide +kernel
theorem dX5_advance_118 : decode cX5_advance 118 = .ok (.if_icmp .ne 45, 3) := by decide +kernel
theorem dX5_advance_121 : decode cX5_advance 121 = .ok (.aload_n 0, 1) := by decide +kernel
theorem dX5_advance_122 : decode cX5_advance 122 = .ok (.getfield 31, 3) := by decide +kernel
theorem dX5_advance_125 : decode cX5_advance 125 = .ok (.aload_n 0, 1) := by decide +kernel
theorem dX5_advance_126 : decode cX5_advance 126 = .ok (.getfield 15, 3) := by decide +kernel
theorem dX5_advance_129 : decode cX5_advance 129 = .ok (.getfield 162, 3) := by decide +kernel
theorem dX5_advance_132 : decode cX5_advance 132 = .ok (.if_icmp .ge 31, 3) := by decide +kernel
theorem dX5_advance_135 : decode cX5_advance 135 = .ok (.aload_n 0, 1) := by decide +kernel
theorem dX5_advance_136 : decode cX5_advance 136 = .ok (.aload_n 0, 1) := by decide +kernel
theorem dX5_advance_137 : decode cX5_advance 137 = .ok (.getfield 31, 3) := by decide +kernel
theorem dX5_advance_140 : decode cX5_advance 140 = .ok (.invokevirtual 164, 3) := by decide +kernel
theorem dX5_advance_143 : decode cX5_advance 143 = .ok (.aload_n 0, 1) := by decide +kernel
theorem dX5_advance_144 : decode cX5_advance 144 = .ok (.getfield 37, 3) := by decide +kernel
theorem dX5_advance_147 : decode cX5_advance 147 = .ok (.if_icmp .ne 16, 3) := by decide +kernel
theorem dX5_advance_150 : decode cX5_advance 150 = .ok (.aload_n 0, 1) := by decide +kernel
theorem dX5_advance_151 : decode cX5_advance 151 = .ok (.dup, 1) := by decide +kernel
theorem dX5_advance_152 : decode cX5_advance 152 = .ok (.getfield 31, 3) := by decide +kernel
theorem dX5_advance_155 : decode cX5_advance 155 = .ok (.iconst 1, 1) := by decide +kernel
theorem dX5_advance_156 : decode cX5_advance 156 = .ok (.iadd, 1) := by decide +kernel
theorem dX5_advance_157 : decode cX5_advance 157 = .ok (.putfield 31, 3) := by decide +kernel
theorem dX5_advance_160 : decode cX5_advance 160 = .ok (.goto (-55), 3) := by decide +kernel
theorem dX5_advance_163 : decode cX5_advance 163 = .ok (.return_, 1) := by decide +kernel
theorem hyX5_advance : yX5_advance.cls ≠ "java/lang/invoke/MethodHandle" ∧ yX5_advance.cls ≠ "java/lang/invoke/VarHandle" ∧ (parseMethodDescriptor yX5_advance.desc).map (fun d => d.parameters.length) = some 0 := ⟨by decide +kernel, by decide +kernel, by decide +kernel⟩
def jX5_advance_54_L8 (σ : zS) (x0 : Nat)  : Option (zS ⊕ zS) :=
  (zgI 5 5 σ x0).bind fun v9 => (zpI 5 5 σ x0 (v9 + 1)).bind fun σ10 => some (.inl σ10)
set_option maxRecDepth 100000 in
set_option maxHeartbeats 4000000 in
theorem wjX5_advance_54_L8 (C : zC p s m args meth c cX5_advance RX5 1 D Ca B En) (hRm : zRm R 2 43 cells slots) (σ : zS) (x0 : Nat)  (y : zS ⊕ zS) (hf : jX5_advance_54_L8 σ x0  = some y) (hk : (∀ z : zS, y = .inl z → zW p l e R s m args below meth c cells slots Q D Ca B 1 z N 8 [(0, .ref x0)] []) ∧ (∀ z : zS, y = .inr z → zW p l e R s m args below meth c cells slots Q D Ca B 1 z N 67 [(0, .ref x0)] [])) : zW p l e R s m args below meth c cells slots Q D Ca B 1 σ N 54 [(0, .ref x0)] [] := by
  unfold jX5_advance_54_L8 at hf
  refine z_aload_n C dX5_advance_54 rfl 0 rfl ?_
  refine z_dup C dX5_advance_55 rfl ?_
  obtain ⟨v9, hv9, hf⟩ := zbind hf
  refine gf_RX5_114 C hv9 dX5_advance_56 ?_
  refine z_iconst C 1 dX5_advance_59 (by decide) ?_
  refine z_iadd C dX5_advance_60 ?_
  obtain ⟨σ10, hσ10, hf⟩ := zbind hf
  refine gp_RX5_114 C hσ10 dX5_advance_61 ?_
  refine z_goto C 8 dX5_advance_64 (by decide) ?_
  cases hf
  refine z_sub [0] rfl ?_
  exact hk.1 _ rfl

def sX5_advance_8b (x0 : Nat) (σ : zS)  : Option (zS ⊕ zS) :=
  (zgI 5 5 σ x0).bind fun v3 => (zgR 5 2 σ x0).bind fun v4 => (zgI 2 1 σ v4).bind fun v5 => (if v5 ≤ v3 then some (.inr σ) else (zgR 5 2 σ x0).bind fun v6 => (zgI 5 5 σ x0).bind fun v7 => (zck 2 σ v6 (fX2_byteAt σ v6 v7)).bind fun c8 => (if c8.2 = 32 then jX5_advance_54_L8 c8.1 x0 else (zgR 5 2 c8.1 x0).bind fun v11 => (zgI 5 5 c8.1 x0).bind fun v12 => (zck 2 c8.1 v11 (fX2_byteAt c8.1 v11 v12)).bind fun c13 => (if c13.2 = 10 then jX5_advance_54_L8 c13.1 x0 else some (.inr c13.1))))
def sX5_advance_8 (x0 : Nat) (z : zS) : Option (zS ⊕ zS) := sX5_advance_8b x0 z
set_option maxRecDepth 100000 in
set_option maxHeartbeats 4000000 in
theorem wsX5_advance_8b (C : zC p s m args meth c cX5_advance RX5 1 D Ca B En) (hRm : zRm R 2 43 cells slots) (x0 : Nat) (σ : zS)  (y : zS ⊕ zS) (hf : sX5_advance_8b x0 σ  = some y) (hk : (∀ z : zS, y = .inl z → zW p l e R s m args below meth c cells slots Q D Ca B 1 z N 8 [(0, .ref x0)] []) ∧ (∀ z : zS, y = .inr z → zW p l e R s m args below meth c cells slots Q D Ca B 1 z N 67 [(0, .ref x0)] [])) : zW p l e R s m args below meth c cells slots Q D Ca B 1 σ N 8 [(0, .ref x0)] [] := by
  unfold sX5_advance_8b at hf
  refine z_aload_n C dX5_advance_8 rfl 0 rfl ?_
  obtain ⟨v3, hv3, hf⟩ := zbind hf
  refine gf_RX5_114 C hv3 dX5_advance_9 ?_
  refine z_aload_n C dX5_advance_12 rfl 0 rfl ?_
  obtain ⟨v4, hv4, hf⟩ := zbind hf
  refine gf_RX5_15 C hv4 dX5_advance_13 ?_
  obtain ⟨v5, hv5, hf⟩ := zbind hf
  refine gf_RX5_162 C hv5 dX5_advance_16 ?_
  refine z_icmp_ge C 67 dX5_advance_19 (by decide) (fun q16 => ?_) (fun q16 => ?_)
  · rw [if_pos q16] at hf
    cases hf
    refine z_sub [0] rfl ?_
    exact hk.2 _ rfl
  · rw [if_neg q16] at hf
    refine z_aload_n C dX5_advance_22 rfl 0 rfl ?_
    obtain ⟨v6, hv6, hf⟩ := zbind hf
    refine gf_RX5_15 C hv6 dX5_advance_23 ?_
    refine z_aload_n C dX5_advance_26 rfl 0 rfl ?_
    obtain ⟨v7, hv7, hf⟩ := zbind hf
    refine gf_RX5_114 C hv7 dX5_advance_27 ?_
    obtain ⟨c8, hc8, hf⟩ := zbind hf
    obtain ⟨kc8, hc8⟩ := zck_ok hc8
    refine z_callVi (As := [.int v7]) (F0 := 2) (L0 := 43) C (mX2_byteAt l D Ca B En C.2.2.2.2.2.2.2.1 σ N v6 v7 _ hc8) hRm kc8 rfl kw_512 kw_2 kw_509 kw_510 kw_511 hyX2_byteAt (Nat.le_of_ble_eq_true rfl) (Nat.le_of_ble_eq_true rfl) rfl rfl (Nat.le_of_ble_eq_true rfl) dX5_advance_30 ?_
    refine z_bipush C 32 dX5_advance_33 (by decide) ?_
    refine z_icmp_eq C 54 dX5_advance_35 (by decide) (fun q15 => ?_) (fun q15 => ?_)
    · rw [if_pos q15] at hf
      refine z_sub [0] rfl ?_
      exact wjX5_advance_54_L8 C hRm _ _  _ hf hk
    · rw [if_neg q15] at hf
      refine z_aload_n C dX5_advance_38 rfl 0 rfl ?_
      obtain ⟨v11, hv11, hf⟩ := zbind hf
      refine gf_RX5_15 C hv11 dX5_advance_39 ?_
      refine z_aload_n C dX5_advance_42 rfl 0 rfl ?_
      obtain ⟨v12, hv12, hf⟩ := zbind hf
      refine gf_RX5_114 C hv12 dX5_advance_43 ?_
      obtain ⟨c13, hc13, hf⟩ := zbind hf
      obtain ⟨kc13, hc13⟩ := zck_ok hc13
      refine z_callVi (As := [.int v12]) (F0 := 2) (L0 := 43) C (mX2_byteAt l D Ca B En C.2.2.2.2.2.2.2.1 c8.1 N v11 v12 _ hc13) hRm kc13 rfl kw_512 kw_2 kw_509 kw_510 kw_511 hyX2_byteAt (Nat.le_of_ble_eq_true rfl) (Nat.le_of_ble_eq_true rfl) rfl rfl (Nat.le_of_ble_eq_true rfl) dX5_advance_46 ?_
      refine z_bipush C 10 dX5_advance_49 (by decide) ?_
      refine z_icmp_ne C 67 dX5_advance_51 (by decide) (fun q14 => ?_) (fun q14 => ?_)
      · rw [if_neg q14] at hf
        cases hf
        refine z_sub [0] rfl ?_
        exact hk.2 _ rfl
      · rw [if_pos q14] at hf
        refine z_sub [0] rfl ?_
        exact wjX5_advance_54_L8 C hRm _ _  _ hf hk

theorem wsX5_advance_8 (C : zC p s m args meth c cX5_advance RX5 1 D Ca B En) (hRm : zRm R 2 43 cells slots) (x0 : Nat) (n : Nat) (z : zS) (x : zS) (hf : zloop (sX5_advance_8 x0) n z = some x) (hk : (∀ o : zS, x = o → zW p l e R s m args below meth c cells slots Q D Ca B 1 o N 67 [(0, .ref x0)] [])) : zW p l e R s m args below meth c cells slots Q D Ca B 1 z N 8 [(0, .ref x0)] [] := by
  refine zloop_W (P := fun z : zS => zW p l e R s m args below meth c cells slots Q D Ca B 1 z N 8 [(0, .ref x0)] []) (K := fun x : zS => (∀ o : zS, x = o → zW p l e R s m args below meth c cells slots Q D Ca B 1 o N 67 [(0, .ref x0)] [])) ?_ n z x hf hk
  intro z y hy h1 h2
  refine wsX5_advance_8b C hRm x0 z y hy ⟨fun z2 e => h1 z2 e, fun o e => (h2 _ e) o rfl⟩
def jX5_advance_121_L105 (σ : zS) (x0 : Nat)  : Option (zS ⊕ zS) :=
  (zgI 5 6 σ x0).bind fun v27 => (zgR 5 2 σ x0).bind fun v28 => (zgI 2 1 σ v28).bind fun v29 => (if v29 ≤ v27 then some (.inr σ) else (zgI 5 6 σ x0).bind fun v30 => (zck 5 σ x0 (fX5_kindAt σ x0 v30)).bind fun c31 => (zgI 5 4 c31.1 x0).bind fun v32 => (if c31.2 = v32 then (zgI 5 6 c31.1 x0).bind fun v33 => (zpI 5 6 c31.1 x0 (v33 + 1)).bind fun σ34 => some (.inl σ34) else some (.inr c31.1)))
set_option maxRecDepth 100000 in
set_option maxHeartbeats 4000000 in
theorem wjX5_advance_121_L105 (C : zC p s m args meth c cX5_advance RX5 1 D Ca B En) (hRm : zRm R 2 43 cells slots) (σ : zS) (x0 : Nat)  (y : zS ⊕ zS) (hf : jX5_advance_121_L105 σ x0  = some y) (hk : (∀ z : zS, y = .inl z → zW p l e R s m args below meth c cells slots Q D Ca B 1 z N 105 [(0, .ref x0)] []) ∧ (∀ z : zS, y = .inr z → zW p l e R s m args below meth c cells slots Q D Ca B 1 z N 163 [] [])) : zW p l e R s m args below meth c cells slots Q D Ca B 1 σ N 121 [(0, .ref x0)] [] := by
  unfold jX5_advance_121_L105 at hf
  refine z_aload_n C dX5_advance_121 rfl 0 rfl ?_
  obtain ⟨v27, hv27, hf⟩ := zbind hf
  refine gf_RX5_31 C hv27 dX5_advance_122 ?_
  refine z_aload_n C dX5_advance_125 rfl 0 rfl ?_
  obtain ⟨v28, hv28, hf⟩ := zbind hf
  refine gf_RX5_15 C hv28 dX5_advance_126 ?_
  obtain ⟨v29, hv29, hf⟩ := zbind hf
  refine gf_RX5_162 C hv29 dX5_advance_129 ?_
  refine z_icmp_ge C 163 dX5_advance_132 (by decide) (fun q36 => ?_) (fun q36 => ?_)
  · rw [if_pos q36] at hf
    cases hf
    refine z_sub [] rfl ?_
    exact hk.2 _ rfl
  · rw [if_neg q36] at hf
    refine z_aload_n C dX5_advance_135 rfl 0 rfl ?_
    refine z_aload_n C dX5_advance_136 rfl 0 rfl ?_
    obtain ⟨v30, hv30, hf⟩ := zbind hf
    refine gf_RX5_31 C hv30 dX5_advance_137 ?_
    obtain ⟨c31, hc31, hf⟩ := zbind hf
    obtain ⟨kc31, hc31⟩ := zck_ok hc31
    refine z_callVi (As := [.int v30]) (F0 := 2) (L0 := 43) C (mX5_kindAt l D Ca B En C.2.2.2.2.2.2.2.1 σ N x0 v30 _ hc31) hRm kc31 rfl kw_516 kw_3 kw_513 kw_515 kp_6 hyX5_kindAt (Nat.le_of_ble_eq_true rfl) (Nat.le_of_ble_eq_true rfl) rfl rfl (Nat.le_of_ble_eq_true rfl) dX5_advance_140 ?_
    refine z_aload_n C dX5_advance_143 rfl 0 rfl ?_
    obtain ⟨v32, hv32, hf⟩ := zbind hf
    refine gf_RX5_37 C hv32 dX5_advance_144 ?_
    refine z_icmp_ne C 163 dX5_advance_147 (by decide) (fun q35 => ?_) (fun q35 => ?_)
    · rw [if_neg q35] at hf
      cases hf
      refine z_sub [] rfl ?_
      exact hk.2 _ rfl
    · rw [if_pos q35] at hf
      refine z_aload_n C dX5_advance_150 rfl 0 rfl ?_
      refine z_dup C dX5_advance_151 rfl ?_
      obtain ⟨v33, hv33, hf⟩ := zbind hf
      refine gf_RX5_31 C hv33 dX5_advance_152 ?_
      refine z_iconst C 1 dX5_advance_155 (by decide) ?_
      refine z_iadd C dX5_advance_156 ?_
      obtain ⟨σ34, hσ34, hf⟩ := zbind hf
      refine gp_RX5_31 C hσ34 dX5_advance_157 ?_
      refine z_goto C 105 dX5_advance_160 (by decide) ?_
      cases hf
      refine z_sub [0] rfl ?_
      exact hk.1 _ rfl

def sX5_advance_105b (x0 : Nat) (σ : zS)  : Option (zS ⊕ zS) :=
  (zgI 5 4 σ x0).bind fun v26 => (if v26 = 1 then jX5_advance_121_L105 σ x0 else (zgI 5 4 σ x0).bind fun v37 => (if v37 = 2 then jX5_advance_121_L105 σ x0 else some (.inr σ)))
def sX5_advance_105 (x0 : Nat) (z : zS) : Option (zS ⊕ zS) := sX5_advance_105b x0 z
set_option maxRecDepth 100000 in
set_option maxHeartbeats 4000000 in
theorem wsX5_advance_105b (C : zC p s m args meth c cX5_advance RX5 1 D Ca B En) (hRm : zRm R 2 43 cells slots) (x0 : Nat) (σ : zS)  (y : zS ⊕ zS) (hf : sX5_advance_105b x0 σ  = some y) (hk : (∀ z : zS, y = .inl z → zW p l e R s m args below meth c cells slots Q D Ca B 1 z N 105 [(0, .ref x0)] []) ∧ (∀ z : zS, y = .inr z → zW p l e R s m args below meth c cells slots Q D Ca B 1 z N 163 [] [])) : zW p l e R s m args below meth c cells slots Q D Ca B 1 σ N 105 [(0, .ref x0)] [] := by
  unfold sX5_advance_105b at hf
  refine z_aload_n C dX5_advance_105 rfl 0 rfl ?_
  obtain ⟨v26, hv26, hf⟩ := zbind hf
  refine gf_RX5_37 C hv26 dX5_advance_106 ?_
  refine z_iconst C 1 dX5_advance_109 (by decide) ?_
  refine z_icmp_eq C 121 dX5_advance_110 (by decide) (fun q39 => ?_) (fun q39 => ?_)
  · rw [if_pos q39] at hf
    refine z_sub [0] rfl ?_
    exact wjX5_advance_121_L105 C hRm _ _  _ hf hk
  · rw [if_neg q39] at hf
    refine z_aload_n C dX5_advance_113 rfl 0 rfl ?_
    obtain ⟨v37, hv37, hf⟩ := zbind hf
    refine gf_RX5_37 C hv37 dX5_advance_114 ?_
    refine z_iconst C 2 dX5_advance_117 (by decide) ?_
    refine z_icmp_ne C 163 dX5_advance_118 (by decide) (fun q38 => ?_) (fun q38 => ?_)
    · rw [if_neg q38] at hf
      cases hf
      refine z_sub [] rfl ?_
      exact hk.2 _ rfl
    · rw [if_pos q38] at hf
      refine z_sub [0] rfl ?_
      exact wjX5_advance_121_L105 C hRm _ _  _ hf hk

theorem wsX5_advance_105 (C : zC p s m args meth c cX5_advance RX5 1 D Ca B En) (hRm : zRm R 2 43 cells slots) (x0 : Nat) (n : Nat) (z : zS) (x : zS) (hf : zloop (sX5_advance_105 x0) n z = some x) (hk : (∀ o : zS, x = o → zW p l e R s m args below meth c cells slots Q D Ca B 1 o N 163 [] [])) : zW p l e R s m args below meth c cells slots Q D Ca B 1 z N 105 [(0, .ref x0)] [] := by
  refine zloop_W (P := fun z : zS => zW p l e R s m args below meth c cells slots Q D Ca B 1 z N 105 [(0, .ref x0)] []) (K := fun x : zS => (∀ o : zS, x = o → zW p l e R s m args below meth c cells slots Q D Ca B 1 o N 163 [] [])) ?_ n z x hf hk
  intro z y hy h1 h2
  refine wsX5_advance_105b C hRm x0 z y hy ⟨fun z2 e => h1 z2 e, fun o e => (h2 _ e) o rfl⟩
def jX5_advance_67 (σ : zS) (x0 : Nat)  : Option zS :=
  (zgI 5 5 σ x0).bind fun v18 => (zck 5 σ x0 (fX5_kindAt σ x0 v18)).bind fun c19 => (zpI 5 4 c19.1 x0 c19.2).bind fun σ20 => (zgI 5 5 σ20 x0).bind fun v21 => (zpI 5 6 σ20 x0 v21).bind fun σ22 => (zgI 5 4 σ22 x0).bind fun v23 => (if v23 = 0 then some σ22 else (zgI 5 6 σ22 x0).bind fun v24 => (zpI 5 6 σ22 x0 (v24 + 1)).bind fun σ25 => (zloop (sX5_advance_105 x0) zfuel σ25).bind fun o40 => some o40)
set_option maxRecDepth 100000 in
set_option maxHeartbeats 4000000 in
theorem wjX5_advance_67 (C : zC p s m args meth c cX5_advance RX5 1 D Ca B En) (hRm : zRm R 2 43 cells slots) (σ : zS) (x0 : Nat)  (τ : zS) (hf : jX5_advance_67 σ x0  = some τ) (hq : ∀ (pc : Nat) (lv : List (Nat × Value)), decode cX5_advance pc = .ok (.return_, 1) → zW p l e R s m args below meth c cells slots Q D Ca B 1 τ N pc lv []) : zW p l e R s m args below meth c cells slots Q D Ca B 1 σ N 67 [(0, .ref x0)] [] := by
  unfold jX5_advance_67 at hf
  refine z_aload_n C dX5_advance_67 rfl 0 rfl ?_
  refine z_aload_n C dX5_advance_68 rfl 0 rfl ?_
  refine z_aload_n C dX5_advance_69 rfl 0 rfl ?_
  obtain ⟨v18, hv18, hf⟩ := zbind hf
  refine gf_RX5_114 C hv18 dX5_advance_70 ?_
  obtain ⟨c19, hc19, hf⟩ := zbind hf
  obtain ⟨kc19, hc19⟩ := zck_ok hc19
  refine z_callVi (As := [.int v18]) (F0 := 2) (L0 := 43) C (mX5_kindAt l D Ca B En C.2.2.2.2.2.2.2.1 σ N x0 v18 _ hc19) hRm kc19 rfl kw_516 kw_3 kw_513 kw_515 kp_6 hyX5_kindAt (Nat.le_of_ble_eq_true rfl) (Nat.le_of_ble_eq_true rfl) rfl rfl (Nat.le_of_ble_eq_true rfl) dX5_advance_73 ?_
  obtain ⟨σ20, hσ20, hf⟩ := zbind hf
  refine gp_RX5_37 C hσ20 dX5_advance_76 ?_
  refine z_aload_n C dX5_advance_79 rfl 0 rfl ?_
  refine z_aload_n C dX5_advance_80 rfl 0 rfl ?_
  obtain ⟨v21, hv21, hf⟩ := zbind hf
  refine gf_RX5_114 C hv21 dX5_advance_81 ?_
  obtain ⟨σ22, hσ22, hf⟩ := zbind hf
  refine gp_RX5_31 C hσ22 dX5_advance_84 ?_
  refine z_aload_n C dX5_advance_87 rfl 0 rfl ?_
  obtain ⟨v23, hv23, hf⟩ := zbind hf
  refine gf_RX5_37 C hv23 dX5_advance_88 ?_
  refine z_if_ne C 95 dX5_advance_91 (by decide) (fun q41 => ?_) (fun q41 => ?_)
  · rw [if_neg q41] at hf
    refine z_aload_n C dX5_advance_95 rfl 0 rfl ?_
    refine z_dup C dX5_advance_96 rfl ?_
    obtain ⟨v24, hv24, hf⟩ := zbind hf
    refine gf_RX5_31 C hv24 dX5_advance_97 ?_
    refine z_iconst C 1 dX5_advance_100 (by decide) ?_
    refine z_iadd C dX5_advance_101 ?_
    obtain ⟨σ25, hσ25, hf⟩ := zbind hf
    refine gp_RX5_31 C hσ25 dX5_advance_102 ?_
    obtain ⟨o40, ho40, hf⟩ := zbind hf
    refine z_sub [0] rfl ?_
    refine wsX5_advance_105 C hRm _ zfuel σ25 o40 ho40 ?_
    intro z9 e9
    subst e9
    cases hf
    exact hq _ _ dX5_advance_163
  · rw [if_pos q41] at hf
    cases hf
    exact hq _ _ dX5_advance_94

def fX5_advance (σ : zS) (x0 : Nat) : Option zS :=
  (zgI 5 6 σ x0).bind fun v1 => (zpI 5 5 σ x0 v1).bind fun σ2 => (zloop (sX5_advance_8 x0) zfuel σ2).bind fun o17 => jX5_advance_67 o17 x0
set_option maxRecDepth 100000 in
set_option maxHeartbeats 4000000 in
theorem wfX5_advance (C : zC p s m args meth c cX5_advance RX5 1 D Ca B En) (hRm : zRm R 2 43 cells slots) (σ : zS) (x0 : Nat) (τ : zS) (hf : fX5_advance σ x0 = some τ) (hq : ∀ (pc : Nat) (lv : List (Nat × Value)), decode cX5_advance pc = .ok (.return_, 1) → zW p l e R s m args below meth c cells slots Q D Ca B 1 τ N pc lv []) : zW p l e R s m args below meth c cells slots Q D Ca B 1 σ N 0 [(0, .ref x0)] [] := by
  unfold fX5_advance at hf
  refine z_aload_n C dX5_advance_0 rfl 0 rfl ?_
  refine z_aload_n C dX5_advance_1 rfl 0 rfl ?_
  obtain ⟨v1, hv1, hf⟩ := zbind hf
  refine gf_RX5_31 C hv1 dX5_advance_2 ?_
  obtain ⟨σ2, hσ2, hf⟩ := zbind hf
  refine gp_RX5_114 C hσ2 dX5_advance_5 ?_
  obtain ⟨o17, ho17, hf⟩ := zbind hf
  refine z_sub [0] rfl ?_
  refine wsX5_advance_8 C hRm _ zfuel σ2 o17 ho17 ?_
  intro z9 e9
  subst e9
  refine z_sub [0] rfl ?_
  exact wjX5_advance_67 C hRm _ _  _ hf hq

theorem mX5_advance (l : Launch) (D : va_G) (Ca : Nat → ClassId) (B : Nat) (En : State → Prop) (hE : zEk B En) (σ : zS) (N : Nat) (x0 : Nat) (X : zS) (hf : fX5_advance σ x0 = some X) : zMv l D Ca B En yX5_advance cX5_advance 1 (Option.none : Option Jvm.ClassFile.FieldType) 2 43 [.ref x0] σ N X () :=
  zMet_v (own := RX5) hE (by decide +kernel) rfl (Nat.le_of_ble_eq_true rfl) (fun p e s m args below meth c C hr hRm => wfX5_advance C hRm σ x0 X hf (fun pc lv hd => zfin_v (r := ()) C hr hd))
theorem dJ0_coder_7d493_0 : decode cJ0_coder_7d493 0 = .ok (.getstatic 38, 3) := by decide +kernel
theorem dJ0_coder_7d493_3 : decode cJ0_coder_7d493 3 = .ok (.ifCond .eq 10, 3) := by decide +kernel
theorem dJ0_coder_7d493_6 : decode cJ0_coder_7d493 6 = .ok (.aload_n 0, 1) := by decide +kernel
theorem dJ0_coder_7d493_7 : decode cJ0_coder_7d493 7 = .ok (.getfield 15, 3) := by decide +kernel
theorem dJ0_coder_7d493_10 : decode cJ0_coder_7d493 10 = .ok (.goto 4, 3) := by decide +kernel
theorem dJ0_coder_7d493_13 : decode cJ0_coder_7d493 13 = .ok (.iconst 1, 1) := by decide +kernel
theorem dJ0_coder_7d493_14 : decode cJ0_coder_7d493 14 = .ok (.ireturn, 1) := by decide +kernel
theorem hyJ0_coder_7d493 : yJ0_coder_7d493.cls ≠ "java/lang/invoke/MethodHandle" ∧ yJ0_coder_7d493.cls ≠ "java/lang/invoke/VarHandle" ∧ (parseMethodDescriptor yJ0_coder_7d493.desc).map (fun d => d.parameters.length) = some 0 := ⟨by decide +kernel, by decide +kernel, by decide +kernel⟩
def fJ0_coder_7d493 (σ : zS) (x0 : Nat) : Option (zS × Int32) :=
  (if (1 : Int32) = 0 then zrB σ 1 else (zstC x0).bind fun v1 => zrB σ v1)
set_option maxRecDepth 100000 in
set_option maxHeartbeats 4000000 in
theorem wfJ0_coder_7d493 (C : zC p s m args meth c cJ0_coder_7d493 RJ0 1 D Ca B En) (hRm : zRm R 0 0 cells slots) (ev : zEv) (hZ : ∀ U : State, En U → zEnv ev B U) (σ : zS) (x0 : Nat) (τ : zS) (r : Int32) (hf : fJ0_coder_7d493 σ x0 = some (τ, r)) (hq : ∀ (pc : Nat) (lv : List (Nat × Value)), (r.toInt8.toInt32 = r) → decode cJ0_coder_7d493 pc = .ok (.ireturn, 1) → zW p l e R s m args below meth c cells slots Q D Ca B 1 τ N pc lv [.int r]) : zW p l e R s m args below meth c cells slots Q D Ca B 1 σ N 0 [(0, .ref (ev.2.1 x0))] [] := by
  unfold fJ0_coder_7d493 at hf
  refine z_gsC C ev hZ kw_539 dJ0_coder_7d493_0 ?_
  refine z_if_eq C 13 dJ0_coder_7d493_3 (by decide) (fun q2 => ?_) (fun q2 => ?_)
  · rw [if_pos q2] at hf
    refine z_iconst C 1 dJ0_coder_7d493_13 (by decide) ?_
    obtain ⟨e9, b9⟩ := zrB_ok hf
    cases e9
    exact hq _ _ b9 dJ0_coder_7d493_14
  · rw [if_neg q2] at hf
    refine z_aload_n C dJ0_coder_7d493_6 rfl 0 rfl ?_
    obtain ⟨v1, hv1, hf⟩ := zbind hf
    refine z_gSc C ev hZ hv1 kw_1947 dJ0_coder_7d493_7 ?_
    refine z_goto C 14 dJ0_coder_7d493_10 (by decide) ?_
    obtain ⟨e9, b9⟩ := zrB_ok hf
    cases e9
    exact hq _ _ b9 dJ0_coder_7d493_14

theorem mJ0_coder_7d493 (l : Launch) (D : va_G) (Ca : Nat → ClassId) (B : Nat) (En : State → Prop) (hE : zEk B En) (ev : zEv) (hZ : ∀ U : State, En U → zEnv ev B U) (σ : zS) (N : Nat) (x0 : Nat) (X : zS × Int32) (hf : fJ0_coder_7d493 σ x0 = some X) : zMi l D Ca B En yJ0_coder_7d493 cJ0_coder_7d493 1 (Option.some Jvm.ClassFile.FieldType.byte) 0 0 [.ref (ev.2.1 x0)] σ N X.1 X.2 :=
  zMet_i (own := RJ0) hE (by decide +kernel) rfl (Nat.le_of_ble_eq_true rfl) (fun p e s m args below meth c C hr hRm => wfJ0_coder_7d493 C hRm ev hZ σ x0 X.1 X.2 hf (fun pc lv hb hd => zfin_b C hb hr hd))
theorem dJ0_length_8abf5_0 : decode cJ0_length_8abf5 0 = .ok (.aload_n 0, 1) := by decide +kernel
theorem dJ0_length_8abf5_1 : decode cJ0_length_8abf5 1 = .ok (.getfield 9, 3) := by decide +kernel
theorem dJ0_length_8abf5_4 : decode cJ0_length_8abf5 4 = .ok (.arraylength, 1) := by decide +kernel
theorem dJ0_length_8abf5_5 : decode cJ0_length_8abf5 5 = .ok (.aload_n 0, 1) := by decide +kernel
theorem dJ0_length_8abf5_6 : decode cJ0_length_8abf5 6 = .ok (.invokevirtual 335, 3) := by decide +kernel
theorem dJ0_length_8abf5_9 : decode cJ0_length_8abf5 9 = .ok (.ishr, 1) := by decide +kernel
theorem dJ0_length_8abf5_10 : decode cJ0_length_8abf5 10 = .ok (.ireturn, 1) := by decide +kernel
theorem hyJ0_length_8abf5 : yJ0_length_8abf5.cls ≠ "java/lang/invoke/MethodHandle" ∧ yJ0_length_8abf5.cls ≠ "java/lang/invoke/VarHandle" ∧ (parseMethodDescriptor yJ0_length_8abf5.desc).map (fun d => d.parameters.length) = some 0 := ⟨by decide +kernel, by decide +kernel, by decide +kernel⟩
def fJ0_length_8abf5 (σ : zS) (x0 : Nat) : Option (zS × Int32) :=
  (zstV x0).bind fun v1 => (zstL v1).bind fun v2 => (zsck x0 (fJ0_coder_7d493 σ x0 )).bind fun c3 => some (c3.1, v2 >>> (c3.2 &&& 31))
set_option maxRecDepth 100000 in
set_option maxHeartbeats 4000000 in
theorem wfJ0_length_8abf5 (C : zC p s m args meth c cJ0_length_8abf5 RJ0 1 D Ca B En) (hRm : zRm R 1 20 cells slots) (ev : zEv) (hZ : ∀ U : State, En U → zEnv ev B U) (σ : zS) (x0 : Nat) (τ : zS) (r : Int32) (hf : fJ0_length_8abf5 σ x0 = some (τ, r)) (hq : ∀ (pc : Nat) (lv : List (Nat × Value)), decode cJ0_length_8abf5 pc = .ok (.ireturn, 1) → zW p l e R s m args below meth c cells slots Q D Ca B 1 τ N pc lv [.int r]) : zW p l e R s m args below meth c cells slots Q D Ca B 1 σ N 0 [(0, .ref (ev.2.1 x0))] [] := by
  unfold fJ0_length_8abf5 at hf
  refine z_aload_n C dJ0_length_8abf5_0 rfl 0 rfl ?_
  obtain ⟨v1, hv1, hf⟩ := zbind hf
  refine z_gSv C ev hZ hv1 kw_1946 dJ0_length_8abf5_1 ?_
  obtain ⟨v2, hv2, hf⟩ := zbind hf
  refine z_alenV C ev hZ hv2 dJ0_length_8abf5_4 ?_
  refine z_aload_n C dJ0_length_8abf5_5 rfl 0 rfl ?_
  obtain ⟨c3, hc3, hf⟩ := zbind hf
  obtain ⟨kc3, hc3⟩ := zsck_ok hc3
  refine z_callTi (As := []) (F0 := 1) (L0 := 20) C ev hZ (mJ0_coder_7d493 l D Ca B En C.2.2.2.2.2.2.2.1 ev hZ σ N x0  _ hc3) hRm kc3 rfl kw_538 kw_15 kw_535 kw_536 kw_537 hyJ0_coder_7d493 (Nat.le_of_ble_eq_true rfl) (Nat.le_of_ble_eq_true rfl) rfl rfl (Nat.le_of_ble_eq_true rfl) dJ0_length_8abf5_6 ?_
  refine z_ishr C dJ0_length_8abf5_9 ?_
  cases hf
  exact hq _ _ dJ0_length_8abf5_10

theorem mJ0_length_8abf5 (l : Launch) (D : va_G) (Ca : Nat → ClassId) (B : Nat) (En : State → Prop) (hE : zEk B En) (ev : zEv) (hZ : ∀ U : State, En U → zEnv ev B U) (σ : zS) (N : Nat) (x0 : Nat) (X : zS × Int32) (hf : fJ0_length_8abf5 σ x0 = some X) : zMi l D Ca B En yJ0_length_8abf5 cJ0_length_8abf5 1 (Option.some Jvm.ClassFile.FieldType.int) 1 20 [.ref (ev.2.1 x0)] σ N X.1 X.2 :=
  zMet_i (own := RJ0) hE (by decide +kernel) rfl (Nat.le_of_ble_eq_true rfl) (fun p e s m args below meth c C hr hRm => wfJ0_length_8abf5 C hRm ev hZ σ x0 X.1 X.2 hf (fun pc lv hd => zfin_i C hr hd))
theorem dJ0_isLatin1_aae02_0 : decode cJ0_isLatin1_aae02 0 = .ok (.getstatic 38, 3) := by decide +kernel
theorem dJ0_isLatin1_aae02_3 : decode cJ0_isLatin1_aae02 3 = .ok (.ifCond .eq 14, 3) := by decide +kernel
theorem dJ0_isLatin1_aae02_6 : decode cJ0_isLatin1_aae02 6 = .ok (.aload_n 0, 1) := by decide +kernel
theorem dJ0_isLatin1_aae02_7 : decode cJ0_isLatin1_aae02 7 = .ok (.getfield 15, 3) := by decide +kernel
theorem dJ0_isLatin1_aae02_10 : decode cJ0_isLatin1_aae02 10 = .ok (.ifCond .ne 7, 3) := by decide +kernel
theorem dJ0_isLatin1_aae02_13 : decode cJ0_isLatin1_aae02 13 = .ok (.iconst 1, 1) := by decide +kernel
theorem dJ0_isLatin1_aae02_14 : decode cJ0_isLatin1_aae02 14 = .ok (.goto 4, 3) := by decide +kernel
theorem dJ0_isLatin1_aae02_17 : decode cJ0_isLatin1_aae02 17 = .ok (.iconst 0, 1) := by decide +kernel
theorem dJ0_isLatin1_aae02_18 : decode cJ0_isLatin1_aae02 18 = .ok (.ireturn, 1) := by decide +kernel
theorem hyJ0_isLatin1_aae02 : yJ0_isLatin1_aae02.cls ≠ "java/lang/invoke/MethodHandle" ∧ yJ0_isLatin1_aae02.cls ≠ "java/lang/invoke/VarHandle" ∧ (parseMethodDescriptor yJ0_isLatin1_aae02.desc).map (fun d => d.parameters.length) = some 0 := ⟨by decide +kernel, by decide +kernel, by decide +kernel⟩
def fJ0_isLatin1_aae02 (σ : zS) (x0 : Nat) : Option (zS × Int32) :=
  (if (1 : Int32) = 0 then zrZ σ 0 else (zstC x0).bind fun v1 => (if v1 = 0 then zrZ σ 1 else zrZ σ 0))
set_option maxRecDepth 100000 in
set_option maxHeartbeats 4000000 in
theorem wfJ0_isLatin1_aae02 (C : zC p s m args meth c cJ0_isLatin1_aae02 RJ0 1 D Ca B En) (hRm : zRm R 0 0 cells slots) (ev : zEv) (hZ : ∀ U : State, En U → zEnv ev B U) (σ : zS) (x0 : Nat) (τ : zS) (r : Int32) (hf : fJ0_isLatin1_aae02 σ x0 = some (τ, r)) (hq : ∀ (pc : Nat) (lv : List (Nat × Value)), (r = 0 ∨ r = 1) → decode cJ0_isLatin1_aae02 pc = .ok (.ireturn, 1) → zW p l e R s m args below meth c cells slots Q D Ca B 1 τ N pc lv [.int r]) : zW p l e R s m args below meth c cells slots Q D Ca B 1 σ N 0 [(0, .ref (ev.2.1 x0))] [] := by
  unfold fJ0_isLatin1_aae02 at hf
  refine z_gsC C ev hZ kw_539 dJ0_isLatin1_aae02_0 ?_
  refine z_if_eq C 17 dJ0_isLatin1_aae02_3 (by decide) (fun q3 => ?_) (fun q3 => ?_)
  · rw [if_pos q3] at hf
    refine z_iconst C 0 dJ0_isLatin1_aae02_17 (by decide) ?_
    obtain ⟨e9, b9⟩ := zrZ_ok hf
    cases e9
    exact hq _ _ b9 dJ0_isLatin1_aae02_18
  · rw [if_neg q3] at hf
    refine z_aload_n C dJ0_isLatin1_aae02_6 rfl 0 rfl ?_
    obtain ⟨v1, hv1, hf⟩ := zbind hf
    refine z_gSc C ev hZ hv1 kw_1947 dJ0_isLatin1_aae02_7 ?_
    refine z_if_ne C 17 dJ0_isLatin1_aae02_10 (by decide) (fun q2 => ?_) (fun q2 => ?_)
    · rw [if_neg q2] at hf
      refine z_iconst C 0 dJ0_isLatin1_aae02_17 (by decide) ?_
      obtain ⟨e9, b9⟩ := zrZ_ok hf
      cases e9
      exact hq _ _ b9 dJ0_isLatin1_aae02_18
    · rw [if_pos q2] at hf
      refine z_iconst C 1 dJ0_isLatin1_aae02_13 (by decide) ?_
      refine z_goto C 18 dJ0_isLatin1_aae02_14 (by decide) ?_
      obtain ⟨e9, b9⟩ := zrZ_ok hf
      cases e9
      exact hq _ _ b9 dJ0_isLatin1_aae02_18

theorem mJ0_isLatin1_aae02 (l : Launch) (D : va_G) (Ca : Nat → ClassId) (B : Nat) (En : State → Prop) (hE : zEk B En) (ev : zEv) (hZ : ∀ U : State, En U → zEnv ev B U) (σ : zS) (N : Nat) (x0 : Nat) (X : zS × Int32) (hf : fJ0_isLatin1_aae02 σ x0 = some X) : zMi l D Ca B En yJ0_isLatin1_aae02 cJ0_isLatin1_aae02 1 (Option.some Jvm.ClassFile.FieldType.boolean) 0 0 [.ref (ev.2.1 x0)] σ N X.1 X.2 :=
  zMet_i (own := RJ0) hE (by decide +kernel) rfl (Nat.le_of_ble_eq_true rfl) (fun p e s m args below meth c C hr hRm => wfJ0_isLatin1_aae02 C hRm ev hZ σ x0 X.1 X.2 hf (fun pc lv hb hd => zfin_z C hb hr hd))
theorem dJ3_checkIndex_8e157_0 : decode cJ3_checkIndex_8e157 0 = .ok (.iload_n 0, 1) := by decide +kernel
theorem dJ3_checkIndex_8e157_1 : decode cJ3_checkIndex_8e157 1 = .ok (.ifCond .lt 8, 3) := by decide +kernel
theorem dJ3_checkIndex_8e157_4 : decode cJ3_checkIndex_8e157 4 = .ok (.iload_n 0, 1) := by decide +kernel
theorem dJ3_checkIndex_8e157_5 : decode cJ3_checkIndex_8e157 5 = .ok (.iload_n 1, 1) := by decide +kernel
theorem dJ3_checkIndex_8e157_6 : decode cJ3_checkIndex_8e157 6 = .ok (.if_icmp .lt 10, 3) := by decide +kernel
theorem dJ3_checkIndex_8e157_9 : decode cJ3_checkIndex_8e157 9 = .ok (.aload_n 2, 1) := by decide +kernel
theorem dJ3_checkIndex_8e157_10 : decode cJ3_checkIndex_8e157 10 = .ok (.iload_n 0, 1) := by decide +kernel
theorem dJ3_checkIndex_8e157_11 : decode cJ3_checkIndex_8e157 11 = .ok (.iload_n 1, 1) := by decide +kernel
theorem dJ3_checkIndex_8e157_12 : decode cJ3_checkIndex_8e157 12 = .ok (.invokestatic 95, 3) := by decide +kernel
theorem dJ3_checkIndex_8e157_15 : decode cJ3_checkIndex_8e157 15 = .ok (.athrow, 1) := by decide +kernel
theorem dJ3_checkIndex_8e157_16 : decode cJ3_checkIndex_8e157 16 = .ok (.iload_n 0, 1) := by decide +kernel
theorem dJ3_checkIndex_8e157_17 : decode cJ3_checkIndex_8e157 17 = .ok (.ireturn, 1) := by decide +kernel
theorem hyJ3_checkIndex_8e157 : yJ3_checkIndex_8e157.cls ≠ "java/lang/invoke/MethodHandle" ∧ yJ3_checkIndex_8e157.cls ≠ "java/lang/invoke/VarHandle" ∧ (parseMethodDescriptor yJ3_checkIndex_8e157.desc).map (fun d => d.parameters.length) = some 3 := ⟨by decide +kernel, by decide +kernel, by decide +kernel⟩
def jJ3_checkIndex_8e157_9 (σ : zS) (x0 : Int32) (x1 : Int32)  : Option (zS × Int32) :=
  none
set_option maxRecDepth 100000 in
set_option maxHeartbeats 4000000 in
theorem wjJ3_checkIndex_8e157_9 (C : zC p s m args meth c cJ3_checkIndex_8e157 RJ3 3 D Ca B En) (hRm : zRm R 0 0 cells slots) (ev : zEv) (hZ : ∀ U : State, En U → zEnv ev B U) (σ : zS) (x0 : Int32) (x1 : Int32)  (τ : zS) (r : Int32) (hf : jJ3_checkIndex_8e157_9 σ x0 x1  = some (τ, r)) (hq : ∀ (pc : Nat) (lv : List (Nat × Value)), decode cJ3_checkIndex_8e157 pc = .ok (.ireturn, 1) → zW p l e R s m args below meth c cells slots Q D Ca B 3 τ N pc lv [.int r]) : zW p l e R s m args below meth c cells slots Q D Ca B 3 σ N 9 [(0, .int x0), (1, .int x1), (2, va_rf ev.2.2.2.2)] [] := by
  unfold jJ3_checkIndex_8e157_9 at hf
  cases hf

def fJ3_checkIndex_8e157 (σ : zS) (x0 : Int32) (x1 : Int32) : Option (zS × Int32) :=
  (if x0 < 0 then jJ3_checkIndex_8e157_9 σ x0 x1 else (if x0 < x1 then some (σ, x0) else jJ3_checkIndex_8e157_9 σ x0 x1))
set_option maxRecDepth 100000 in
set_option maxHeartbeats 4000000 in
theorem wfJ3_checkIndex_8e157 (C : zC p s m args meth c cJ3_checkIndex_8e157 RJ3 3 D Ca B En) (hRm : zRm R 0 0 cells slots) (ev : zEv) (hZ : ∀ U : State, En U → zEnv ev B U) (σ : zS) (x0 : Int32) (x1 : Int32) (τ : zS) (r : Int32) (hf : fJ3_checkIndex_8e157 σ x0 x1 = some (τ, r)) (hq : ∀ (pc : Nat) (lv : List (Nat × Value)), decode cJ3_checkIndex_8e157 pc = .ok (.ireturn, 1) → zW p l e R s m args below meth c cells slots Q D Ca B 3 τ N pc lv [.int r]) : zW p l e R s m args below meth c cells slots Q D Ca B 3 σ N 0 [(0, .int x0), (1, .int x1), (2, va_rf ev.2.2.2.2)] [] := by
  unfold fJ3_checkIndex_8e157 at hf
  refine z_iload_n C dJ3_checkIndex_8e157_0 rfl 0 rfl ?_
  refine z_if_lt C 9 dJ3_checkIndex_8e157_1 (by decide) (fun q2 => ?_) (fun q2 => ?_)
  · rw [if_pos q2] at hf
    refine z_sub [0, 1, 2] rfl ?_
    exact wjJ3_checkIndex_8e157_9 C hRm ev hZ _ _ _  _ _ hf hq
  · rw [if_neg q2] at hf
    refine z_iload_n C dJ3_checkIndex_8e157_4 rfl 0 rfl ?_
    refine z_iload_n C dJ3_checkIndex_8e157_5 rfl 1 rfl ?_
    refine z_icmp_lt C 16 dJ3_checkIndex_8e157_6 (by decide) (fun q1 => ?_) (fun q1 => ?_)
    · rw [if_pos q1] at hf
      refine z_iload_n C dJ3_checkIndex_8e157_16 rfl 0 rfl ?_
      cases hf
      exact hq _ _ dJ3_checkIndex_8e157_17
    · rw [if_neg q1] at hf
      refine z_sub [0, 1, 2] rfl ?_
      exact wjJ3_checkIndex_8e157_9 C hRm ev hZ _ _ _  _ _ hf hq

theorem mJ3_checkIndex_8e157 (l : Launch) (D : va_G) (Ca : Nat → ClassId) (B : Nat) (En : State → Prop) (hE : zEk B En) (ev : zEv) (hZ : ∀ U : State, En U → zEnv ev B U) (σ : zS) (N : Nat) (x0 : Int32) (x1 : Int32) (X : zS × Int32) (hf : fJ3_checkIndex_8e157 σ x0 x1 = some X) : zMi l D Ca B En yJ3_checkIndex_8e157 cJ3_checkIndex_8e157 3 (Option.some Jvm.ClassFile.FieldType.int) 0 0 [.int x0, .int x1, va_rf ev.2.2.2.2] σ N X.1 X.2 :=
  zMet_i (own := RJ3) hE (by decide +kernel) rfl (by generalize ev.2.2.2.2 = z9; cases z9 <;> exact Nat.le_of_ble_eq_true rfl) (fun p e s m args below meth c C hr hRm => wfJ3_checkIndex_8e157 C hRm ev hZ σ x0 x1 X.1 X.2 hf (fun pc lv hd => zfin_i C hr hd))
theorem dJ0_checkIndex_df160_0 : decode cJ0_checkIndex_df160 0 = .ok (.iload_n 0, 1) := by decide +kernel
theorem dJ0_checkIndex_df160_1 : decode cJ0_checkIndex_df160 1 = .ok (.iload_n 1, 1) := by decide +kernel
theorem dJ0_checkIndex_df160_2 : decode cJ0_checkIndex_df160 2 = .ok (.getstatic 1053, 3) := by decide +kernel
theorem dJ0_checkIndex_df160_5 : decode cJ0_checkIndex_df160 5 = .ok (.invokestatic 1059, 3) := by decide +kernel
theorem dJ0_checkIndex_df160_8 : decode cJ0_checkIndex_df160 8 = .ok (.pop, 1) := by decide +kernel
theorem dJ0_checkIndex_df160_9 : decode cJ0_checkIndex_df160 9 = .ok (.return_, 1) := by decide +kernel
theorem hyJ0_checkIndex_df160 : yJ0_checkIndex_df160.cls ≠ "java/lang/invoke/MethodHandle" ∧ yJ0_checkIndex_df160.cls ≠ "java/lang/invoke/VarHandle" ∧ (parseMethodDescriptor yJ0_checkIndex_df160.desc).map (fun d => d.parameters.length) = some 2 := ⟨by decide +kernel, by decide +kernel, by decide +kernel⟩
def fJ0_checkIndex_df160 (σ : zS) (x0 : Int32) (x1 : Int32) : Option zS :=
  (fJ3_checkIndex_8e157 σ x0 x1).bind fun c1 => some c1.1
set_option maxRecDepth 100000 in
set_option maxHeartbeats 4000000 in
theorem wfJ0_checkIndex_df160 (C : zC p s m args meth c cJ0_checkIndex_df160 RJ0 2 D Ca B En) (hRm : zRm R 1 22 cells slots) (ev : zEv) (hZ : ∀ U : State, En U → zEnv ev B U) (σ : zS) (x0 : Int32) (x1 : Int32) (τ : zS) (hf : fJ0_checkIndex_df160 σ x0 x1 = some τ) (hq : ∀ (pc : Nat) (lv : List (Nat × Value)), decode cJ0_checkIndex_df160 pc = .ok (.return_, 1) → zW p l e R s m args below meth c cells slots Q D Ca B 2 τ N pc lv []) : zW p l e R s m args below meth c cells slots Q D Ca B 2 σ N 0 [(0, .int x0), (1, .int x1)] [] := by
  unfold fJ0_checkIndex_df160 at hf
  refine z_iload_n C dJ0_checkIndex_df160_0 rfl 0 rfl ?_
  refine z_iload_n C dJ0_checkIndex_df160_1 rfl 1 rfl ?_
  refine z_gsF C ev hZ kw_555 dJ0_checkIndex_df160_2 ?_
  obtain ⟨c1, hc1, hf⟩ := zbind hf
  refine z_callSi (As := [.int x0, .int x1, va_rf ev.2.2.2.2]) (F0 := 1) (L0 := 22) C (mJ3_checkIndex_8e157 l D Ca B En C.2.2.2.2.2.2.2.1 ev hZ σ N x0 x1 _ hc1) hRm kw_559 kw_17 kw_557 kw_558 hyJ3_checkIndex_8e157 (Nat.le_of_ble_eq_true rfl) (Nat.le_of_ble_eq_true rfl) rfl rfl (Nat.le_of_ble_eq_true rfl) dJ0_checkIndex_df160_5 ?_
  refine z_pop C dJ0_checkIndex_df160_8 rfl ?_
  cases hf
  exact hq _ _ dJ0_checkIndex_df160_9

theorem mJ0_checkIndex_df160 (l : Launch) (D : va_G) (Ca : Nat → ClassId) (B : Nat) (En : State → Prop) (hE : zEk B En) (ev : zEv) (hZ : ∀ U : State, En U → zEnv ev B U) (σ : zS) (N : Nat) (x0 : Int32) (x1 : Int32) (X : zS) (hf : fJ0_checkIndex_df160 σ x0 x1 = some X) : zMv l D Ca B En yJ0_checkIndex_df160 cJ0_checkIndex_df160 2 (Option.none : Option Jvm.ClassFile.FieldType) 1 22 [.int x0, .int x1] σ N X () :=
  zMet_v (own := RJ0) hE (by decide +kernel) rfl (Nat.le_of_ble_eq_true rfl) (fun p e s m args below meth c C hr hRm => wfJ0_checkIndex_df160 C hRm ev hZ σ x0 x1 X hf (fun pc lv hd => zfin_v (r := ()) C hr hd))
theorem dJ1_charAt_3b067_0 : decode cJ1_charAt_3b067 0 = .ok (.iload_n 1, 1) := by decide +kernel
theorem dJ1_charAt_3b067_1 : decode cJ1_charAt_3b067 1 = .ok (.aload_n 0, 1) := by decide +kernel
theorem dJ1_charAt_3b067_2 : decode cJ1_charAt_3b067 2 = .ok (.arraylength, 1) := by decide +kernel
theorem dJ1_charAt_3b067_3 : decode cJ1_charAt_3b067 3 = .ok (.invokestatic 9, 3) := by decide +kernel
theorem dJ1_charAt_3b067_6 : decode cJ1_charAt_3b067 6 = .ok (.aload_n 0, 1) := by decide +kernel
theorem dJ1_charAt_3b067_7 : decode cJ1_charAt_3b067 7 = .ok (.iload_n 1, 1) := by decide +kernel
theorem dJ1_charAt_3b067_8 : decode cJ1_charAt_3b067 8 = .ok (.baload, 1) := by decide +kernel
theorem dJ1_charAt_3b067_9 : decode cJ1_charAt_3b067 9 = .ok (.sipush 255, 3) := by decide +kernel
theorem dJ1_charAt_3b067_12 : decode cJ1_charAt_3b067 12 = .ok (.iand, 1) := by decide +kernel
theorem dJ1_charAt_3b067_13 : decode cJ1_charAt_3b067 13 = .ok (.i2c, 1) := by decide +kernel
theorem dJ1_charAt_3b067_14 : decode cJ1_charAt_3b067 14 = .ok (.ireturn, 1) := by decide +kernel
theorem hyJ1_charAt_3b067 : yJ1_charAt_3b067.cls ≠ "java/lang/invoke/MethodHandle" ∧ yJ1_charAt_3b067.cls ≠ "java/lang/invoke/VarHandle" ∧ (parseMethodDescriptor yJ1_charAt_3b067.desc).map (fun d => d.parameters.length) = some 2 := ⟨by decide +kernel, by decide +kernel, by decide +kernel⟩
def fJ1_charAt_3b067 (σ : zS) (x0 : Nat) (x1 : Int32) : Option (zS × Int32) :=
  (zstL x0).bind fun v1 => (fJ0_checkIndex_df160 σ x1 v1).bind fun c2 => (zstA x0 x1).bind fun v3 => zrC c2 (((v3 &&& 255 : Int32).toUInt32 % 65536).toInt32)
set_option maxRecDepth 100000 in
set_option maxHeartbeats 4000000 in
theorem wfJ1_charAt_3b067 (C : zC p s m args meth c cJ1_charAt_3b067 RJ1 2 D Ca B En) (hRm : zRm R 2 43 cells slots) (ev : zEv) (hZ : ∀ U : State, En U → zEnv ev B U) (σ : zS) (x0 : Nat) (x1 : Int32) (τ : zS) (r : Int32) (hf : fJ1_charAt_3b067 σ x0 x1 = some (τ, r)) (hq : ∀ (pc : Nat) (lv : List (Nat × Value)), ((r.toUInt32 % 65536).toInt32 = r) → decode cJ1_charAt_3b067 pc = .ok (.ireturn, 1) → zW p l e R s m args below meth c cells slots Q D Ca B 2 τ N pc lv [.int r]) : zW p l e R s m args below meth c cells slots Q D Ca B 2 σ N 0 [(0, .ref (ev.2.2.1 x0)), (1, .int x1)] [] := by
  unfold fJ1_charAt_3b067 at hf
  refine z_iload_n C dJ1_charAt_3b067_0 rfl 1 rfl ?_
  refine z_aload_n C dJ1_charAt_3b067_1 rfl 0 rfl ?_
  obtain ⟨v1, hv1, hf⟩ := zbind hf
  refine z_alenV C ev hZ hv1 dJ1_charAt_3b067_2 ?_
  obtain ⟨c2, hc2, hf⟩ := zbind hf
  refine z_callSv (As := [.int x1, .int v1]) (F0 := 2) (L0 := 43) C (mJ0_checkIndex_df160 l D Ca B En C.2.2.2.2.2.2.2.1 ev hZ σ N x1 v1 _ hc2) hRm kw_554 kw_15 kw_552 kw_553 hyJ0_checkIndex_df160 (Nat.le_of_ble_eq_true rfl) (Nat.le_of_ble_eq_true rfl) rfl rfl (Nat.le_of_ble_eq_true rfl) dJ1_charAt_3b067_3 ?_
  refine z_aload_n C dJ1_charAt_3b067_6 rfl 0 rfl ?_
  refine z_iload_n C dJ1_charAt_3b067_7 rfl 1 rfl ?_
  obtain ⟨v3, hv3, hf⟩ := zbind hf
  refine z_bV C ev hZ hv3 dJ1_charAt_3b067_8 ?_
  refine z_sipush C 255 dJ1_charAt_3b067_9 (by decide) ?_
  refine z_iand C dJ1_charAt_3b067_12 ?_
  refine z_i2c C dJ1_charAt_3b067_13 ?_
  obtain ⟨e9, b9⟩ := zrC_ok hf
  cases e9
  exact hq _ _ b9 dJ1_charAt_3b067_14

theorem mJ1_charAt_3b067 (l : Launch) (D : va_G) (Ca : Nat → ClassId) (B : Nat) (En : State → Prop) (hE : zEk B En) (ev : zEv) (hZ : ∀ U : State, En U → zEnv ev B U) (σ : zS) (N : Nat) (x0 : Nat) (x1 : Int32) (X : zS × Int32) (hf : fJ1_charAt_3b067 σ x0 x1 = some X) : zMi l D Ca B En yJ1_charAt_3b067 cJ1_charAt_3b067 2 (Option.some Jvm.ClassFile.FieldType.char) 2 43 [.ref (ev.2.2.1 x0), .int x1] σ N X.1 X.2 :=
  zMet_i (own := RJ1) hE (by decide +kernel) rfl (Nat.le_of_ble_eq_true rfl) (fun p e s m args below meth c C hr hRm => wfJ1_charAt_3b067 C hRm ev hZ σ x0 x1 X.1 X.2 hf (fun pc lv hb hd => zfin_c C hb hr hd))
theorem dJ2_length_9d52b_0 : decode cJ2_length_9d52b 0 = .ok (.aload_n 0, 1) := by decide +kernel
theorem dJ2_length_9d52b_1 : decode cJ2_length_9d52b 1 = .ok (.arraylength, 1) := by decide +kernel
theorem dJ2_length_9d52b_2 : decode cJ2_length_9d52b 2 = .ok (.iconst 1, 1) := by decide +kernel
theorem dJ2_length_9d52b_3 : decode cJ2_length_9d52b 3 = .ok (.ishr, 1) := by decide +kernel
theorem dJ2_length_9d52b_4 : decode cJ2_length_9d52b 4 = .ok (.ireturn, 1) := by decide +kernel
theorem hyJ2_length_9d52b : yJ2_length_9d52b.cls ≠ "java/lang/invoke/MethodHandle" ∧ yJ2_length_9d52b.cls ≠ "java/lang/invoke/VarHandle" ∧ (parseMethodDescriptor yJ2_length_9d52b.desc).map (fun d => d.parameters.length) = some 1 := ⟨by decide +kernel, by decide +kernel, by decide +kernel⟩
def fJ2_length_9d52b (σ : zS) (x0 : Nat) : Option (zS × Int32) :=
  (zstL x0).bind fun v1 => some (σ, v1 >>> (1 &&& 31))
set_option maxRecDepth 100000 in
set_option maxHeartbeats 4000000 in
theorem wfJ2_length_9d52b (C : zC p s m args meth c cJ2_length_9d52b RJ2 1 D Ca B En) (hRm : zRm R 0 0 cells slots) (ev : zEv) (hZ : ∀ U : State, En U → zEnv ev B U) (σ : zS) (x0 : Nat) (τ : zS) (r : Int32) (hf : fJ2_length_9d52b σ x0 = some (τ, r)) (hq : ∀ (pc : Nat) (lv : List (Nat × Value)), decode cJ2_length_9d52b pc = .ok (.ireturn, 1) → zW p l e R s m args below meth c cells slots Q D Ca B 1 τ N pc lv [.int r]) : zW p l e R s m args below meth c cells slots Q D Ca B 1 σ N 0 [(0, .ref (ev.2.2.1 x0))] [] := by
  unfold fJ2_length_9d52b at hf
  refine z_aload_n C dJ2_length_9d52b_0 rfl 0 rfl ?_
  obtain ⟨v1, hv1, hf⟩ := zbind hf
  refine z_alenV C ev hZ hv1 dJ2_length_9d52b_1 ?_
  refine z_iconst C 1 dJ2_length_9d52b_2 (by decide) ?_
  refine z_ishr C dJ2_length_9d52b_3 ?_
  cases hf
  exact hq _ _ dJ2_length_9d52b_4

theorem mJ2_length_9d52b (l : Launch) (D : va_G) (Ca : Nat → ClassId) (B : Nat) (En : State → Prop) (hE : zEk B En) (ev : zEv) (hZ : ∀ U : State, En U → zEnv ev B U) (σ : zS) (N : Nat) (x0 : Nat) (X : zS × Int32) (hf : fJ2_length_9d52b σ x0 = some X) : zMi l D Ca B En yJ2_length_9d52b cJ2_length_9d52b 1 (Option.some Jvm.ClassFile.FieldType.int) 0 0 [.ref (ev.2.2.1 x0)] σ N X.1 X.2 :=
  zMet_i (own := RJ2) hE (by decide +kernel) rfl (Nat.le_of_ble_eq_true rfl) (fun p e s m args below meth c C hr hRm => wfJ2_length_9d52b C hRm ev hZ σ x0 X.1 X.2 hf (fun pc lv hd => zfin_i C hr hd))
theorem dJ2_checkIndex_2214a_0 : decode cJ2_checkIndex_2214a 0 = .ok (.iload_n 0, 1) := by decide +kernel
theorem dJ2_checkIndex_2214a_1 : decode cJ2_checkIndex_2214a 1 = .ok (.aload_n 1, 1) := by decide +kernel
theorem dJ2_checkIndex_2214a_2 : decode cJ2_checkIndex_2214a 2 = .ok (.invokestatic 48, 3) := by decide +kernel
theorem dJ2_checkIndex_2214a_5 : decode cJ2_checkIndex_2214a 5 = .ok (.invokestatic 414, 3) := by decide +kernel
theorem dJ2_checkIndex_2214a_8 : decode cJ2_checkIndex_2214a 8 = .ok (.return_, 1) := by decide +kernel
theorem hyJ2_checkIndex_2214a : yJ2_checkIndex_2214a.cls ≠ "java/lang/invoke/MethodHandle" ∧ yJ2_checkIndex_2214a.cls ≠ "java/lang/invoke/VarHandle" ∧ (parseMethodDescriptor yJ2_checkIndex_2214a.desc).map (fun d => d.parameters.length) = some 2 := ⟨by decide +kernel, by decide +kernel, by decide +kernel⟩
def fJ2_checkIndex_2214a (σ : zS) (x0 : Int32) (x1 : Nat) : Option zS :=
  none
set_option maxRecDepth 100000 in
set_option maxHeartbeats 4000000 in
theorem wfJ2_checkIndex_2214a (C : zC p s m args meth c cJ2_checkIndex_2214a RJ2 2 D Ca B En) (hRm : zRm R 0 0 cells slots) (ev : zEv) (hZ : ∀ U : State, En U → zEnv ev B U) (σ : zS) (x0 : Int32) (x1 : Nat) (τ : zS) (hf : fJ2_checkIndex_2214a σ x0 x1 = some τ) (hq : ∀ (pc : Nat) (lv : List (Nat × Value)), decode cJ2_checkIndex_2214a pc = .ok (.return_, 1) → zW p l e R s m args below meth c cells slots Q D Ca B 2 τ N pc lv []) : zW p l e R s m args below meth c cells slots Q D Ca B 2 σ N 0 [(0, .int x0), (1, .ref (ev.2.2.1 x1))] [] := by
  unfold fJ2_checkIndex_2214a at hf
  refine z_iload_n C dJ2_checkIndex_2214a_0 rfl 0 rfl ?_
  refine z_aload_n C dJ2_checkIndex_2214a_1 rfl 1 rfl ?_
  cases hf

theorem mJ2_checkIndex_2214a (l : Launch) (D : va_G) (Ca : Nat → ClassId) (B : Nat) (En : State → Prop) (hE : zEk B En) (ev : zEv) (hZ : ∀ U : State, En U → zEnv ev B U) (σ : zS) (N : Nat) (x0 : Int32) (x1 : Nat) (X : zS) (hf : fJ2_checkIndex_2214a σ x0 x1 = some X) : zMv l D Ca B En yJ2_checkIndex_2214a cJ2_checkIndex_2214a 2 (Option.none : Option Jvm.ClassFile.FieldType) 0 0 [.int x0, .ref (ev.2.2.1 x1)] σ N X () :=
  zMet_v (own := RJ2) hE (by decide +kernel) rfl (Nat.le_of_ble_eq_true rfl) (fun p e s m args below meth c C hr hRm => wfJ2_checkIndex_2214a C hRm ev hZ σ x0 x1 X hf (fun pc lv hd => zfin_v (r := ()) C hr hd))
theorem dJ2_charAt_3b067_0 : decode cJ2_charAt_3b067 0 = .ok (.iload_n 1, 1) := by decide +kernel
theorem dJ2_charAt_3b067_1 : decode cJ2_charAt_3b067 1 = .ok (.aload_n 0, 1) := by decide +kernel
theorem dJ2_charAt_3b067_2 : decode cJ2_charAt_3b067 2 = .ok (.invokestatic 67, 3) := by decide +kernel
theorem dJ2_charAt_3b067_5 : decode cJ2_charAt_3b067 5 = .ok (.aload_n 0, 1) := by decide +kernel
theorem dJ2_charAt_3b067_6 : decode cJ2_charAt_3b067 6 = .ok (.iload_n 1, 1) := by decide +kernel
theorem dJ2_charAt_3b067_7 : decode cJ2_charAt_3b067 7 = .ok (.invokestatic 71, 3) := by decide +kernel
theorem dJ2_charAt_3b067_10 : decode cJ2_charAt_3b067 10 = .ok (.ireturn, 1) := by decide +kernel
theorem hyJ2_charAt_3b067 : yJ2_charAt_3b067.cls ≠ "java/lang/invoke/MethodHandle" ∧ yJ2_charAt_3b067.cls ≠ "java/lang/invoke/VarHandle" ∧ (parseMethodDescriptor yJ2_charAt_3b067.desc).map (fun d => d.parameters.length) = some 2 := ⟨by decide +kernel, by decide +kernel, by decide +kernel⟩
def fJ2_charAt_3b067 (σ : zS) (x0 : Nat) (x1 : Int32) : Option (zS × Int32) :=
  none
set_option maxRecDepth 100000 in
set_option maxHeartbeats 4000000 in
theorem wfJ2_charAt_3b067 (C : zC p s m args meth c cJ2_charAt_3b067 RJ2 2 D Ca B En) (hRm : zRm R 0 0 cells slots) (ev : zEv) (hZ : ∀ U : State, En U → zEnv ev B U) (σ : zS) (x0 : Nat) (x1 : Int32) (τ : zS) (r : Int32) (hf : fJ2_charAt_3b067 σ x0 x1 = some (τ, r)) (hq : ∀ (pc : Nat) (lv : List (Nat × Value)), ((r.toUInt32 % 65536).toInt32 = r) → decode cJ2_charAt_3b067 pc = .ok (.ireturn, 1) → zW p l e R s m args below meth c cells slots Q D Ca B 2 τ N pc lv [.int r]) : zW p l e R s m args below meth c cells slots Q D Ca B 2 σ N 0 [(0, .ref (ev.2.2.1 x0)), (1, .int x1)] [] := by
  unfold fJ2_charAt_3b067 at hf
  refine z_iload_n C dJ2_charAt_3b067_0 rfl 1 rfl ?_
  refine z_aload_n C dJ2_charAt_3b067_1 rfl 0 rfl ?_
  cases hf

theorem mJ2_charAt_3b067 (l : Launch) (D : va_G) (Ca : Nat → ClassId) (B : Nat) (En : State → Prop) (hE : zEk B En) (ev : zEv) (hZ : ∀ U : State, En U → zEnv ev B U) (σ : zS) (N : Nat) (x0 : Nat) (x1 : Int32) (X : zS × Int32) (hf : fJ2_charAt_3b067 σ x0 x1 = some X) : zMi l D Ca B En yJ2_charAt_3b067 cJ2_charAt_3b067 2 (Option.some Jvm.ClassFile.FieldType.char) 0 0 [.ref (ev.2.2.1 x0), .int x1] σ N X.1 X.2 :=
  zMet_i (own := RJ2) hE (by decide +kernel) rfl (Nat.le_of_ble_eq_true rfl) (fun p e s m args below meth c C hr hRm => wfJ2_charAt_3b067 C hRm ev hZ σ x0 x1 X.1 X.2 hf (fun pc lv hb hd => zfin_c C hb hr hd))
theorem dJ0_charAt_5068e_0 : decode cJ0_charAt_5068e 0 = .ok (.aload_n 0, 1) := by decide +kernel
theorem dJ0_charAt_5068e_1 : decode cJ0_charAt_5068e 1 = .ok (.invokevirtual 492, 3) := by decide +kernel
theorem dJ0_charAt_5068e_4 : decode cJ0_charAt_5068e 4 = .ok (.ifCond .eq 12, 3) := by decide +kernel
theorem dJ0_charAt_5068e_7 : decode cJ0_charAt_5068e 7 = .ok (.aload_n 0, 1) := by decide +kernel
theorem dJ0_charAt_5068e_8 : decode cJ0_charAt_5068e 8 = .ok (.getfield 9, 3) := by decide +kernel
theorem dJ0_charAt_5068e_11 : decode cJ0_charAt_5068e 11 = .ok (.iload_n 1, 1) := by decide +kernel
theorem dJ0_charAt_5068e_12 : decode cJ0_charAt_5068e 12 = .ok (.invokestatic 495, 3) := by decide +kernel
theorem dJ0_charAt_5068e_15 : decode cJ0_charAt_5068e 15 = .ok (.ireturn, 1) := by decide +kernel
theorem dJ0_charAt_5068e_16 : decode cJ0_charAt_5068e 16 = .ok (.aload_n 0, 1) := by decide +kernel
theorem dJ0_charAt_5068e_17 : decode cJ0_charAt_5068e 17 = .ok (.getfield 9, 3) := by decide +kernel
theorem dJ0_charAt_5068e_20 : decode cJ0_charAt_5068e 20 = .ok (.iload_n 1, 1) := by decide +kernel
theorem dJ0_charAt_5068e_21 : decode cJ0_charAt_5068e 21 = .ok (.invokestatic 498, 3) := by decide +kernel
theorem dJ0_charAt_5068e_24 : decode cJ0_charAt_5068e 24 = .ok (.ireturn, 1) := by decide +kernel
theorem hyJ0_charAt_5068e : yJ0_charAt_5068e.cls ≠ "java/lang/invoke/MethodHandle" ∧ yJ0_charAt_5068e.cls ≠ "java/lang/invoke/VarHandle" ∧ (parseMethodDescriptor yJ0_charAt_5068e.desc).map (fun d => d.parameters.length) = some 1 := ⟨by decide +kernel, by decide +kernel, by decide +kernel⟩
def fJ0_charAt_5068e (σ : zS) (x0 : Nat) (x1 : Int32) : Option (zS × Int32) :=
  (zsck x0 (fJ0_isLatin1_aae02 σ x0 )).bind fun c1 => (if c1.2 = 0 then (zstV x0).bind fun v2 => none else (zstV x0).bind fun v3 => (fJ1_charAt_3b067 c1.1 v3 x1).bind fun c4 => zrC c4.1 c4.2)
set_option maxRecDepth 100000 in
set_option maxHeartbeats 4000000 in
theorem wfJ0_charAt_5068e (C : zC p s m args meth c cJ0_charAt_5068e RJ0 2 D Ca B En) (hRm : zRm R 3 64 cells slots) (ev : zEv) (hZ : ∀ U : State, En U → zEnv ev B U) (σ : zS) (x0 : Nat) (x1 : Int32) (τ : zS) (r : Int32) (hf : fJ0_charAt_5068e σ x0 x1 = some (τ, r)) (hq : ∀ (pc : Nat) (lv : List (Nat × Value)), ((r.toUInt32 % 65536).toInt32 = r) → decode cJ0_charAt_5068e pc = .ok (.ireturn, 1) → zW p l e R s m args below meth c cells slots Q D Ca B 2 τ N pc lv [.int r]) : zW p l e R s m args below meth c cells slots Q D Ca B 2 σ N 0 [(0, .ref (ev.2.1 x0)), (1, .int x1)] [] := by
  unfold fJ0_charAt_5068e at hf
  refine z_aload_n C dJ0_charAt_5068e_0 rfl 0 rfl ?_
  obtain ⟨c1, hc1, hf⟩ := zbind hf
  obtain ⟨kc1, hc1⟩ := zsck_ok hc1
  refine z_callTi (As := []) (F0 := 3) (L0 := 64) C ev hZ (mJ0_isLatin1_aae02 l D Ca B En C.2.2.2.2.2.2.2.1 ev hZ σ N x0  _ hc1) hRm kc1 rfl kw_548 kw_15 kw_545 kw_546 kw_547 hyJ0_isLatin1_aae02 (Nat.le_of_ble_eq_true rfl) (Nat.le_of_ble_eq_true rfl) rfl rfl (Nat.le_of_ble_eq_true rfl) dJ0_charAt_5068e_1 ?_
  refine z_if_eq C 16 dJ0_charAt_5068e_4 (by decide) (fun q5 => ?_) (fun q5 => ?_)
  · rw [if_pos q5] at hf
    refine z_aload_n C dJ0_charAt_5068e_16 rfl 0 rfl ?_
    obtain ⟨v2, hv2, hf⟩ := zbind hf
    refine z_gSv C ev hZ hv2 kw_1946 dJ0_charAt_5068e_17 ?_
    refine z_iload_n C dJ0_charAt_5068e_20 rfl 1 rfl ?_
    cases hf
  · rw [if_neg q5] at hf
    refine z_aload_n C dJ0_charAt_5068e_7 rfl 0 rfl ?_
    obtain ⟨v3, hv3, hf⟩ := zbind hf
    refine z_gSv C ev hZ hv3 kw_1946 dJ0_charAt_5068e_8 ?_
    refine z_iload_n C dJ0_charAt_5068e_11 rfl 1 rfl ?_
    obtain ⟨c4, hc4, hf⟩ := zbind hf
    refine z_callSi (As := [.ref (ev.2.2.1 v3), .int x1]) (F0 := 3) (L0 := 64) C (mJ1_charAt_3b067 l D Ca B En C.2.2.2.2.2.2.2.1 ev hZ c1.1 N v3 x1 _ hc4) hRm kw_551 kw_16 kw_549 kw_550 hyJ1_charAt_3b067 (Nat.le_of_ble_eq_true rfl) (Nat.le_of_ble_eq_true rfl) rfl rfl (Nat.le_of_ble_eq_true rfl) dJ0_charAt_5068e_12 ?_
    obtain ⟨e9, b9⟩ := zrC_ok hf
    cases e9
    exact hq _ _ b9 dJ0_charAt_5068e_15

theorem mJ0_charAt_5068e (l : Launch) (D : va_G) (Ca : Nat → ClassId) (B : Nat) (En : State → Prop) (hE : zEk B En) (ev : zEv) (hZ : ∀ U : State, En U → zEnv ev B U) (σ : zS) (N : Nat) (x0 : Nat) (x1 : Int32) (X : zS × Int32) (hf : fJ0_charAt_5068e σ x0 x1 = some X) : zMi l D Ca B En yJ0_charAt_5068e cJ0_charAt_5068e 2 (Option.some Jvm.ClassFile.FieldType.char) 3 64 [.ref (ev.2.1 x0), .int x1] σ N X.1 X.2 :=
  zMet_i (own := RJ0) hE (by decide +kernel) rfl (Nat.le_of_ble_eq_true rfl) (fun p e s m args below meth c C hr hRm => wfJ0_charAt_5068e C hRm ev hZ σ x0 x1 X.1 X.2 hf (fun pc lv hb hd => zfin_c C hb hr hd))
theorem dX5_isToken_0 : decode cX5_isToken 0 = .ok (.aload_n 1, 1) := by decide +kernel
theorem dX5_isToken_1 : decode cX5_isToken 1 = .ok (.invokevirtual 152, 3) := by decide +kernel
theorem dX5_isToken_4 : decode cX5_isToken 4 = .ok (.aload_n 0, 1) := by decide +kernel
theorem dX5_isToken_5 : decode cX5_isToken 5 = .ok (.getfield 31, 3) := by decide +kernel
theorem dX5_isToken_8 : decode cX5_isToken 8 = .ok (.aload_n 0, 1) := by decide +kernel
theorem dX5_isToken_9 : decode cX5_isToken 9 = .ok (.getfield 114, 3) := by decide +kernel
theorem dX5_isToken_12 : decode cX5_isToken 12 = .ok (.isub, 1) := by decide +kernel
theorem dX5_isToken_13 : decode cX5_isToken 13 = .ok (.if_icmp .eq 5, 3) := by decide +kernel
theorem dX5_isToken_16 : decode cX5_isToken 16 = .ok (.iconst 0, 1) := by decide +kernel
theorem dX5_isToken_17 : decode cX5_isToken 17 = .ok (.ireturn, 1) := by decide +kernel
theorem dX5_isToken_18 : decode cX5_isToken 18 = .ok (.iconst 0, 1) := by decide +kernel
theorem dX5_isToken_19 : decode cX5_isToken 19 = .ok (.istore_n 2, 1) := by decide +kernel
theorem dX5_isToken_20 : decode cX5_isToken 20 = .ok (.iload_n 2, 1) := by decide +kernel
theorem dX5_isToken_21 : decode cX5_isToken 21 = .ok (.aload_n 1, 1) := by decide +kernel
theorem dX5_isToken_22 : decode cX5_isToken 22 = .ok (.invokevirtual 152, 3) := by decide +kernel
theorem dX5_isToken_25 : decode cX5_isToken 25 = .ok (.if_icmp .ge 32, 3) := by decide +kernel
theorem dX5_isToken_28 : decode cX5_isToken 28 = .ok (.aload_n 1, 1) := by decide +kernel
theorem dX5_isToken_29 : decode cX5_isToken 29 = .ok (.iload_n 2, 1) := by decide +kernel
theorem dX5_isToken_30 : decode cX5_isToken 30 = .ok (.invokevirtual 158, 3) := by decide +kernel
theorem dX5_isToken_33 : decode cX5_isToken 33 = .ok (.aload_n 0, 1) := by decide +kernel
theorem dX5_isToken_34 : decode cX5_isToken 34 = .ok (.getfield 15, 3) := by decide +kernel
theorem dX5_isToken_37 : decode cX5_isToken 37 = .ok (.aload_n 0, 1) := by decide +kernel
theorem dX5_isToken_38 : decode cX5_isToken 38 = .ok (.getfield 114, 3) := by decide +kernel
theorem dX5_isToken_41 : decode cX5_isToken 41 = .ok (.iload_n 2, 1) := by decide +kernel
theorem dX5_isToken_42 : decode cX5_isToken 42 = .ok (.iadd, 1) := by decide +kernel
theorem dX5_isToken_43 : decode cX5_isToken 43 = .ok (.invokevirtual 131, 3) := by decide +kernel
theorem dX5_isToken_46 : decode cX5_isToken 46 = .ok (.if_icmp .eq 5, 3) := by decide +kernel
theorem dX5_isToken_49 : decode cX5_isToken 49 = .ok (.iconst 0, 1) := by decide +kernel
theorem dX5_isToken_50 : decode cX5_isToken 50 = .ok (.ireturn, 1) := by decide +kernel
theorem dX5_isToken_51 : decode cX5_isToken 51 = .ok (.iinc 2 1, 3) := by decide +kernel
theorem dX5_isToken_54 : decode cX5_isToken 54 = .ok (.goto (-34), 3) := by decide +kernel
theorem dX5_isToken_57 : decode cX5_isToken 57 = .ok (.iconst 1, 1) := by decide +kernel
theorem dX5_isToken_58 : decode cX5_isToken 58 = .ok (.ireturn, 1) := by decide +kernel
theorem hyX5_isToken : yX5_isToken.cls ≠ "java/lang/invoke/MethodHandle" ∧ yX5_isToken.cls ≠ "java/lang/invoke/VarHandle" ∧ (parseMethodDescriptor yX5_isToken.desc).map (fun d => d.parameters.length) = some 1 := ⟨by decide +kernel, by decide +kernel, by decide +kernel⟩
def sX5_isToken_20b (x0 : Nat) (x1 : Nat) (σ : zS) (u2 : Int32) : Option ((zS × Int32) ⊕ (zS ⊕ zS)) :=
  (zsck x1 (fJ0_length_8abf5 σ x1 )).bind fun c4 => (if c4.2 ≤ u2 then some (.inr (.inr c4.1)) else (zsck x1 (fJ0_charAt_5068e c4.1 x1 u2)).bind fun c5 => (zgR 5 2 c5.1 x0).bind fun v6 => (zgI 5 5 c5.1 x0).bind fun v7 => (zck 2 c5.1 v6 (fX2_byteAt c5.1 v6 (v7 + u2))).bind fun c8 => (if c5.2 = c8.2 then some (.inl (c8.1, u2 + 1)) else some (.inr (.inl c8.1))))
def sX5_isToken_20 (x0 : Nat) (x1 : Nat) (z : (zS × Int32)) : Option ((zS × Int32) ⊕ (zS ⊕ zS)) := sX5_isToken_20b x0 x1 z.1 z.2
set_option maxRecDepth 100000 in
set_option maxHeartbeats 4000000 in
theorem wsX5_isToken_20b (C : zC p s m args meth c cX5_isToken RX5 3 D Ca B En) (hRm : zRm R 4 85 cells slots) (ev : zEv) (hZ : ∀ U : State, En U → zEnv ev B U) (x0 : Nat) (x1 : Nat) (σ : zS) (u2 : Int32) (y : (zS × Int32) ⊕ (zS ⊕ zS)) (hf : sX5_isToken_20b x0 x1 σ u2 = some y) (hk : (∀ z : (zS × Int32), y = .inl z → zW p l e R s m args below meth c cells slots Q D Ca B 3 z.1 N 20 [(0, .ref x0), (1, .ref (ev.2.1 x1)), (2, .int z.2)] []) ∧ (∀ z : zS, y = .inr (.inl z) → zW p l e R s m args below meth c cells slots Q D Ca B 3 z N 49 [] []) ∧ (∀ z : zS, y = .inr (.inr z) → zW p l e R s m args below meth c cells slots Q D Ca B 3 z N 57 [] [])) : zW p l e R s m args below meth c cells slots Q D Ca B 3 σ N 20 [(0, .ref x0), (1, .ref (ev.2.1 x1)), (2, .int u2)] [] := by
  unfold sX5_isToken_20b at hf
  refine z_iload_n C dX5_isToken_20 rfl 2 rfl ?_
  refine z_aload_n C dX5_isToken_21 rfl 1 rfl ?_
  obtain ⟨c4, hc4, hf⟩ := zbind hf
  obtain ⟨kc4, hc4⟩ := zsck_ok hc4
  refine z_callTi (As := []) (F0 := 4) (L0 := 85) C ev hZ (mJ0_length_8abf5 l D Ca B En C.2.2.2.2.2.2.2.1 ev hZ σ N x1  _ hc4) hRm kc4 rfl kw_534 kw_15 kw_531 kw_532 kw_533 hyJ0_length_8abf5 (Nat.le_of_ble_eq_true rfl) (Nat.le_of_ble_eq_true rfl) rfl rfl (Nat.le_of_ble_eq_true rfl) dX5_isToken_22 ?_
  refine z_icmp_ge C 57 dX5_isToken_25 (by decide) (fun q10 => ?_) (fun q10 => ?_)
  · rw [if_pos q10] at hf
    cases hf
    refine z_sub [] rfl ?_
    exact hk.2.2 _ rfl
  · rw [if_neg q10] at hf
    refine z_aload_n C dX5_isToken_28 rfl 1 rfl ?_
    refine z_iload_n C dX5_isToken_29 rfl 2 rfl ?_
    obtain ⟨c5, hc5, hf⟩ := zbind hf
    obtain ⟨kc5, hc5⟩ := zsck_ok hc5
    refine z_callTi (As := [.int u2]) (F0 := 4) (L0 := 85) C ev hZ (mJ0_charAt_5068e l D Ca B En C.2.2.2.2.2.2.2.1 ev hZ c4.1 N x1 u2 _ hc5) hRm kc5 rfl kw_544 kw_15 kw_541 kw_542 kw_543 hyJ0_charAt_5068e (Nat.le_of_ble_eq_true rfl) (Nat.le_of_ble_eq_true rfl) rfl rfl (Nat.le_of_ble_eq_true rfl) dX5_isToken_30 ?_
    refine z_aload_n C dX5_isToken_33 rfl 0 rfl ?_
    obtain ⟨v6, hv6, hf⟩ := zbind hf
    refine gf_RX5_15 C hv6 dX5_isToken_34 ?_
    refine z_aload_n C dX5_isToken_37 rfl 0 rfl ?_
    obtain ⟨v7, hv7, hf⟩ := zbind hf
    refine gf_RX5_114 C hv7 dX5_isToken_38 ?_
    refine z_iload_n C dX5_isToken_41 rfl 2 rfl ?_
    refine z_iadd C dX5_isToken_42 ?_
    obtain ⟨c8, hc8, hf⟩ := zbind hf
    obtain ⟨kc8, hc8⟩ := zck_ok hc8
    refine z_callVi (As := [.int (v7 + u2)]) (F0 := 4) (L0 := 85) C (mX2_byteAt l D Ca B En C.2.2.2.2.2.2.2.1 c5.1 N v6 (v7 + u2) _ hc8) hRm kc8 rfl kw_512 kw_2 kw_509 kw_510 kw_511 hyX2_byteAt (Nat.le_of_ble_eq_true rfl) (Nat.le_of_ble_eq_true rfl) rfl rfl (Nat.le_of_ble_eq_true rfl) dX5_isToken_43 ?_
    refine z_icmp_eq C 51 dX5_isToken_46 (by decide) (fun q9 => ?_) (fun q9 => ?_)
    · rw [if_pos q9] at hf
      refine z_iinc (lv2 := [(2, .int (u2 + 1)), (0, .ref x0), (1, .ref (ev.2.1 x1))]) C (u2 + 1) dX5_isToken_51 2 rfl rfl (by decide) rfl ?_
      refine z_goto C 20 dX5_isToken_54 (by decide) ?_
      cases hf
      refine z_sub [1, 2, 0] rfl ?_
      exact hk.1 _ rfl
    · rw [if_neg q9] at hf
      cases hf
      refine z_sub [] rfl ?_
      exact hk.2.1 _ rfl

theorem wsX5_isToken_20 (C : zC p s m args meth c cX5_isToken RX5 3 D Ca B En) (hRm : zRm R 4 85 cells slots) (ev : zEv) (hZ : ∀ U : State, En U → zEnv ev B U) (x0 : Nat) (x1 : Nat) (n : Nat) (z : (zS × Int32)) (x : (zS ⊕ zS)) (hf : zloop (sX5_isToken_20 x0 x1) n z = some x) (hk : (∀ o : zS, x = (.inl o) → zW p l e R s m args below meth c cells slots Q D Ca B 3 o N 49 [] []) ∧ (∀ o : zS, x = (.inr o) → zW p l e R s m args below meth c cells slots Q D Ca B 3 o N 57 [] [])) : zW p l e R s m args below meth c cells slots Q D Ca B 3 z.1 N 20 [(0, .ref x0), (1, .ref (ev.2.1 x1)), (2, .int z.2)] [] := by
  refine zloop_W (P := fun z : (zS × Int32) => zW p l e R s m args below meth c cells slots Q D Ca B 3 z.1 N 20 [(0, .ref x0), (1, .ref (ev.2.1 x1)), (2, .int z.2)] []) (K := fun x : (zS ⊕ zS) => (∀ o : zS, x = (.inl o) → zW p l e R s m args below meth c cells slots Q D Ca B 3 o N 49 [] []) ∧ (∀ o : zS, x = (.inr o) → zW p l e R s m args below meth c cells slots Q D Ca B 3 o N 57 [] [])) ?_ n z x hf hk
  intro z y hy h1 h2
  refine wsX5_isToken_20b C hRm ev hZ x0 x1 z.1 z.2 y hy ⟨fun z2 e => h1 z2 e, fun o e => (h2 _ e).1 o rfl, fun o e => (h2 _ e).2 o rfl⟩
def fX5_isToken (σ : zS) (x0 : Nat) (x1 : Nat) : Option (zS × Int32) :=
  (zsck x1 (fJ0_length_8abf5 σ x1 )).bind fun c1 => (zgI 5 6 c1.1 x0).bind fun v2 => (zgI 5 5 c1.1 x0).bind fun v3 => (if c1.2 = (v2 - v3) then (zloop (sX5_isToken_20 x0 x1) zfuel (c1.1, 0)).bind fun o11 => (match o11 with | (.inl z12) => zrZ z12 0 | (.inr z13) => zrZ z13 1) else zrZ c1.1 0)
set_option maxRecDepth 100000 in
set_option maxHeartbeats 4000000 in
theorem wfX5_isToken (C : zC p s m args meth c cX5_isToken RX5 3 D Ca B En) (hRm : zRm R 4 85 cells slots) (ev : zEv) (hZ : ∀ U : State, En U → zEnv ev B U) (σ : zS) (x0 : Nat) (x1 : Nat) (τ : zS) (r : Int32) (hf : fX5_isToken σ x0 x1 = some (τ, r)) (hq : ∀ (pc : Nat) (lv : List (Nat × Value)), (r = 0 ∨ r = 1) → decode cX5_isToken pc = .ok (.ireturn, 1) → zW p l e R s m args below meth c cells slots Q D Ca B 3 τ N pc lv [.int r]) : zW p l e R s m args below meth c cells slots Q D Ca B 3 σ N 0 [(0, .ref x0), (1, .ref (ev.2.1 x1))] [] := by
  unfold fX5_isToken at hf
  refine z_aload_n C dX5_isToken_0 rfl 1 rfl ?_
  obtain ⟨c1, hc1, hf⟩ := zbind hf
  obtain ⟨kc1, hc1⟩ := zsck_ok hc1
  refine z_callTi (As := []) (F0 := 4) (L0 := 85) C ev hZ (mJ0_length_8abf5 l D Ca B En C.2.2.2.2.2.2.2.1 ev hZ σ N x1  _ hc1) hRm kc1 rfl kw_534 kw_15 kw_531 kw_532 kw_533 hyJ0_length_8abf5 (Nat.le_of_ble_eq_true rfl) (Nat.le_of_ble_eq_true rfl) rfl rfl (Nat.le_of_ble_eq_true rfl) dX5_isToken_1 ?_
  refine z_aload_n C dX5_isToken_4 rfl 0 rfl ?_
  obtain ⟨v2, hv2, hf⟩ := zbind hf
  refine gf_RX5_31 C hv2 dX5_isToken_5 ?_
  refine z_aload_n C dX5_isToken_8 rfl 0 rfl ?_
  obtain ⟨v3, hv3, hf⟩ := zbind hf
  refine gf_RX5_114 C hv3 dX5_isToken_9 ?_
  refine z_isub C dX5_isToken_12 ?_
  refine z_icmp_eq C 18 dX5_isToken_13 (by decide) (fun q14 => ?_) (fun q14 => ?_)
  · rw [if_pos q14] at hf
    refine z_iconst C 0 dX5_isToken_18 (by decide) ?_
    refine z_istore_n (lv2 := [(2, .int 0), (0, .ref x0), (1, .ref (ev.2.1 x1))]) C dX5_isToken_19 rfl (by decide) rfl ?_
    obtain ⟨o11, ho11, hf⟩ := zbind hf
    refine z_sub [1, 2, 0] rfl ?_
    refine wsX5_isToken_20 C hRm ev hZ _ _ zfuel (c1.1, 0) o11 ho11 ⟨?_, ?_⟩
    · intro z12 e9
      subst e9
      dsimp only at hf
      refine z_iconst C 0 dX5_isToken_49 (by decide) ?_
      obtain ⟨e9, b9⟩ := zrZ_ok hf
      cases e9
      exact hq _ _ b9 dX5_isToken_50
    · intro z13 e9
      subst e9
      dsimp only at hf
      refine z_iconst C 1 dX5_isToken_57 (by decide) ?_
      obtain ⟨e9, b9⟩ := zrZ_ok hf
      cases e9
      exact hq _ _ b9 dX5_isToken_58
  · rw [if_neg q14] at hf
    refine z_iconst C 0 dX5_isToken_16 (by decide) ?_
    obtain ⟨e9, b9⟩ := zrZ_ok hf
    cases e9
    exact hq _ _ b9 dX5_isToken_17

theorem mX5_isToken (l : Launch) (D : va_G) (Ca : Nat → ClassId) (B : Nat) (En : State → Prop) (hE : zEk B En) (ev : zEv) (hZ : ∀ U : State, En U → zEnv ev B U) (σ : zS) (N : Nat) (x0 : Nat) (x1 : Nat) (X : zS × Int32) (hf : fX5_isToken σ x0 x1 = some X) : zMi l D Ca B En yX5_isToken cX5_isToken 3 (Option.some Jvm.ClassFile.FieldType.boolean) 4 85 [.ref x0, .ref (ev.2.1 x1)] σ N X.1 X.2 :=
  zMet_i (own := RX5) hE (by decide +kernel) rfl (Nat.le_of_ble_eq_true rfl) (fun p e s m args below meth c C hr hRm => wfX5_isToken C hRm ev hZ σ x0 x1 X.1 X.2 hf (fun pc lv hb hd => zfin_z C hb hr hd))
theorem dX5_quotedWord_0 : decode cX5_quotedWord 0 = .ok (.aload_n 0, 1) := by decide +kernel
theorem dX5_quotedWord_1 : decode cX5_quotedWord 1 = .ok (.getfield 37, 3) := by decide +kernel
theorem dX5_quotedWord_4 : decode cX5_quotedWord 4 = .ok (.iconst 1, 1) := by decide +kernel
theorem dX5_quotedWord_5 : decode cX5_quotedWord 5 = .ok (.if_icmp .eq 5, 3) := by decide +kernel
theorem dX5_quotedWord_8 : decode cX5_quotedWord 8 = .ok (.aconst_null, 1) := by decide +kernel
theorem dX5_quotedWord_9 : decode cX5_quotedWord 9 = .ok (.areturn, 1) := by decide +kernel
theorem dX5_quotedWord_10 : decode cX5_quotedWord 10 = .ok (.getstatic 141, 3) := by decide +kernel
theorem dX5_quotedWord_13 : decode cX5_quotedWord 13 = .ok (.astore_n 1, 1) := by decide +kernel
theorem dX5_quotedWord_14 : decode cX5_quotedWord 14 = .ok (.aload_n 1, 1) := by decide +kernel
theorem dX5_quotedWord_15 : decode cX5_quotedWord 15 = .ok (.arraylength, 1) := by decide +kernel
theorem dX5_quotedWord_16 : decode cX5_quotedWord 16 = .ok (.istore_n 2, 1) := by decide +kernel
theorem dX5_quotedWord_17 : decode cX5_quotedWord 17 = .ok (.iconst 0, 1) := by decide +kernel
theorem dX5_quotedWord_18 : decode cX5_quotedWord 18 = .ok (.istore_n 3, 1) := by decide +kernel
theorem dX5_quotedWord_19 : decode cX5_quotedWord 19 = .ok (.iload_n 3, 1) := by decide +kernel
theorem dX5_quotedWord_20 : decode cX5_quotedWord 20 = .ok (.iload_n 2, 1) := by decide +kernel
theorem dX5_quotedWord_21 : decode cX5_quotedWord 21 = .ok (.if_icmp .ge 29, 3) := by decide +kernel
theorem dX5_quotedWord_24 : decode cX5_quotedWord 24 = .ok (.aload_n 1, 1) := by decide +kernel
theorem dX5_quotedWord_25 : decode cX5_quotedWord 25 = .ok (.iload_n 3, 1) := by decide +kernel
theorem dX5_quotedWord_26 : decode cX5_quotedWord 26 = .ok (.aaload, 1) := by decide +kernel
theorem dX5_quotedWord_27 : decode cX5_quotedWord 27 = .ok (.astore 4, 2) := by decide +kernel
theorem dX5_quotedWord_29 : decode cX5_quotedWord 29 = .ok (.aload_n 0, 1) := by decide +kernel
theorem dX5_quotedWord_30 : decode cX5_quotedWord 30 = .ok (.aload 4, 2) := by decide +kernel
theorem dX5_quotedWord_32 : decode cX5_quotedWord 32 = .ok (.getfield 145, 3) := by decide +kernel
theorem dX5_quotedWord_35 : decode cX5_quotedWord 35 = .ok (.invokevirtual 148, 3) := by decide +kernel
theorem dX5_quotedWord_38 : decode cX5_quotedWord 38 = .ok (.ifCond .eq 6, 3) := by decide +kernel
theorem dX5_quotedWord_41 : decode cX5_quotedWord 41 = .ok (.aload 4, 2) := by decide +kernel
theorem dX5_quotedWord_43 : decode cX5_quotedWord 43 = .ok (.areturn, 1) := by decide +kernel
theorem dX5_quotedWord_44 : decode cX5_quotedWord 44 = .ok (.iinc 3 1, 3) := by decide +kernel
theorem dX5_quotedWord_47 : decode cX5_quotedWord 47 = .ok (.goto (-28), 3) := by decide +kernel
theorem dX5_quotedWord_50 : decode cX5_quotedWord 50 = .ok (.aconst_null, 1) := by decide +kernel
theorem dX5_quotedWord_51 : decode cX5_quotedWord 51 = .ok (.areturn, 1) := by decide +kernel
theorem hyX5_quotedWord : yX5_quotedWord.cls ≠ "java/lang/invoke/MethodHandle" ∧ yX5_quotedWord.cls ≠ "java/lang/invoke/VarHandle" ∧ (parseMethodDescriptor yX5_quotedWord.desc).map (fun d => d.parameters.length) = some 0 := ⟨by decide +kernel, by decide +kernel, by decide +kernel⟩
def sX5_quotedWord_19b (x0 : Nat) (x2 : Int32) (σ : zS) (u3 : Int32) : Option ((zS × Int32) ⊕ ((zS × Nat) ⊕ zS)) :=
  (if x2 ≤ u3 then some (.inr (.inr σ)) else (zwA u3).bind fun v3 => (zwX v3).bind fun v4 => (zck 5 σ x0 (fX5_isToken σ x0 v4)).bind fun c5 => (if c5.2 = 0 then some (.inl (c5.1, u3 + 1)) else some (.inr (.inl (c5.1, v3)))))
def sX5_quotedWord_19 (x0 : Nat) (x2 : Int32) (z : (zS × Int32)) : Option ((zS × Int32) ⊕ ((zS × Nat) ⊕ zS)) := sX5_quotedWord_19b x0 x2 z.1 z.2
set_option maxRecDepth 100000 in
set_option maxHeartbeats 4000000 in
theorem wsX5_quotedWord_19b (C : zC p s m args meth c cX5_quotedWord RX5 5 D Ca B En) (hRm : zRm R 5 107 cells slots) (ev : zEv) (hZ : ∀ U : State, En U → zEnv ev B U) (x0 : Nat) (x2 : Int32) (σ : zS) (u3 : Int32) (y : (zS × Int32) ⊕ ((zS × Nat) ⊕ zS)) (hf : sX5_quotedWord_19b x0 x2 σ u3 = some y) (hk : (∀ z : (zS × Int32), y = .inl z → zW p l e R s m args below meth c cells slots Q D Ca B 5 z.1 N 19 [(0, .ref x0), (1, .ref ev.2.2.2.1), (2, .int x2), (3, .int z.2)] []) ∧ (∀ z : (zS × Nat), y = .inr (.inl z) → zW p l e R s m args below meth c cells slots Q D Ca B 5 z.1 N 41 [(4, .ref (ev.1 z.2))] []) ∧ (∀ z : zS, y = .inr (.inr z) → zW p l e R s m args below meth c cells slots Q D Ca B 5 z N 50 [] [])) : zW p l e R s m args below meth c cells slots Q D Ca B 5 σ N 19 [(0, .ref x0), (1, .ref ev.2.2.2.1), (2, .int x2), (3, .int u3)] [] := by
  unfold sX5_quotedWord_19b at hf
  refine z_iload_n C dX5_quotedWord_19 rfl 3 rfl ?_
  refine z_iload_n C dX5_quotedWord_20 rfl 2 rfl ?_
  refine z_icmp_ge C 50 dX5_quotedWord_21 (by decide) (fun q7 => ?_) (fun q7 => ?_)
  · rw [if_pos q7] at hf
    cases hf
    refine z_sub [] rfl ?_
    exact hk.2.2 _ rfl
  · rw [if_neg q7] at hf
    refine z_aload_n C dX5_quotedWord_24 rfl 1 rfl ?_
    refine z_iload_n C dX5_quotedWord_25 rfl 3 rfl ?_
    obtain ⟨v3, hv3, hf⟩ := zbind hf
    refine z_aW C ev hZ hv3 dX5_quotedWord_26 ?_
    refine z_astore (lv2 := [(4, .ref (ev.1 v3)), (0, .ref x0), (1, .ref ev.2.2.2.1), (2, .int x2), (3, .int u3)]) C dX5_quotedWord_27 (by decide) rfl ?_
    refine z_aload_n C dX5_quotedWord_29 rfl 1 rfl ?_
    refine z_aload C dX5_quotedWord_30 0 rfl ?_
    obtain ⟨v4, hv4, hf⟩ := zbind hf
    refine z_gWt C ev hZ hv4 kw_1945 dX5_quotedWord_32 ?_
    obtain ⟨c5, hc5, hf⟩ := zbind hf
    obtain ⟨kc5, hc5⟩ := zck_ok hc5
    refine z_callVi (As := [.ref (ev.2.1 v4)]) (F0 := 5) (L0 := 107) C (mX5_isToken l D Ca B En C.2.2.2.2.2.2.2.1 ev hZ σ N x0 v4 _ hc5) hRm kc5 rfl kw_530 kw_3 kw_527 kw_529 kp_9 hyX5_isToken (Nat.le_of_ble_eq_true rfl) (Nat.le_of_ble_eq_true rfl) rfl rfl (Nat.le_of_ble_eq_true rfl) dX5_quotedWord_35 ?_
    refine z_if_eq C 44 dX5_quotedWord_38 (by decide) (fun q6 => ?_) (fun q6 => ?_)
    · rw [if_pos q6] at hf
      refine z_iinc (lv2 := [(3, .int (u3 + 1)), (4, .ref (ev.1 v3)), (0, .ref x0), (1, .ref ev.2.2.2.1), (2, .int x2)]) C (u3 + 1) dX5_quotedWord_44 4 rfl rfl (by decide) rfl ?_
      refine z_goto C 19 dX5_quotedWord_47 (by decide) ?_
      cases hf
      refine z_sub [2, 3, 4, 0] rfl ?_
      exact hk.1 _ rfl
    · rw [if_neg q6] at hf
      cases hf
      refine z_sub [0] rfl ?_
      exact hk.2.1 _ rfl

theorem wsX5_quotedWord_19 (C : zC p s m args meth c cX5_quotedWord RX5 5 D Ca B En) (hRm : zRm R 5 107 cells slots) (ev : zEv) (hZ : ∀ U : State, En U → zEnv ev B U) (x0 : Nat) (x2 : Int32) (n : Nat) (z : (zS × Int32)) (x : ((zS × Nat) ⊕ zS)) (hf : zloop (sX5_quotedWord_19 x0 x2) n z = some x) (hk : (∀ o : (zS × Nat), x = (.inl o) → zW p l e R s m args below meth c cells slots Q D Ca B 5 o.1 N 41 [(4, .ref (ev.1 o.2))] []) ∧ (∀ o : zS, x = (.inr o) → zW p l e R s m args below meth c cells slots Q D Ca B 5 o N 50 [] [])) : zW p l e R s m args below meth c cells slots Q D Ca B 5 z.1 N 19 [(0, .ref x0), (1, .ref ev.2.2.2.1), (2, .int x2), (3, .int z.2)] [] := by
  refine zloop_W (P := fun z : (zS × Int32) => zW p l e R s m args below meth c cells slots Q D Ca B 5 z.1 N 19 [(0, .ref x0), (1, .ref ev.2.2.2.1), (2, .int x2), (3, .int z.2)] []) (K := fun x : ((zS × Nat) ⊕ zS) => (∀ o : (zS × Nat), x = (.inl o) → zW p l e R s m args below meth c cells slots Q D Ca B 5 o.1 N 41 [(4, .ref (ev.1 o.2))] []) ∧ (∀ o : zS, x = (.inr o) → zW p l e R s m args below meth c cells slots Q D Ca B 5 o N 50 [] [])) ?_ n z x hf hk
  intro z y hy h1 h2
  refine wsX5_quotedWord_19b C hRm ev hZ x0 x2 z.1 z.2 y hy ⟨fun z2 e => h1 z2 e, fun o e => (h2 _ e).1 o rfl, fun o e => (h2 _ e).2 o rfl⟩
def fX5_quotedWord (σ : zS) (x0 : Nat) : Option (zS × Option Nat) :=
  (zgI 5 4 σ x0).bind fun v1 => (if v1 = 1 then (zwN).bind fun v2 => (zloop (sX5_quotedWord_19 x0 v2) zfuel (σ, 0)).bind fun o8 => (match o8 with | (.inl z9) => some (z9.1, some z9.2) | (.inr z10) => some (z10, none)) else some (σ, none))
set_option maxRecDepth 100000 in
set_option maxHeartbeats 4000000 in
theorem wfX5_quotedWord (C : zC p s m args meth c cX5_quotedWord RX5 5 D Ca B En) (hRm : zRm R 5 107 cells slots) (ev : zEv) (hZ : ∀ U : State, En U → zEnv ev B U) (σ : zS) (x0 : Nat) (τ : zS) (r : Option Nat) (hf : fX5_quotedWord σ x0 = some (τ, r)) (hq : ∀ (pc : Nat) (lv : List (Nat × Value)), decode cX5_quotedWord pc = .ok (.areturn, 1) → zW p l e R s m args below meth c cells slots Q D Ca B 5 τ N pc lv [va_rf (r.map ev.1)]) : zW p l e R s m args below meth c cells slots Q D Ca B 5 σ N 0 [(0, .ref x0)] [] := by
  unfold fX5_quotedWord at hf
  refine z_aload_n C dX5_quotedWord_0 rfl 0 rfl ?_
  obtain ⟨v1, hv1, hf⟩ := zbind hf
  refine gf_RX5_37 C hv1 dX5_quotedWord_1 ?_
  refine z_iconst C 1 dX5_quotedWord_4 (by decide) ?_
  refine z_icmp_eq C 10 dX5_quotedWord_5 (by decide) (fun q11 => ?_) (fun q11 => ?_)
  · rw [if_pos q11] at hf
    refine z_gsA C ev hZ dX5_quotedWord_10 ?_
    refine z_astore_n (lv2 := [(1, .ref ev.2.2.2.1), (0, .ref x0)]) C dX5_quotedWord_13 rfl (by decide) rfl ?_
    refine z_aload_n C dX5_quotedWord_14 rfl 0 rfl ?_
    obtain ⟨v2, hv2, hf⟩ := zbind hf
    refine z_alenW C ev hZ hv2 dX5_quotedWord_15 ?_
    refine z_istore_n (lv2 := [(2, .int v2), (1, .ref ev.2.2.2.1), (0, .ref x0)]) C dX5_quotedWord_16 rfl (by decide) rfl ?_
    refine z_iconst C 0 dX5_quotedWord_17 (by decide) ?_
    refine z_istore_n (lv2 := [(3, .int 0), (2, .int v2), (1, .ref ev.2.2.2.1), (0, .ref x0)]) C dX5_quotedWord_18 rfl (by decide) rfl ?_
    obtain ⟨o8, ho8, hf⟩ := zbind hf
    refine z_sub [3, 2, 1, 0] rfl ?_
    refine wsX5_quotedWord_19 C hRm ev hZ _ _ zfuel (σ, 0) o8 ho8 ⟨?_, ?_⟩
    · intro z9 e9
      subst e9
      dsimp only at hf
      refine z_aload C dX5_quotedWord_41 0 rfl ?_
      cases hf
      exact hq _ _ dX5_quotedWord_43
    · intro z10 e9
      subst e9
      dsimp only at hf
      refine z_null C dX5_quotedWord_50 ?_
      cases hf
      exact hq _ _ dX5_quotedWord_51
  · rw [if_neg q11] at hf
    refine z_null C dX5_quotedWord_8 ?_
    cases hf
    exact hq _ _ dX5_quotedWord_9

theorem mX5_quotedWord (l : Launch) (D : va_G) (Ca : Nat → ClassId) (B : Nat) (En : State → Prop) (hE : zEk B En) (ev : zEv) (hZ : ∀ U : State, En U → zEnv ev B U) (σ : zS) (N : Nat) (x0 : Nat) (X : zS × Option Nat) (hf : fX5_quotedWord σ x0 = some X) : zMq l D Ca B En yX5_quotedWord cX5_quotedWord 5 (Option.some (Jvm.ClassFile.FieldType.object "BarrierFlow$Word")) 5 107 [.ref x0] σ N X.1 (X.2.map ev.1) :=
  zMet_q (own := RX5) hE (by decide +kernel) rfl (Nat.le_of_ble_eq_true rfl) (fun p e s m args below meth c C hr hRm => wfX5_quotedWord C hRm ev hZ σ x0 X.1 X.2 hf (fun pc lv hd => zfin_q C hr (Or.inl ⟨_, rfl⟩) hd))
theorem dX5_refuse_0 : decode cX5_refuse 0 = .ok (.aload_n 0, 1) := by decide +kernel
theorem dX5_refuse_1 : decode cX5_refuse 1 = .ok (.iload_n 1, 1) := by decide +kernel
theorem dX5_refuse_2 : decode cX5_refuse 2 = .ok (.putfield 28, 3) := by decide +kernel
theorem dX5_refuse_5 : decode cX5_refuse 5 = .ok (.aload_n 0, 1) := by decide +kernel
theorem dX5_refuse_6 : decode cX5_refuse 6 = .ok (.aload_n 0, 1) := by decide +kernel
theorem dX5_refuse_7 : decode cX5_refuse 7 = .ok (.getfield 114, 3) := by decide +kernel
theorem dX5_refuse_10 : decode cX5_refuse 10 = .ok (.putfield 9, 3) := by decide +kernel
theorem dX5_refuse_13 : decode cX5_refuse 13 = .ok (.iconst 0, 1) := by decide +kernel
theorem dX5_refuse_14 : decode cX5_refuse 14 = .ok (.ireturn, 1) := by decide +kernel
theorem hyX5_refuse : yX5_refuse.cls ≠ "java/lang/invoke/MethodHandle" ∧ yX5_refuse.cls ≠ "java/lang/invoke/VarHandle" ∧ (parseMethodDescriptor yX5_refuse.desc).map (fun d => d.parameters.length) = some 1 := ⟨by decide +kernel, by decide +kernel, by decide +kernel⟩
def fX5_refuse (σ : zS) (x0 : Nat) (x1 : Int32) : Option (zS × Int32) :=
  (zpI 5 0 σ x0 x1).bind fun σ1 => (zgI 5 5 σ1 x0).bind fun v2 => (zpI 5 1 σ1 x0 v2).bind fun σ3 => zrZ σ3 0
set_option maxRecDepth 100000 in
set_option maxHeartbeats 4000000 in
theorem wfX5_refuse (C : zC p s m args meth c cX5_refuse RX5 2 D Ca B En) (hRm : zRm R 0 0 cells slots) (σ : zS) (x0 : Nat) (x1 : Int32) (τ : zS) (r : Int32) (hf : fX5_refuse σ x0 x1 = some (τ, r)) (hq : ∀ (pc : Nat) (lv : List (Nat × Value)), (r = 0 ∨ r = 1) → decode cX5_refuse pc = .ok (.ireturn, 1) → zW p l e R s m args below meth c cells slots Q D Ca B 2 τ N pc lv [.int r]) : zW p l e R s m args below meth c cells slots Q D Ca B 2 σ N 0 [(0, .ref x0), (1, .int x1)] [] := by
  unfold fX5_refuse at hf
  refine z_aload_n C dX5_refuse_0 rfl 0 rfl ?_
  refine z_iload_n C dX5_refuse_1 rfl 1 rfl ?_
  obtain ⟨σ1, hσ1, hf⟩ := zbind hf
  refine gp_RX5_28 C hσ1 dX5_refuse_2 ?_
  refine z_aload_n C dX5_refuse_5 rfl 0 rfl ?_
  refine z_aload_n C dX5_refuse_6 rfl 0 rfl ?_
  obtain ⟨v2, hv2, hf⟩ := zbind hf
  refine gf_RX5_114 C hv2 dX5_refuse_7 ?_
  obtain ⟨σ3, hσ3, hf⟩ := zbind hf
  refine gp_RX5_9 C hσ3 dX5_refuse_10 ?_
  refine z_iconst C 0 dX5_refuse_13 (by decide) ?_
  obtain ⟨e9, b9⟩ := zrZ_ok hf
  cases e9
  exact hq _ _ b9 dX5_refuse_14

theorem mX5_refuse (l : Launch) (D : va_G) (Ca : Nat → ClassId) (B : Nat) (En : State → Prop) (hE : zEk B En) (σ : zS) (N : Nat) (x0 : Nat) (x1 : Int32) (X : zS × Int32) (hf : fX5_refuse σ x0 x1 = some X) : zMi l D Ca B En yX5_refuse cX5_refuse 2 (Option.some Jvm.ClassFile.FieldType.boolean) 0 0 [.ref x0, .int x1] σ N X.1 X.2 :=
  zMet_i (own := RX5) hE (by decide +kernel) rfl (Nat.le_of_ble_eq_true rfl) (fun p e s m args below meth c C hr hRm => wfX5_refuse C hRm σ x0 x1 X.1 X.2 hf (fun pc lv hb hd => zfin_z C hb hr hd))
end ZM
